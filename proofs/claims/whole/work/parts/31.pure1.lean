/-! end, gone, found, forget; who is a fund, a holder; which day is booked -/
theorem uUS_isFund {M : bz_Mm} {a : Int} (h : r32 a) (hf : 0 ≤ M 1 14 ∧ M 1 14 ≤ 4) : (w32 (fUS_isFund M a) = 0) ↔ ¬ (0 ≤ a ∧ a < M 1 14) := by
  unfold fUS_isFund
  rw [r32_w h, w32_id (x := M 1 14) (by omega) (by omega)]
  repeat' split
  all_goals first | (rw [w32_0]; simp; omega) | (rw [w32_1p]; simp; omega)
theorem uUS_isHolder {M : bz_Mm} {a : Int} (h : r32 a) (hf : 0 ≤ M 1 15 ∧ M 1 15 ≤ 16) : (w32 (fUS_isHolder M a) = 0) ↔ ¬ (0 ≤ a ∧ a < M 1 15) := by
  unfold fUS_isHolder
  rw [r32_w h, w32_id (x := M 1 15) (by omega) (by omega)]
  repeat' split
  all_goals first | (rw [w32_0]; simp; omega) | (rw [w32_1p]; simp; omega)
theorem uM_isFund {M : bz_Mm} {a : Int} (h : r32 a) (hf : 0 ≤ M 81 19 ∧ M 81 19 ≤ 4) : (w32 (fM_isFund M a) = 0) ↔ ¬ (0 ≤ a ∧ a < M 81 19) := by
  unfold fM_isFund
  rw [r32_w h, w32_id (x := M 81 19 - 1) (by omega) (by omega), fM_in_0 h (r32_of (by decide) (by decide)) (r32_of (by omega) (by omega))]
  omega
theorem uU_end {F : Nat} {M : bz_Mm} {a : Int} (h : r32 a) (ht : 0 ≤ M 50 2 ∧ M 50 2 ≤ 600) : fU_end F M a = some (if 0 ≤ a ∧ a ≤ M 50 2 then (1, st_ M 50 2 a) else (0, M)) := by
  unfold fU_end wf_
  simp only [r32_w h, w32_id (x := M 50 2) (by omega) (by omega)]
  repeat' split
  all_goals first | rfl | (exfalso; omega)
theorem uM_end {F : Nat} {M : bz_Mm} {a : Int} (h : r32 a) (ht : 0 ≤ M 81 37 ∧ M 81 37 ≤ 600) : fM_end F M a = some (if 0 ≤ a ∧ a ≤ M 81 37 then (1, st_ M 81 37 a) else (0, M)) := by
  unfold fM_end wf_
  simp only [r32_w h, w32_id (x := M 81 37) (by omega) (by omega), fM_in_0 h (r32_of (by decide) (by decide) : r32 0) (r32_of (by omega) (by omega) : r32 (M 81 37))]
  repeat' split
  all_goals first | rfl | (exfalso; omega)
theorem uU_gone {F : Nat} {M : bz_Mm} {a : Int} (h : r32 a) (hf : 0 ≤ M 1 15 ∧ M 1 15 ≤ 16) (hg : ∀ j, j < 16 → r32 (M 5 j)) : fU_gone F M a = some (if 0 ≤ a ∧ a < M 1 15 ∧ M 5 a.toNat = -1 then (1, st_ M 5 a.toNat (M 1 13)) else (0, M)) := by
  unfold fU_gone rd_ wa_
  simp only [uUS_isHolder h hf, r32_w h]
  by_cases h1 : 0 ≤ a ∧ a < M 1 15
  · have e2 : w32 (M 5 a.toNat) = M 5 a.toNat := r32_w (hg _ (by omega))
    rw [if_neg (by simp [h1]), if_pos (show 0 ≤ a ∧ a < ((16 : Nat) : Int) by omega), e2]
    by_cases h3 : M 5 a.toNat = -1
    · rw [if_pos h3, if_pos (show 0 ≤ a ∧ a < ((16 : Nat) : Int) by omega), if_pos ⟨h1.1, h1.2, h3⟩]
    · rw [if_neg h3, if_neg (fun q => h3 q.2.2)]
  · rw [if_pos h1, if_neg (fun q => h1 ⟨q.1, q.2.1⟩)]
theorem uM_gone {F : Nat} {M : bz_Mm} {a : Int} (h : r32 a) (hf : 0 ≤ M 81 20 ∧ M 81 20 ≤ 16) (hg : ∀ j, j < 16 → r32 (M 95 j)) : fM_gone F M a = some (if 0 ≤ a ∧ a < M 81 20 ∧ M 95 a.toNat = -1 then (1, st_ M 95 a.toNat (M 81 0)) else (0, M)) := by
  unfold fM_gone rd_ wa_
  simp only [r32_w h, w32_id (x := M 81 20 - 1) (by omega) (by omega), fM_in_0 h (r32_of (by decide) (by decide) : r32 0) (r32_of (by omega) (by omega) : r32 (M 81 20 - 1))]
  by_cases h1 : 0 ≤ a ∧ a < M 81 20
  · have e2 : w32 (M 95 a.toNat) = M 95 a.toNat := r32_w (hg _ (by omega))
    rw [if_neg (by omega), if_pos (show 0 ≤ a ∧ a < ((16 : Nat) : Int) by omega), e2]
    by_cases h3 : M 95 a.toNat = -1
    · rw [if_pos h3, if_pos (show 0 ≤ a ∧ a < ((16 : Nat) : Int) by omega), if_pos ⟨h1.1, h1.2, h3⟩]
    · rw [if_neg h3, if_neg (fun q => h3 q.2.2)]
  · rw [if_pos (by omega), if_neg (fun q => h1 ⟨q.1, q.2.1⟩)]
theorem uU_found {F : Nat} {M : bz_Mm} {a : Int} (h : r32 a) (hn : 0 ≤ M 1 13 ∧ M 1 13 ≤ 260) (hf : 0 ≤ M 1 14 ∧ M 1 14 ≤ 4) (hg : ∀ j, j < 4 → r32 (M 3 j)) : fU_found F M a = some (if 0 ≤ a ∧ a < M 1 14 ∧ M 3 a.toNat = -1 ∧ M 1 13 < 260 then (1, st_ M 3 a.toNat (M 1 13)) else (0, M)) := by
  unfold fU_found rd_ wa_
  simp only [uUS_isFund h hf, r32_w h, w32_id (x := M 1 13) (by omega) (by omega)]
  by_cases h1 : 0 ≤ a ∧ a < M 1 14
  · have e2 : w32 (M 3 a.toNat) = M 3 a.toNat := r32_w (hg _ (by omega))
    rw [if_neg (by simp [h1]), if_pos (show 0 ≤ a ∧ a < ((4 : Nat) : Int) by omega), e2]
    by_cases h3 : M 3 a.toNat = -1
    · by_cases h4 : M 1 13 < 260
      · rw [if_pos h3, if_pos h4, if_pos (show 0 ≤ a ∧ a < ((4 : Nat) : Int) by omega), if_pos ⟨h1.1, h1.2, h3, h4⟩]
      · rw [if_pos h3, if_neg h4, if_neg (fun q => h4 q.2.2.2)]
    · rw [if_neg h3, if_neg (fun q => h3 q.2.2.1)]
  · rw [if_pos h1, if_neg (fun q => h1 ⟨q.1, q.2.1⟩)]
theorem uM_found {F : Nat} {M : bz_Mm} {a : Int} (h : r32 a) (hn : 0 ≤ M 81 0 ∧ M 81 0 ≤ 260) (hf : 0 ≤ M 81 19 ∧ M 81 19 ≤ 4) (hg : ∀ j, j < 4 → r32 (M 96 j)) : fM_found F M a = some (if 0 ≤ a ∧ a < M 81 19 ∧ M 96 a.toNat = -1 ∧ M 81 0 < 260 then (1, st_ M 96 a.toNat (M 81 0)) else (0, M)) := by
  unfold fM_found rd_ wa_
  simp only [uM_isFund h hf, r32_w h, w32_id (x := M 81 0) (by omega) (by omega)]
  by_cases h1 : 0 ≤ a ∧ a < M 81 19
  · have e2 : w32 (M 96 a.toNat) = M 96 a.toNat := r32_w (hg _ (by omega))
    rw [if_neg (by simp [h1]), if_pos (show 0 ≤ a ∧ a < ((4 : Nat) : Int) by omega), e2]
    by_cases h3 : M 96 a.toNat = -1
    · by_cases h4 : M 81 0 = 260
      · rw [if_pos h3, if_pos h4, if_neg (fun q => by have := q.2.2.2; omega)]
      · rw [if_pos h3, if_neg h4, if_pos (show 0 ≤ a ∧ a < ((4 : Nat) : Int) by omega), if_pos ⟨h1.1, h1.2, h3, by omega⟩]
    · rw [if_neg h3, if_neg (fun q => h3 q.2.2.1)]
  · rw [if_pos h1, if_neg (fun q => h1 ⟨q.1, q.2.1⟩)]
theorem uU_forget {F : Nat} {M : bz_Mm} : fU_forget F M = some (M 77 3 + M 17 2, st_ (st_ (st_ M 77 3 0) 77 4 0) 17 2 0) := rfl
theorem uM_forget {F : Nat} {M : bz_Mm} : fM_forget F M = some (M 81 69 + M 81 13, st_ (st_ M 81 69 0) 81 13 0) := rfl
theorem uU_isBooked {F : Nat} {M : bz_Mm} {f d : Int} (h : r32 f) (h2 : r32 d) (hn : 0 ≤ M 1 13 ∧ M 1 13 ≤ 260) (hf : 0 ≤ M 1 14 ∧ M 1 14 ≤ 4) (hH : ∀ j, j < 260 → r32 (M 7 j)) [Decidable (p_open (M 7) d)] : fU_isBooked F M f d = some (if 0 ≤ f ∧ f < M 1 14 ∧ d < M 1 13 ∧ p_open (M 7) d then 1 else 0) := by
  unfold fU_isBooked
  simp only [uUS_isFund h hf, r32_w h2, w32_id (x := M 1 13) (by omega) (by omega), uUS_isOpen h2 hH, cl_]
  by_cases h1 : 0 ≤ f ∧ f < M 1 14
  · rw [if_neg (by simp [h1])]
    by_cases h3 : d < M 1 13
    · rw [if_pos h3]
      by_cases h4 : p_open (M 7) d
      · rw [if_pos h4, if_neg (by decide), if_pos ⟨h1.1, h1.2, h3, h4⟩]
      · rw [if_neg h4, if_pos (by decide), if_neg (fun q => h4 q.2.2.2)]
    · rw [if_neg h3, if_neg (fun q => h3 q.2.2.1)]
  · rw [if_pos h1, if_neg (fun q => h1 ⟨q.1, q.2.1⟩)]
