/-! the pure half: tools, and what each small method does, without machine words -/
def r32 (x : Int) : Prop := -2147483648 ≤ x ∧ x ≤ 2147483647
theorem r32_w {x : Int} (h : r32 x) : w32 x = x := w32_id h.1 h.2
theorem r32_of {x : Int} (h1 : -2147483648 ≤ x) (h2 : x ≤ 2147483647) : r32 x := ⟨h1, h2⟩
theorem st_eq (M : bz_Mm) (a j : Nat) (v : Int) : st_ M a j v a = ud (M a) j v := if_pos rfl
theorem st_ne {M : bz_Mm} {a j : Nat} {v : Int} {b : Nat} (h : b ≠ a) : st_ M a j v b = M b := if_neg h
theorem ud_eq (f : Nat → Int) (j : Nat) (v : Int) : ud f j v j = v := if_pos rfl
theorem ud_ne {f : Nat → Int} {j : Nat} {v : Int} {i : Nat} (h : i ≠ j) : ud f j v i = f i := if_neg h
theorem fM_in_eq {x l h : Int} (hx : -9223372036854775808 ≤ x ∧ x ≤ 9223372036854775807) (hl : -9223372036854775808 ≤ l ∧ l ≤ 9223372036854775807) (hh : -9223372036854775808 ≤ h ∧ h ≤ 9223372036854775807) : fM_in x l h = if l ≤ x ∧ x ≤ h then 1 else 0 := by
  unfold fM_in
  rw [w64_id hx.1 hx.2, w64_id hl.1 hl.2, w64_id hh.1 hh.2]
  by_cases h1 : x < l
  · rw [if_pos h1, if_neg (by omega)]
  · rw [if_neg h1]
    by_cases h2 : h < x
    · rw [if_pos h2, if_neg (by omega)]
    · rw [if_neg h2, if_pos (by omega)]
theorem w32_1p : w32 1 = 1 := by decide
theorem fM_in_0 {x l h : Int} (hx : r32 x) (hl : r32 l) (hh : r32 h) : (w32 (fM_in x l h) = 0) ↔ ¬ (l ≤ x ∧ x ≤ h) := by
  rw [fM_in_eq (by unfold r32 at hx; omega) (by unfold r32 at hl; omega) (by unfold r32 at hh; omega)]
  by_cases h1 : l ≤ x ∧ x ≤ h
  · rw [if_pos h1, w32_1p]; simp [h1]
  · rw [if_neg h1, w32_0]; simp [h1]
/-! paper -/
theorem uU_paper {F : Nat} {M : bz_Mm} {a1 a2 : Int} (h1 : r32 a1) (h2 : r32 a2) (hn : r32 (M 1 13)) : fU_paper F M a1 a2 = some (if 0 ≤ a1 ∧ a1 < 8 ∧ 0 ≤ a2 ∧ a2 < 3 ∧ M 1 13 = 0 then (1, st_ M 6 a1.toNat a2) else (0, M)) := by
  unfold fU_paper wa_
  rw [r32_w h1, r32_w h2, r32_w hn]
  repeat' split
  all_goals first | rfl | (exfalso; omega)
theorem uM_paper {F : Nat} {M : bz_Mm} {a1 a2 : Int} (h1 : r32 a1) (h2 : r32 a2) (hn : r32 (M 81 0)) : fM_paper F M a1 a2 = some (if 0 ≤ a1 ∧ a1 < 8 ∧ 0 ≤ a2 ∧ a2 < 3 ∧ M 81 0 = 0 then (1, st_ M 92 a1.toNat a2) else (0, M)) := by
  unfold fM_paper wa_
  rw [r32_w h1, r32_w h2, r32_w hn]
  simp only [fM_in_0 h1 (r32_of (by decide) (by decide) : r32 0) (r32_of (by decide) (by decide) : r32 7), fM_in_0 h2 (r32_of (by decide) (by decide) : r32 0) (r32_of (by decide) (by decide) : r32 2)]
  repeat' split
  all_goals first | rfl | (exfalso; omega)
/-! holiday, open -/
theorem uU_isDay {a : Int} (h : r32 a) : (w32 (fU_isDay a) = 0) ↔ ¬ (0 ≤ a ∧ a < 260) := by
  unfold fU_isDay
  rw [r32_w h]
  repeat' split
  all_goals first | (rw [w32_0]; simp; omega) | (rw [w32_1p]; simp; omega)
def p_open (H : Nat → Int) (d : Int) : Prop := 0 ≤ d ∧ d < 260 ∧ d % 7 < 5 ∧ H d.toNat = 0
theorem uUS_isOpen {F : Nat} {M : bz_Mm} {a : Int} (h : r32 a) (hH : ∀ j, j < 260 → r32 (M 7 j)) [Decidable (p_open (M 7) a)] : fUS_isOpen F M a = some (if p_open (M 7) a then 1 else 0) := by
  unfold fUS_isOpen rd_
  simp only [uU_isDay h, r32_w h]
  by_cases hd : 0 ≤ a ∧ a < 260
  · have e1 : w32 (a.tmod 7) = a % 7 := by
      rw [Int.tmod_eq_emod_of_nonneg hd.1]; exact w32_id (by omega) (by omega)
    have e2 : w32 (M 7 a.toNat) = M 7 a.toNat := r32_w (hH _ (by omega))
    rw [if_neg (by simp [hd]), e1, if_pos (show 0 ≤ a ∧ a < ((260 : Nat) : Int) from hd), e2]
    by_cases hp : p_open (M 7) a
    · rw [if_pos hp, if_pos hp.2.2.1, if_pos hp.2.2.2]
    · rw [if_neg hp]
      by_cases h7 : a % 7 < 5
      · rw [if_pos h7, if_neg (fun h0 => hp ⟨hd.1, hd.2, h7, h0⟩)]
      · rw [if_neg h7]
  · rw [if_pos (by simpa using hd), if_neg (fun hp => hd ⟨hp.1, hp.2.1⟩)]
theorem uM_isOpen {F : Nat} {M : bz_Mm} {a : Int} (h : r32 a) (hH : ∀ j, j < 260 → r32 (M 82 j)) [Decidable (p_open (M 82) a)] : fM_isOpen F M a = some (if p_open (M 82) a then 1 else 0) := by
  unfold fM_isOpen rd_
  simp only [r32_w h, fM_in_0 h (r32_of (by decide) (by decide) : r32 0) (r32_of (by decide) (by decide) : r32 259)]
  by_cases hd : 0 ≤ a ∧ a < 260
  · have e1 : w32 (a.tmod 7) = a % 7 := by
      rw [Int.tmod_eq_emod_of_nonneg hd.1]; exact w32_id (by omega) (by omega)
    have e2 : w32 (M 82 a.toNat) = M 82 a.toNat := r32_w (hH _ (by omega))
    rw [if_neg (by omega), e1, if_pos (show 0 ≤ a ∧ a < ((260 : Nat) : Int) from hd), e2]
    by_cases hp : p_open (M 82) a
    · rw [if_pos hp, if_pos hp.2.2.1, if_pos hp.2.2.2]
    · rw [if_neg hp]
      by_cases h7 : a % 7 < 5
      · rw [if_pos h7, if_neg (fun h0 => hp ⟨hd.1, hd.2, h7, h0⟩)]
      · rw [if_neg h7]
  · rw [if_pos (by omega), if_neg (fun hp => hd ⟨hp.1, hp.2.1⟩)]
theorem uU_holiday {F : Nat} {M : bz_Mm} {a : Int} (h : r32 a) (hn : 0 ≤ M 1 13 ∧ M 1 13 ≤ 260) (hH : ∀ j, j < 260 → r32 (M 7 j)) : fU_holiday F M a = some (if M 1 13 < a ∧ a < 260 ∧ M 7 a.toNat = 0 then (1, st_ (st_ M 7 a.toNat 1) 1 16 (M 1 16 + 1)) else (0, M)) := by
  unfold fU_holiday rd_ wa_ wf_
  simp only [r32_w h, w32_id (x := M 1 13) (by omega) (by omega), st_ne (show (1 : Nat) ≠ 7 by decide)]
  by_cases h1 : M 1 13 < a
  · by_cases h2 : a < 260
    · have e2 : w32 (M 7 a.toNat) = M 7 a.toNat := r32_w (hH _ (by omega))
      rw [if_pos h1, if_pos h2, if_pos (show 0 ≤ a ∧ a < ((260 : Nat) : Int) by omega), e2]
      by_cases h3 : M 7 a.toNat = 0
      · rw [if_pos h3, if_pos (show 0 ≤ a ∧ a < ((260 : Nat) : Int) by omega), if_pos ⟨h1, h2, h3⟩]
      · rw [if_neg h3, if_neg (fun q => h3 q.2.2)]
    · rw [if_pos h1, if_neg h2, if_neg (fun q => h2 q.2.1)]
  · rw [if_neg h1, if_neg (fun q => h1 q.1)]
theorem uM_holiday {F : Nat} {M : bz_Mm} {a : Int} (h : r32 a) (hn : 0 ≤ M 81 0 ∧ M 81 0 ≤ 260) (hH : ∀ j, j < 260 → r32 (M 82 j)) : fM_holiday F M a = some (if M 81 0 < a ∧ a < 260 ∧ M 82 a.toNat = 0 then (1, st_ (st_ M 82 a.toNat 1) 81 2 (M 81 2 + 1)) else (0, M)) := by
  unfold fM_holiday rd_ wa_ wf_
  simp only [r32_w h, w32_id (x := M 81 0 + 1) (by omega) (by omega), st_ne (show (81 : Nat) ≠ 82 by decide)]
  simp only [fM_in_0 h (r32_of (by omega) (by omega) : r32 (M 81 0 + 1)) (r32_of (by decide) (by decide) : r32 259)]
  by_cases h1 : M 81 0 < a ∧ a < 260
  · have e2 : w32 (M 82 a.toNat) = M 82 a.toNat := r32_w (hH _ (by omega))
    rw [if_neg (by omega), if_pos (show 0 ≤ a ∧ a < ((260 : Nat) : Int) by omega), e2]
    by_cases h3 : M 82 a.toNat = 0
    · rw [if_pos h3, if_pos (show 0 ≤ a ∧ a < ((260 : Nat) : Int) by omega), if_pos ⟨h1.1, h1.2, h3⟩]
    · rw [if_neg h3, if_neg (fun q => h3 q.2.2)]
  · rw [if_pos (by omega), if_neg (fun q => h1 ⟨q.1, q.2.1⟩)]
/-! fund, holder -/
theorem uU_fund {F : Nat} {M : bz_Mm} {a : Int} (h : r32 a) (hn : 0 ≤ M 1 13 ∧ M 1 13 ≤ 260) (hf : 0 ≤ M 1 14 ∧ M 1 14 ≤ 4) : fU_fund F M a = some (if 0 ≤ a ∧ a ≤ 100000000 ∧ M 1 14 < 4 ∧ M 1 13 = 0 then (M 1 14, st_ (st_ (st_ M 2 (M 1 14).toNat a) 1 14 (M 1 14 + 1)) 1 17 (M 1 17 + 1)) else (-1, M)) := by
  unfold fU_fund lt_ wa_ wf_
  simp only [r32_w h, w32_id (x := M 1 13) (by omega) (by omega), w32_id (x := M 1 14) (by omega) (by omega), st_ne (show (1 : Nat) ≠ 2 by decide), st_eq, ud_ne (show (17 : Nat) ≠ 14 by decide)]
  repeat' split
  all_goals first | rfl | (exfalso; omega)
theorem uM_fund {F : Nat} {M : bz_Mm} {a : Int} (h : r32 a) (hn : 0 ≤ M 81 0 ∧ M 81 0 ≤ 260) (hf : 0 ≤ M 81 19 ∧ M 81 19 ≤ 4) : fM_fund F M a = some (if 0 ≤ a ∧ a ≤ 100000000 ∧ M 81 19 < 4 ∧ M 81 0 = 0 then (M 81 19, st_ (st_ (st_ M 93 (M 81 19).toNat a) 96 (M 81 19).toNat (-1)) 81 19 (M 81 19 + 1)) else (-1, M)) := by
  unfold fM_fund wa_ wf_
  simp only [r32_w h, w32_id (x := M 81 0) (by omega) (by omega), w32_id (x := M 81 19) (by omega) (by omega), st_ne (show (81 : Nat) ≠ 93 by decide), st_ne (show (81 : Nat) ≠ 96 by decide), st_eq, ud_eq, fM_in_0 h (r32_of (by decide) (by decide) : r32 0) (r32_of (by decide) (by decide) : r32 100000000), Int.add_sub_cancel]
  repeat' split
  all_goals first | rfl | (exfalso; omega)
theorem uU_holder {F : Nat} {M : bz_Mm} {a : Int} (h : r32 a) (hf : 0 ≤ M 1 15 ∧ M 1 15 ≤ 16) : fU_holder F M a = some (if -11 ≤ a ∧ a ≤ 12 ∧ M 1 15 < 16 then (M 1 15, st_ (st_ M 4 (M 1 15).toNat a) 1 15 (M 1 15 + 1)) else (-1, M)) := by
  unfold fU_holder lt_ wa_ wf_
  simp only [r32_w h, w32_id (x := M 1 15) (by omega) (by omega)]
  repeat' split
  all_goals first | rfl | (exfalso; omega)
theorem uM_holder {F : Nat} {M : bz_Mm} {a : Int} (h : r32 a) (hf : 0 ≤ M 81 20 ∧ M 81 20 ≤ 16) : fM_holder F M a = some (if -11 ≤ a ∧ a ≤ 12 ∧ M 81 20 < 16 then (M 81 20, st_ (st_ (st_ M 94 (M 81 20).toNat a) 95 (M 81 20).toNat (-1)) 81 20 (M 81 20 + 1)) else (-1, M)) := by
  unfold fM_holder wa_ wf_
  simp only [r32_w h, w32_id (x := M 81 20) (by omega) (by omega), st_ne (show (81 : Nat) ≠ 94 by decide), st_ne (show (81 : Nat) ≠ 95 by decide), st_eq, ud_eq, fM_in_0 h (r32_of (by decide) (by decide) : r32 (-11)) (r32_of (by decide) (by decide) : r32 12), Int.add_sub_cancel]
  repeat' split
  all_goals first | rfl | (exfalso; omega)
