/-! tellings: who can be told, and how -/
def p_subj (s n : Int) : Prop := (s = 1 ∧ 1 ≤ n ∧ n ≤ 2) ∨ ((s = 0 ∨ s = 2 ∨ s = 3) ∧ 0 ≤ n ∧ n ≤ 7)
def p_can (s n d v : Int) : Prop := p_subj s n ∧ (0 ≤ d ∧ d < 260) ∧ (s = 0 → 1 ≤ v ∧ v ≤ 10000) ∧ (s = 1 → 1 ≤ v ∧ v ≤ 9999) ∧ (s = 2 → 0 ≤ v ∧ v ≤ 1000) ∧ (s = 3 → 100 ≤ v ∧ v ≤ 10000)
theorem uU_isSubject {s n : Int} (h1 : r32 s) (h2 : r32 n) : (w32 (fU_isSubject s n) = 0) ↔ ¬ p_subj s n := by
  unfold fU_isSubject p_subj
  rw [r32_w h1, r32_w h2]
  repeat' split
  all_goals first | (rw [w32_0]; simp; omega) | (rw [w32_1p]; simp; omega)
theorem uM_isSubject {s n : Int} (h1 : r32 s) (h2 : r32 n) : (w32 (fM_isSubject s n) = 0) ↔ ¬ p_subj s n := by
  unfold fM_isSubject p_subj
  rw [r32_w h1, r32_w h2]
  by_cases hs : s = 1
  · rw [if_pos hs, fM_in_0 h2 (r32_of (by decide) (by decide)) (r32_of (by decide) (by decide))]
    omega
  · rw [if_neg hs]
    simp only [fM_in_0 h1 (r32_of (by decide) (by decide) : r32 0) (r32_of (by decide) (by decide) : r32 3), fM_in_0 h2 (r32_of (by decide) (by decide) : r32 0) (r32_of (by decide) (by decide) : r32 7)]
    repeat' split
    all_goals first | (rw [w32_0]; simp; omega) | (rw [w32_1p]; simp; omega)
theorem uU_canBeTold {s n d v : Int} (h1 : r32 s) (h2 : r32 n) (h3 : r32 d) (h4 : r32 v) : (w32 (fU_canBeTold s n d v) = 0) ↔ ¬ p_can s n d v := by
  unfold fU_canBeTold p_can
  simp only [uU_isDay h3, r32_w h1, r32_w h4]
  by_cases hs : p_subj s n
  · rw [if_neg (fun h => (uU_isSubject h1 h2).mp h hs)]
    by_cases hd : 0 ≤ d ∧ d < 260
    · rw [if_neg (by simp [hd])]
      have hs4 : s = 0 ∨ s = 1 ∨ s = 2 ∨ s = 3 := by unfold p_subj at hs; omega
      simp only [hs, hd, true_and, and_self]
      repeat' split
      all_goals first | (rw [w32_0]; simp; omega) | (rw [w32_1p]; simp; omega)
    · rw [if_pos hd, w32_0]; simp [hd]
  · rw [if_pos ((uU_isSubject h1 h2).mpr hs), w32_0]; simp [hs]
theorem uM_canTell {s n d v : Int} (h1 : r32 s) (h2 : r32 n) (h3 : r32 d) (h4 : r32 v) : (w32 (fM_canTell s n d v) = 0) ↔ ¬ p_can s n d v := by
  unfold fM_canTell p_can
  simp only [r32_w h3, fM_in_0 h3 (r32_of (by decide) (by decide) : r32 0) (r32_of (by decide) (by decide) : r32 259), r32_w h1, r32_w h4]
  by_cases hs : p_subj s n
  · rw [if_neg (fun h => (uM_isSubject h1 h2).mp h hs)]
    by_cases hd : 0 ≤ d ∧ d < 260
    · rw [if_neg (by omega)]
      have hs4 : s = 0 ∨ s = 1 ∨ s = 2 ∨ s = 3 := by unfold p_subj at hs; omega
      simp only [hs, hd, true_and, and_self]
      by_cases e0 : s = 0
      · rw [if_pos e0, fM_in_0 h4 (r32_of (by decide) (by decide)) (r32_of (by decide) (by decide))]; omega
      · rw [if_neg e0]
        by_cases e1 : s = 1
        · rw [if_pos e1, fM_in_0 h4 (r32_of (by decide) (by decide)) (r32_of (by decide) (by decide))]; omega
        · rw [if_neg e1]
          by_cases e2 : s = 2
          · rw [if_pos e2, fM_in_0 h4 (r32_of (by decide) (by decide)) (r32_of (by decide) (by decide))]; omega
          · rw [if_neg e2, fM_in_0 h4 (r32_of (by decide) (by decide)) (r32_of (by decide) (by decide))]; omega
    · rw [if_pos (by omega), w32_0]; simp [hd]
  · rw [if_pos ((uM_isSubject h1 h2).mpr hs), w32_0]; simp [hs]
theorem cl_s {α β : Type} (a : β) (k : β → Option α) : cl_ (some a) k = k a := rfl
theorem wa_s {α : Type} {M : bz_Mm} {a n j : Nat} {v : Int} {k : bz_Mm → Option α} (h : j < n) (hn : n ≤ 2147483647) : wa_ M a (j : Int) n v k = k (st_ M a j v) := by
  have g : w32 (j : Int) = (j : Int) := w32_id (by omega) (by omega)
  unfold wa_
  rw [g, if_pos (by omega), Int.toNat_natCast]
theorem rd_s {α : Type} {M : bz_Mm} {a n j : Nat} {k : Int → Option α} (h : j < n) (hn : n ≤ 2147483647) : rd_ M a (j : Int) n k = k (M a j) := by
  have g : w32 (j : Int) = (j : Int) := w32_id (by omega) (by omega)
  unfold rd_
  rw [g, if_pos (by omega), Int.toNat_natCast]
theorem wf_s {α : Type} {M : bz_Mm} {a j : Nat} {v : Int} {k : bz_Mm → Option α} : wf_ M a j v k = k (st_ M a j v) := rfl
def te_m (M : bz_Mm) (o : Nat → Int) (n : Nat) (s nr d v w : Int) : bz_Mm := st_ (st_ (st_ (st_ (by_m_9 M o n d) 12 n s) 13 n nr) 14 n v) 15 n w
theorem uUTe_add_8 {F : Nat} {M : bz_Mm} {s nr d v w : Int} {n : Nat} (hF : 400 < F) (hD : 0 ≤ d ∧ d < 260) (hn : M 9 2 = n) (hc : n < 400) (hb : by_ok (M 10) (M 11) n) : ∃ o, fUTe_add_8 F M s nr d v w = some ((n : Int), te_m M o n s nr d v w) ∧ by_ok (ud (M 10) n d) o (n + 1) := by
  obtain ⟨o, h1, h2⟩ := by_add_9 hF hD hn hc hb
  refine ⟨o, ?_, h2⟩
  unfold fUTe_add_8
  rw [h1, cl2_s, if_neg (by rw [w32_id (x := (n : Int)) (by omega) (by omega)]; omega), wa_s hc (by decide), wa_s hc (by decide), wa_s hc (by decide), wa_s hc (by decide)]
  unfold te_m
  exact Eq.refl _
theorem uUTe_full_8 {F : Nat} {M : bz_Mm} {s nr d v w : Int} (hn : M 9 2 = 400) : fUTe_add_8 F M s nr d v w = some (-1, M) := by
  unfold fUTe_add_8
  rw [by_full_9 hn, cl2_s, if_pos (by decide)]
