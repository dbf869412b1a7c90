theorem eq_known {F n : Nat} {M : bz_Mm} {s nr day k : Int} (hF : 407 < F) (hI : iv_te M n) (h1 : r32 s) (h2 : r32 nr) (h3 : r32 day) (h4 : r32 k) : ∃ x, fU_known F M s nr day k = some x ∧ fM_known1 F M s nr day k = some x := by
  have z0 : r32 0 := r32_of (by decide) (by decide)
  have z9 : r32 259 := r32_of (by decide) (by decide)
  unfold fU_known fM_known1
  by_cases hs : p_subj s nr
  · rw [if_neg (fun h => (uU_isSubject h1 h2).mp h hs), if_neg (fun h => (uM_isSubject h1 h2).mp h hs), r32_w h3, r32_w h4]
    by_cases hd : 0 ≤ day ∧ day < 260
    · have hd2 : 0 ≤ day ∧ day ≤ 259 := by omega
      rw [if_neg (fun h => (uU_isDay h3).mp h hd), if_neg (fun h => (fM_in_0 h3 z0 z9).mp h hd2)]
      by_cases hk : 0 ≤ k ∧ k < 260
      · have hk2 : 0 ≤ k ∧ k ≤ 259 := by omega
        have hs4 : 0 ≤ s ∧ s ≤ 3 := by unfold p_subj at hs; omega
        rw [if_neg (fun h => (uU_isDay h4).mp h hk), if_neg (fun h => (fM_in_0 h4 z0 z9).mp h hk2)]
        obtain ⟨r, a1, a2, a3⟩ := la_both hF hI hs4 h2 h3 h4
        rw [a1, a2, cl_s, cl_s]
        by_cases hr : r = -1
        · have hw : w32 r = -1 := by rw [hr]; decide
          rw [if_pos (c := w32 r = -1) hw, if_pos (c := w32 r = -1) hw, fM_plain_eq hs4, r32_w h1]
          by_cases e0 : s = 0
          · rw [if_pos e0, if_pos (Or.inl e0)]; exact ⟨0, rfl, rfl⟩
          · rw [if_neg e0]
            by_cases e2 : s = 2
            · rw [if_pos e2, if_pos (Or.inr e2)]; exact ⟨0, rfl, rfl⟩
            · rw [if_neg e2, if_neg (fun h => h.elim e0 e2)]; exact ⟨1000, rfl, rfl⟩
        · obtain ⟨t, ht, rfl⟩ := la_nat a3 hr
          have h400 := hI.2.2.1
          have t4 : t < 400 := by omega
          have t5 : t < 407 := by omega
          have t6 : t ≤ 2147483647 := by omega
          rw [if_neg (by rw [w32_n t6]; exact hr), if_neg (by rw [w32_n t6]; exact hr), rd_s t4 (by decide), rd_s t5 (by decide), (hI.2.2.2.2.1 t ht).2.2.2.1]
          exact ⟨_, rfl, rfl⟩
      · have hk2 : ¬ (0 ≤ k ∧ k ≤ 259) := by omega
        rw [if_pos ((uU_isDay h4).mpr hk), if_pos ((fM_in_0 h4 z0 z9).mpr hk2)]
        exact ⟨_, rfl, rfl⟩
    · have hd2 : ¬ (0 ≤ day ∧ day ≤ 259) := by omega
      rw [if_pos ((uU_isDay h3).mpr hd), if_pos ((fM_in_0 h3 z0 z9).mpr hd2)]
      exact ⟨_, rfl, rfl⟩
  · rw [if_pos ((uU_isSubject h1 h2).mpr hs), if_pos ((uM_isSubject h1 h2).mpr hs)]
    exact ⟨_, rfl, rfl⟩
theorem eq_stale {F n : Nat} {M : bz_Mm} {s nr day k : Int} (hF : 407 < F) (hI : iv_te M n) (h1 : r32 s) (h2 : r32 nr) (h3 : r32 day) (h4 : r32 k) : ∃ x, fU_stale F M s nr day k = some x ∧ fM_stale F M s nr day k = some x := by
  have z0 : r32 0 := r32_of (by decide) (by decide)
  have z1 : r32 1 := r32_of (by decide) (by decide)
  have z9 : r32 259 := r32_of (by decide) (by decide)
  unfold fU_stale fM_stale
  rw [r32_w h1, r32_w h3, r32_w h4]
  by_cases hs : p_subj s nr
  · have hs4 : 0 ≤ s ∧ s ≤ 3 := by unfold p_subj at hs; omega
    rw [if_neg (fun h => (uU_isSubject h1 h2).mp h hs), if_neg (c := w32 (fM_isSubject s nr) = 0) (fun h => (uM_isSubject h1 h2).mp h hs)]
    by_cases hd : 0 ≤ day ∧ day < 260
    · have hd2 : 0 ≤ day ∧ day ≤ 259 := by omega
      rw [if_neg (fun h => (uU_isDay h3).mp h hd), if_neg (c := w32 (fM_in day 0 259) = 0) (fun h => (fM_in_0 h3 z0 z9).mp h hd2)]
      by_cases hk : 0 ≤ k ∧ k < 260
      · have hk2 : 0 ≤ k ∧ k ≤ 259 := by omega
        rw [if_neg (fun h => (uU_isDay h4).mp h hk), if_neg (c := w32 (fM_in k 0 259) = 0) (fun h => (fM_in_0 h4 z0 z9).mp h hk2)]
        obtain ⟨r, a1, a2, a3⟩ := la_both hF hI hs4 h2 h3 h4
        rw [a1, a2, cl_s, cl_s]
        by_cases hr : r = -1
        · rw [if_pos (by rw [hr]; decide), if_pos (c := w32 r = -1) (by rw [hr]; decide)]
          by_cases e : w32 (fM_in s 0 1) = 0
          · rw [if_pos e]; exact ⟨_, rfl, rfl⟩
          · rw [if_neg e]; exact ⟨_, rfl, rfl⟩
        · have hsS : la_S (M 12) (M 13) (M 10) (M 15) s nr day k r.toNat := by
            rcases a3 with ⟨g1, g2⟩ | ⟨t, g1, g2, g3, g4⟩
            · exact absurd g1 hr
            · rw [g2, Int.toNat_natCast]; exact g3
          obtain ⟨t, ht, rfl⟩ := la_nat a3 hr
          rw [Int.toNat_natCast] at hsS
          have h400 := hI.2.2.1
          have t4 : t < 400 := by omega
          have t5 : t < 407 := by omega
          have t6 : t ≤ 2147483647 := by omega
          have dd := r32_d (hI.2.2.2.1.2.2.2 t ht)
          rw [if_neg (by rw [w32_n t6]; exact hr), if_neg (c := w32 (t : Int) = -1) (by rw [w32_n t6]; exact hr), rd_s t4 (by decide), rd_s t5 (by decide), ← (hI.2.2.2.2.1 t ht).2.2.1, r32_w dd]
          by_cases e5 : s ≤ 1
          · rw [if_neg (c := w32 (fM_in s 0 1) = 0) (fun h => (fM_in_0 h1 z0 z1).mp h ⟨hs4.1, e5⟩)]
            by_cases e6 : M 10 t = day
            · rw [if_pos e6]; exact ⟨_, rfl, rfl⟩
            · rw [if_neg e6]; exact ⟨_, rfl, rfl⟩
          · have e6 : M 10 t = day := by
              rcases hsS.2.2.2 with a | a
              · exact a
              · exact absurd a.1 e5
            rw [if_pos e6, if_pos (c := w32 (fM_in s 0 1) = 0) ((fM_in_0 h1 z0 z1).mpr (fun h => e5 h.2))]
            exact ⟨_, rfl, rfl⟩
      · have hk2 : ¬ (0 ≤ k ∧ k ≤ 259) := by omega
        rw [if_pos ((uU_isDay h4).mpr hk), if_pos (c := w32 (fM_in k 0 259) = 0) ((fM_in_0 h4 z0 z9).mpr hk2)]
        by_cases e : w32 (fM_in s 0 1) = 0
        · rw [if_pos e]; exact ⟨_, rfl, rfl⟩
        · rw [if_neg e]; exact ⟨_, rfl, rfl⟩
    · have hd2 : ¬ (0 ≤ day ∧ day ≤ 259) := by omega
      rw [if_pos ((uU_isDay h3).mpr hd), if_pos (c := w32 (fM_in day 0 259) = 0) ((fM_in_0 h3 z0 z9).mpr hd2)]
      by_cases e : w32 (fM_in s 0 1) = 0
      · rw [if_pos e]; exact ⟨_, rfl, rfl⟩
      · rw [if_neg e]; exact ⟨_, rfl, rfl⟩
  · rw [if_pos ((uU_isSubject h1 h2).mpr hs), if_pos (c := w32 (fM_isSubject s nr) = 0) ((uM_isSubject h1 h2).mpr hs)]
    by_cases e : w32 (fM_in s 0 1) = 0
    · rw [if_pos e]; exact ⟨_, rfl, rfl⟩
    · rw [if_neg e]; exact ⟨_, rfl, rfl⟩
