/-! tell, both sides -/
def lay_m (M : bz_Mm) (n : Nat) (s nr d v : Int) : bz_Mm := st_ (st_ (st_ (st_ (st_ (st_ M 83 n s) 84 n nr) 85 n d) 86 n v) 87 n (if M 81 0 < 260 then M 81 0 else 259)) 81 12 ((n : Int) + 1)
theorem uM_known0 {M : bz_Mm} (h : 0 ≤ M 81 0 ∧ M 81 0 ≤ 260) : fM_known0 M = if M 81 0 < 260 then M 81 0 else 259 := by
  unfold fM_known0
  rw [w32_id (x := M 81 0) (by omega) (by omega)]
theorem uM_lays {F n : Nat} {M : bz_Mm} {s nr d v : Int} (hn : M 81 12 = n) (hc : n < 407) (h0 : 0 ≤ M 81 0 ∧ M 81 0 ≤ 260) : fM_lays F M s nr d v = some (lay_m M n s nr d v) := by
  have a3 : (81 : Nat) ≠ 83 := by decide
  have a4 : (81 : Nat) ≠ 84 := by decide
  have a5 : (81 : Nat) ≠ 85 := by decide
  have a6 : (81 : Nat) ≠ 86 := by decide
  have a7 : (81 : Nat) ≠ 87 := by decide
  have e4 : ∀ m1 : bz_Mm, m1 81 = M 81 → fM_known0 m1 = if M 81 0 < 260 then M 81 0 else 259 := fun m1 h => by
    have := uM_known0 (M := m1) (by rw [h]; exact h0)
    rw [this, h]
  unfold fM_lays
  rw [hn, wa_s hc (by decide), st_ne a3, hn, wa_s hc (by decide), st_ne a4, st_ne a3, hn, wa_s hc (by decide), st_ne a5, st_ne a4, st_ne a3, hn, wa_s hc (by decide), st_ne a6, st_ne a5, st_ne a4, st_ne a3, hn, wa_s hc (by decide), wf_s, e4 _ (by rw [st_ne a6, st_ne a5, st_ne a4, st_ne a3]), st_ne a7, st_ne a6, st_ne a5, st_ne a4, st_ne a3, hn]
  unfold lay_m
  exact Eq.refl _
theorem uM_tell {F n : Nat} {M : bz_Mm} {s nr d v : Int} (h1 : r32 s) (h2 : r32 nr) (h3 : r32 d) (h4 : r32 v) (hn : M 81 12 = n) (hc : n ≤ 400) (h0 : 0 ≤ M 81 0 ∧ M 81 0 ≤ 260) : (p_can s nr d v ∧ n < 400 ∧ M 81 0 < 260 → fM_tell F M s nr d v = some ((n : Int) + 1, lay_m M n s nr d v)) ∧ (¬ (p_can s nr d v ∧ n < 400 ∧ M 81 0 < 260) → fM_tell F M s nr d v = some (-1, M)) := by
  have f2 : (n : Int) = 400 ↔ n = 400 := by omega
  have f3 : M 81 0 = 260 ↔ ¬ M 81 0 < 260 := by omega
  have n5 : n ≤ 2147483647 := by omega
  have g0 : r32 (M 81 0) := ⟨by omega, by omega⟩
  have l1 : n ≠ 400 → n < 400 := by omega
  have l2 : n < 400 → n ≠ 400 := by omega
  have l3 : n < 400 → n < 407 := by omega
  unfold fM_tell
  by_cases hp : p_can s nr d v
  · rw [if_neg (fun h => (uM_canTell h1 h2 h3 h4).mp h hp), hn, w32_n n5]
    by_cases hq : n = 400
    · rw [if_pos (f2.mpr hq)]
      exact ⟨fun h => absurd hq (l2 h.2.1), fun _ => rfl⟩
    · rw [if_neg (fun h => hq (f2.mp h)), r32_w g0]
      by_cases hz : M 81 0 < 260
      · rw [if_neg (fun h => f3.mp h hz), uM_lays hn (l3 (l1 hq)) h0, cl_s]
        refine ⟨fun _ => ?_, fun h => absurd ⟨hp, l1 hq, hz⟩ h⟩
        have : lay_m M n s nr d v 81 12 = (n : Int) + 1 := by unfold lay_m; rw [st_eq, ud_eq]
        rw [this]
      · rw [if_pos (f3.mpr hz)]
        exact ⟨fun h => absurd h.2.2 hz, fun _ => rfl⟩
  · rw [if_pos ((uM_canTell h1 h2 h3 h4).mpr hp)]
    exact ⟨fun h => absurd h.1 hp, fun _ => rfl⟩
theorem uU_tell {F n : Nat} {M : bz_Mm} {s nr d v : Int} (hF : 400 < F) (h1 : r32 s) (h2 : r32 nr) (h3 : r32 d) (h4 : r32 v) (hn : M 9 2 = n) (hc : n ≤ 400) (h0 : 0 ≤ M 1 13 ∧ M 1 13 ≤ 260) (hb : by_ok (M 10) (M 11) n) : (p_can s nr d v ∧ n < 400 ∧ M 1 13 < 260 → ∃ o, by_ok (ud (M 10) n d) o (n + 1) ∧ fU_tell F M s nr d v = some ((n : Int) + 1, st_ (te_m M o n s nr d v (M 1 13)) 1 17 (M 1 17 + 1))) ∧ (¬ (p_can s nr d v ∧ n < 400 ∧ M 1 13 < 260) → fU_tell F M s nr d v = some (-1, M)) := by
  have f2 : (n : Int) = 400 ↔ n = 400 := by omega
  have n5 : n ≤ 2147483647 := by omega
  have g0 : r32 (M 1 13) := ⟨by omega, by omega⟩
  have l1 : n ≠ 400 → n < 400 := by omega
  have l2 : n < 400 → n ≠ 400 := by omega
  have l3 : ¬ (n : Int) = -1 := by omega
  unfold fU_tell
  by_cases hp : p_can s nr d v
  · rw [if_neg (fun h => (uU_canBeTold h1 h2 h3 h4).mp h hp), r32_w g0]
    by_cases hz : M 1 13 < 260
    · rw [if_pos hz]
      by_cases hq : n = 400
      · rw [uUTe_full_8 (by rw [hn, hq]; rfl), cl2_s, if_pos (by decide)]
        exact ⟨fun h => absurd hq (l2 h.2.1), fun _ => rfl⟩
      · obtain ⟨o, ho, hk⟩ := uUTe_add_8 (F := F) (s := s) (nr := nr) (v := v) (w := M 1 13) hF hp.2.1 hn (l1 hq) hb
        rw [ho, cl2_s, if_neg (by rw [w32_n n5]; exact l3), wf_s]
        refine ⟨fun _ => ⟨o, hk, ?_⟩, fun h => absurd ⟨hp, l1 hq, hz⟩ h⟩
        have e1 : te_m M o n s nr d v (M 1 13) 1 = M 1 := by
          unfold te_m by_m_9
          rw [st_ne (by decide), st_ne (by decide), st_ne (by decide), st_ne (by decide), st_ne (by decide), st_ne (by decide), if_neg (by decide)]
        have e2 : st_ (te_m M o n s nr d v (M 1 13)) 1 17 (M 1 17 + 1) 9 2 = (n : Int) + 1 := by
          rw [st_ne (by decide)]
          unfold te_m by_m_9
          rw [st_ne (by decide), st_ne (by decide), st_ne (by decide), st_ne (by decide), st_eq, ud_eq]
        rw [e1, e2]
    · rw [if_neg hz]
      exact ⟨fun h => absurd h.2.2 hz, fun _ => rfl⟩
  · rw [if_pos ((uU_canBeTold h1 h2 h3 h4).mpr hp)]
    exact ⟨fun h => absurd h.1 hp, fun _ => rfl⟩
