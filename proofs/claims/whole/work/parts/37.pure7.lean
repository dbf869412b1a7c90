/-! trade, both sides -/
def p_tr (fu now f p d pc pe : Int) : Prop := (0 ≤ f ∧ f < fu) ∧ (0 ≤ p ∧ p < 8) ∧ (0 ≤ d ∧ d ≤ now) ∧ now < 260 ∧ (-10000 ≤ pc ∧ pc ≤ 10000) ∧ (-100000000 ≤ pe ∧ pe ≤ 100000000)
theorem uU_isWithin {a c : Int} (h : r32 a) (hc : 0 ≤ c ∧ c ≤ 2147483647) : (w32 (fU_isWithin a c) = 0) ↔ ¬ (-c ≤ a ∧ a ≤ c) := by
  unfold fU_isWithin
  rw [r32_w h, w32_id (x := c) (by omega) (by omega), w32_id (x := -c) (by omega) (by omega)]
  repeat' split
  all_goals first | (rw [w32_0]; simp; omega) | (rw [w32_1p]; simp; omega)
def tr_m (M : bz_Mm) (o : Nat → Int) (n : Nat) (f p d w : Int) : bz_Mm := st_ (st_ (st_ (by_m_25 M o n d) 28 n f) 29 n p) 32 n w
theorem uUTr_add {F : Nat} {M : bz_Mm} {f p d w : Int} {n : Nat} (hF : 120 < F) (hD : 0 ≤ d ∧ d < 260) (hn : M 25 2 = n) (hc : n < 120) (hb : by_ok (M 26) (M 27) n) : ∃ o, fUTr_add F M f p d w = some ((n : Int), tr_m M o n f p d w) ∧ by_ok (ud (M 26) n d) o (n + 1) := by
  obtain ⟨o, h1, h2⟩ := by_add_25 hF hD hn hc hb
  have n5 : n ≤ 2147483647 := by omega
  have l3 : ¬ (n : Int) = -1 := by omega
  refine ⟨o, ?_, h2⟩
  unfold fUTr_add
  rw [h1, cl2_s, if_neg (by rw [w32_n n5]; exact l3), wa_s hc (by decide), wa_s hc (by decide), wa_s hc (by decide)]
  unfold tr_m
  exact Eq.refl _
theorem uUTr_full {F : Nat} {M : bz_Mm} {f p d w : Int} (hn : M 25 2 = 120) : fUTr_add F M f p d w = some (-1, M) := by
  unfold fUTr_add
  rw [by_full_25 hn, cl2_s, if_pos (by decide)]
theorem uU_trade_no {F : Nat} {M : bz_Mm} {f p d pc pe : Int} (h1 : r32 f) (h2 : r32 p) (h3 : r32 d) (h4 : r32 pc) (h5 : r32 pe) (h0 : 0 ≤ M 1 13 ∧ M 1 13 ≤ 260) (hf : 0 ≤ M 1 14 ∧ M 1 14 ≤ 4) (hp : ¬ p_tr (M 1 14) (M 1 13) f p d pc pe) : fU_trade F M f p d pc pe = some (-1, M) := by
  unfold fU_trade
  unfold p_tr at hp
  simp only [uUS_isFund h1 hf, r32_w h2, r32_w h3, w32_id (x := M 1 13) (by omega) (by omega), uU_isWithin h4 (show (0 : Int) ≤ 10000 ∧ (10000 : Int) ≤ 2147483647 by decide), uU_isWithin h5 (show (0 : Int) ≤ 100000000 ∧ (100000000 : Int) ≤ 2147483647 by decide)]
  repeat' split
  all_goals first | rfl | (exfalso; omega)
theorem uU_trade_yes {F n : Nat} {M : bz_Mm} {f p d pc pe : Int} (hF : 120 < F) (h1 : r32 f) (h2 : r32 p) (h3 : r32 d) (h4 : r32 pc) (h5 : r32 pe) (h0 : 0 ≤ M 1 13 ∧ M 1 13 ≤ 260) (hf : 0 ≤ M 1 14 ∧ M 1 14 ≤ 4) (hn : M 25 2 = n) (hc : n ≤ 120) (hb : by_ok (M 26) (M 27) n) (hp : p_tr (M 1 14) (M 1 13) f p d pc pe) : (n < 120 → ∃ o, by_ok (ud (M 26) n d) o (n + 1) ∧ fU_trade F M f p d pc pe = some ((n : Int), st_ (st_ (st_ (tr_m M o n f p d (M 1 13)) 30 n pc) 31 n pe) 1 17 (M 1 17 + 1))) ∧ (¬ n < 120 → fU_trade F M f p d pc pe = some (-1, M)) := by
  obtain ⟨p1, p2, p3, p4, p5, p6⟩ := hp
  have d1 : 0 ≤ d ∧ d < 260 := by omega
  have n5 : n ≤ 2147483647 := by omega
  have l3 : ¬ (n : Int) = -1 := by omega
  have q1 : ¬ p < 0 := by omega
  have q2 : ¬ d < 0 := by omega
  have q3 : ¬ M 1 13 < d := by omega
  have q4 : ¬ n < 120 → n = 120 := by omega
  have g0 : r32 (M 1 13) := ⟨by omega, by omega⟩
  unfold fU_trade
  rw [if_neg (fun h => (uUS_isFund h1 hf).mp h p1), r32_w h2, r32_w h3, r32_w g0, if_neg q1, if_pos p2.2, if_neg q2, if_neg q3, if_pos p4, if_neg (fun h => (uU_isWithin h4 (by decide)).mp h p5), if_neg (fun h => (uU_isWithin h5 (by decide)).mp h p6)]
  refine ⟨fun hlt => ?_, fun hge => ?_⟩
  · obtain ⟨o, ho, hk⟩ := uUTr_add (F := F) (f := f) (p := p) (w := M 1 13) hF d1 hn hlt hb
    refine ⟨o, hk, ?_⟩
    have e1 : tr_m M o n f p d (M 1 13) 1 = M 1 := by
      unfold tr_m by_m_25
      rw [st_ne (by decide), st_ne (by decide), st_ne (by decide), st_ne (by decide), st_ne (by decide), if_neg (by decide)]
    rw [ho, cl2_s, if_neg (by rw [w32_n n5]; exact l3), wa_s hlt (by decide), wa_s hlt (by decide), wf_s, st_ne (show (1 : Nat) ≠ 31 by decide), st_ne (show (1 : Nat) ≠ 30 by decide), e1]
  · rw [uUTr_full (by rw [hn, q4 hge]; rfl), cl2_s, if_pos (by decide)]
def mt_m (M : bz_Mm) (n : Nat) (f p d pc pe : Int) : bz_Mm := st_ (st_ (st_ (st_ (st_ (st_ (st_ M 97 n f) 98 n p) 99 n d) 100 n pc) 101 n pe) 102 n (M 81 0)) 81 27 ((n : Int) + 1)
theorem uM_trade_yes {F n : Nat} {M : bz_Mm} {f p d pc pe : Int} (h1 : r32 f) (h2 : r32 p) (h3 : r32 d) (h4 : r32 pc) (h5 : r32 pe) (h0 : 0 ≤ M 81 0 ∧ M 81 0 ≤ 260) (hf : 0 ≤ M 81 19 ∧ M 81 19 ≤ 4) (hn : M 81 27 = n) (hc : n < 120) (hp : p_tr (M 81 19) (M 81 0) f p d pc pe) : fM_trade F M f p d pc pe = some ((n : Int), mt_m M n f p d pc pe) := by
  obtain ⟨p1, p2, p3, p4, p5, p6⟩ := hp
  have n5 : n ≤ 2147483647 := by omega
  have p2' : 0 ≤ p ∧ p ≤ 7 := by omega
  have q1 : ¬ (n : Int) = 120 := by omega
  have q2 : ¬ M 81 0 = 260 := by omega
  have g0 : r32 (M 81 0) := ⟨by omega, by omega⟩
  have z0 : r32 0 := r32_of (by decide) (by decide)
  have a1 : (81 : Nat) ≠ 97 := by decide
  have a2 : (81 : Nat) ≠ 98 := by decide
  have a3 : (81 : Nat) ≠ 99 := by decide
  have a4 : (81 : Nat) ≠ 100 := by decide
  have a5 : (81 : Nat) ≠ 101 := by decide
  have a6 : (81 : Nat) ≠ 102 := by decide
  unfold fM_trade
  rw [if_neg (fun h => (uM_isFund h1 hf).mp h p1), r32_w h2, r32_w h3, r32_w g0, r32_w h4, r32_w h5, if_neg (fun h => (fM_in_0 h2 z0 (r32_of (by decide) (by decide))).mp h p2'), if_neg (fun h => (fM_in_0 h3 z0 g0).mp h p3), if_neg (fun h => (fM_in_0 h4 (r32_of (by decide) (by decide)) (r32_of (by decide) (by decide))).mp h p5), if_neg (fun h => (fM_in_0 h5 (r32_of (by decide) (by decide)) (r32_of (by decide) (by decide))).mp h p6), hn, w32_n n5, if_neg q1, if_neg q2]
  rw [wa_s hc (by decide), st_ne a1, hn, wa_s hc (by decide), st_ne a2, st_ne a1, hn, wa_s hc (by decide), st_ne a3, st_ne a2, st_ne a1, hn, wa_s hc (by decide), st_ne a4, st_ne a3, st_ne a2, st_ne a1, hn, wa_s hc (by decide), st_ne a5, st_ne a4, st_ne a3, st_ne a2, st_ne a1, hn, wa_s hc (by decide), wf_s, st_ne a6, st_ne a5, st_ne a4, st_ne a3, st_ne a2, st_ne a1, hn, st_eq, ud_eq, Int.add_sub_cancel]
  unfold mt_m
  exact Eq.refl _
