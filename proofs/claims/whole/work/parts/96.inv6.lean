/-! tell, trade, deal -/
theorem wkq_5 {F : Nat} (hF : 1100 < F) (n : Nat) (M : bz_Mm) (a1 a2 a3 a4 : Int) (hn : n < 512) (hI : Iv n M) (h1 : r32 a1) (h2 : r32 a2) (h3 : r32 a3) (h4 : r32 a4) : ∃ (x : Int × bz_Mm) (y : Int × bz_Mm), fU_tell F M a1 a2 a3 a4 = some x ∧ fM_tell F x.2 a1 a2 a3 a4 = some y ∧ w32 x.1 = w32 y.1 ∧ Iv (n + 1) y.2 := by
  have hI0 := hI
  obtain ⟨nn, nf, nt, nd, nl, now, nh, ns, na, h⟩ := hI
  obtain ⟨f1, f2, f3, f4, f5, f6⟩ := h.f
  have a := h.1.1
  have e13 := a.1.1
  have e0 := a.1.2.1
  obtain ⟨⟨⟨l1, l2⟩, l3, l4⟩, ⟨l5, l6⟩, l7, l8⟩ := a.2.2.1
  obtain ⟨u1, u2⟩ := uU_tell (F := F) (M := M) (by omega) h1 h2 h3 h4 l1 l2 f1 l3
  by_cases c : p_can a1 a2 a3 a4 ∧ nn < 400 ∧ M 1 13 < 260
  · obtain ⟨o, ob, eu⟩ := u1 c
    have bx : ∀ q, q ≠ 9 → q ≠ 10 → q ≠ 11 → by_m_9 M o nn a3 q = M q := fun q v1 v2 v3 => by
      unfold by_m_9; rw [st_ne v1, st_ne v2]; exact if_neg v3
    have x0 : ∀ q, q ≠ 1 → q ≠ 9 → q ≠ 10 → q ≠ 11 → q ≠ 12 → q ≠ 13 → q ≠ 14 → q ≠ 15 → st_ (te_m M o nn a1 a2 a3 a4 (M 1 13)) 1 17 (M 1 17 + 1) q = M q := fun q v1 v2 v3 v4 v5 v6 v7 v8 => by
      rw [st_ne v1]; unfold te_m; rw [st_ne v8, st_ne v7, st_ne v6, st_ne v5]; exact bx q v2 v3 v4
    have x1 : st_ (te_m M o nn a1 a2 a3 a4 (M 1 13)) 1 17 (M 1 17 + 1) 1 = ud (M 1) 17 (M 1 17 + 1) := by
      rw [st_eq]; unfold te_m; rw [st_ne (by decide), st_ne (by decide), st_ne (by decide), st_ne (by decide), bx 1 (by decide) (by decide) (by decide)]
    have x9 : st_ (te_m M o nn a1 a2 a3 a4 (M 1 13)) 1 17 (M 1 17 + 1) 9 2 = ((nn + 1 : Nat) : Int) := by
      rw [st_ne (by decide)]; unfold te_m by_m_9; rw [st_ne (by decide), st_ne (by decide), st_ne (by decide), st_ne (by decide), st_eq, ud_eq]; omega
    have x10 : st_ (te_m M o nn a1 a2 a3 a4 (M 1 13)) 1 17 (M 1 17 + 1) 10 = ud (M 10) nn a3 := by
      rw [st_ne (by decide)]; unfold te_m by_m_9; rw [st_ne (by decide), st_ne (by decide), st_ne (by decide), st_ne (by decide), st_ne (by decide), st_eq]; show ud (if (10 : Nat) = 11 then o else M 10) nn a3 = _; rw [if_neg (by decide)]
    have x11 : st_ (te_m M o nn a1 a2 a3 a4 (M 1 13)) 1 17 (M 1 17 + 1) 11 = o := by
      rw [st_ne (by decide)]; unfold te_m by_m_9; rw [st_ne (by decide), st_ne (by decide), st_ne (by decide), st_ne (by decide), st_ne (by decide), st_ne (by decide)]; exact if_pos rfl
    have x12 : st_ (te_m M o nn a1 a2 a3 a4 (M 1 13)) 1 17 (M 1 17 + 1) 12 = ud (M 12) nn a1 := by
      rw [st_ne (by decide)]; unfold te_m; rw [st_ne (by decide), st_ne (by decide), st_ne (by decide), st_eq, bx 12 (by decide) (by decide) (by decide)]
    have x13 : st_ (te_m M o nn a1 a2 a3 a4 (M 1 13)) 1 17 (M 1 17 + 1) 13 = ud (M 13) nn a2 := by
      rw [st_ne (by decide)]; unfold te_m; rw [st_ne (by decide), st_ne (by decide), st_eq, st_ne (by decide), bx 13 (by decide) (by decide) (by decide)]
    have x14 : st_ (te_m M o nn a1 a2 a3 a4 (M 1 13)) 1 17 (M 1 17 + 1) 14 = ud (M 14) nn a4 := by
      rw [st_ne (by decide)]; unfold te_m; rw [st_ne (by decide), st_eq, st_ne (by decide), st_ne (by decide), bx 14 (by decide) (by decide) (by decide)]
    have x15 : st_ (te_m M o nn a1 a2 a3 a4 (M 1 13)) 1 17 (M 1 17 + 1) 15 = ud (M 15) nn (M 1 13) := by
      rw [st_ne (by decide)]; unfold te_m; rw [st_eq, st_ne (by decide), st_ne (by decide), st_ne (by decide), bx 15 (by decide) (by decide) (by decide)]
    generalize st_ (te_m M o nn a1 a2 a3 a4 (M 1 13)) 1 17 (M 1 17 + 1) = X at eu x0 x1 x9 x10 x11 x12 x13 x14 x15
    have q : ∀ b, 15 < b → X b = M b := fun b hb => x0 b (by omega) (by omega) (by omega) (by omega) (by omega) (by omega) (by omega) (by omega)
    obtain ⟨v1, _⟩ := uM_tell (F := F) (M := X) h1 h2 h3 h4 (by rw [q 81 (by decide)]; exact l5) l2 (by rw [q 81 (by decide), e0]; omega)
    have em := v1 ⟨c.1, c.2.1, by rw [q 81 (by decide)]; omega⟩
    refine ⟨_, _, eu, em, rfl, ?_⟩
    dsimp only
    have wv : (if X 81 0 < 260 then X 81 0 else 259) = (now : Int) := by rw [q 81 (by decide), if_pos (by omega)]; exact e0
    have z : ∀ b, b ≠ 81 → b ≠ 83 → b ≠ 84 → b ≠ 85 → b ≠ 86 → b ≠ 87 → lay_m X nn a1 a2 a3 a4 b = X b := fun b w1 w2 w3 w4 w5 w6 => by unfold lay_m; rw [st_ne w1, st_ne w6, st_ne w5, st_ne w4, st_ne w3, st_ne w2]
    have z81 : lay_m X nn a1 a2 a3 a4 81 = ud (M 81) 12 ((nn : Int) + 1) := by unfold lay_m; rw [st_eq, st_ne (by decide), st_ne (by decide), st_ne (by decide), st_ne (by decide), st_ne (by decide), q 81 (by decide)]
    have z83 : lay_m X nn a1 a2 a3 a4 83 = ud (M 83) nn a1 := by unfold lay_m; rw [st_ne (by decide), st_ne (by decide), st_ne (by decide), st_ne (by decide), st_ne (by decide), st_eq, q 83 (by decide)]
    have z84 : lay_m X nn a1 a2 a3 a4 84 = ud (M 84) nn a2 := by unfold lay_m; rw [st_ne (by decide), st_ne (by decide), st_ne (by decide), st_ne (by decide), st_eq, st_ne (by decide), q 84 (by decide)]
    have z85 : lay_m X nn a1 a2 a3 a4 85 = ud (M 85) nn a3 := by unfold lay_m; rw [st_ne (by decide), st_ne (by decide), st_ne (by decide), st_eq, st_ne (by decide), st_ne (by decide), q 85 (by decide)]
    have z86 : lay_m X nn a1 a2 a3 a4 86 = ud (M 86) nn a4 := by unfold lay_m; rw [st_ne (by decide), st_ne (by decide), st_eq, st_ne (by decide), st_ne (by decide), st_ne (by decide), q 86 (by decide)]
    have z87 : lay_m X nn a1 a2 a3 a4 87 = ud (M 87) nn (now : Int) := by unfold lay_m; rw [st_ne (by decide), st_eq, st_ne (by decide), st_ne (by decide), st_ne (by decide), st_ne (by decide), wv, q 87 (by decide)]
    generalize lay_m X nn a1 a2 a3 a4 = y at z z81 z83 z84 z85 z86 z87 ⊢
    have zz : ∀ b, b < 80 → y b = X b := fun b hb => z b (by omega) (by omega) (by omega) (by omega) (by omega) (by omega)
    have fo : ∀ b, ((1 < b ∧ b < 9) ∨ (15 < b ∧ b < 81) ∨ b = 82 ∨ 87 < b) → y b = M b := fun b hb => by rw [z b (by omega) (by omega) (by omega) (by omega) (by omega) (by omega)]; exact x0 b (by omega) (by omega) (by omega) (by omega) (by omega) (by omega) (by omega) (by omega)
    have y1 : y 1 = ud (M 1) 17 (M 1 17 + 1) := by rw [zz 1 (by decide)]; exact x1
    obtain ⟨pc1, pc2, pc3, pc4, pc5, pc6⟩ := c.1
    have vb : 0 ≤ a4 ∧ a4 ≤ 10000 := by
      unfold p_subj at pc1
      have : a1 = 0 ∨ a1 = 1 ∨ a1 = 2 ∨ a1 = 3 := by omega
      rcases this with e | e | e | e
      · have := pc3 e; omega
      · have := pc4 e; omega
      · have := pc5 e; omega
      · have := pc6 e; omega
    have sr : r32 a1 ∧ r32 a2 := ⟨h1, h2⟩
    have nr : r32 (now : Int) := ⟨by omega, by omega⟩
    have hI' : IT y (nn + 1) nf nt nd nl now := a.g (fun q hq => fo q (by omega)) (by rw [y1, ud_ne (by decide)]) (by rw [z81, ud_ne (by decide), ud_ne (by decide)]; exact ⟨rfl, rfl⟩) (by rw [y1, z81, ud_ne (by decide), ud_ne (by decide)]; exact a.2.1) (Nat.le_refl nf) ⟨⟨⟨by rw [zz 9 (by decide)]; exact x9, by omega⟩, by rw [zz 10 (by decide), zz 11 (by decide), x10, x11]; exact ob, fun t ht => by
        rw [zz 12 (by decide), zz 13 (by decide), zz 10 (by decide), zz 14 (by decide), zz 15 (by decide), x12, x13, x10, x14, x15, z83, z84, z85, z86, z87]
        by_cases w : t = nn
        · subst w
          rw [ud_eq, ud_eq, ud_eq, ud_eq, ud_eq, ud_eq, ud_eq, ud_eq, ud_eq, ud_eq]
          exact ⟨⟨rfl, rfl, rfl, rfl, e13⟩, pc1, nr⟩
        · rw [ud_ne w, ud_ne w, ud_ne w, ud_ne w, ud_ne w, ud_ne w, ud_ne w, ud_ne w, ud_ne w, ud_ne w]; exact l4 t (by omega)⟩, ⟨by rw [z81, ud_eq]; omega, by omega⟩, by rw [z81, ud_ne (by decide)]; exact l7, fun t ht => by
        rw [z83, z84, z85, z87]
        by_cases w : t = nn
        · subst w; rw [ud_eq, ud_eq, ud_eq, ud_eq]; exact ⟨h1, h2, nr, pc2⟩
        · rw [ud_ne w, ud_ne w, ud_ne w, ud_ne w]; exact l8 t (by omega)⟩ (a.ta (Nat.le_refl nf) (fun q hq => fo q (by omega)) (by rw [z81, ud_ne (by decide)])) (by rw [fo 6 (by decide), fo 92 (by decide)]; exact a.2.2.2.2.2.1) (iv_la.c (fun q hq => fo q (by omega)) (by rw [z81, ud_ne (by decide)]) f6) (by rw [fo 7 (by decide), fo 82 (by decide)]; exact a.2.2.2.2.2.2.2.1) (fun d _ => by rw [fo 82 (by decide)]) (by rw [fo 2 (by decide), fo 93 (by decide)]; exact a.2.2.2.2.2.2.2.2.2.2.2.1) ⟨fun t ht => by
        rw [z87, z86]
        by_cases w : t = nn
        · subst w; rw [ud_eq, ud_eq]; exact ⟨Int.le_refl _, vb⟩
        · rw [ud_ne w, ud_ne w]; exact a.2.2.2.2.2.2.2.2.2.2.2.2.1.1 t (by omega), by rw [fo 102 (by decide)]; exact a.2.2.2.2.2.2.2.2.2.2.2.2.1.2⟩ (Or.inl rfl)
    obtain ⟨g1, ⟨m, g2⟩, g3, g4, g5, g6, g7, g8⟩ := h.2.2.2.2.2
    exact h.b hn hI' (Nat.le_refl nf) (fun q hq => fo q (by omega)) (fun j hj => by rw [y1, ud_ne (by omega)]) (by rw [y1, ud_eq]) (fun j hj => by rw [z81, ud_ne (by omega)]) (by rw [fo 3 (by decide), fo 96 (by decide)]; exact h.2.1.2.2.2.1) (by rw [fo 3 (by decide)]; exact g6) (by rw [fo 96 (by decide)]; exact g7)
  · obtain ⟨_, v2⟩ := uM_tell (F := F) (M := M) h1 h2 h3 h4 l5 l2 (by omega)
    exact ⟨_, _, u2 c, v2 (by rw [f4.1]; exact c), rfl, hI0.s⟩
theorem wkq_8 {F : Nat} (hF : 1100 < F) (n : Nat) (M : bz_Mm) (a1 a2 a3 a4 a5 : Int) (hn : n < 512) (hI : Iv n M) (h1 : r32 a1) (h2 : r32 a2) (h3 : r32 a3) (h4 : r32 a4) (h5 : r32 a5) : ∃ (x : Int × bz_Mm) (y : Int × bz_Mm), fU_trade F M a1 a2 a3 a4 a5 = some x ∧ fM_trade F x.2 a1 a2 a3 a4 a5 = some y ∧ w32 x.1 = w32 y.1 ∧ Iv (n + 1) y.2 := by
  have hI0 := hI
  obtain ⟨nn, nf, nt, nd, nl, now, nh, ns, na, h⟩ := hI
  obtain ⟨f1, f2, f3, f4, f5, f6⟩ := h.f
  have a := h.1.1
  have e13 := a.1.1
  have e0 := a.1.2.1
  have e14 := a.2.1.1
  obtain ⟨⟨⟨l1, l2⟩, l3, l4⟩, l5⟩ := a.2.2.2.1
  have noc : ¬ (p_tr (M 1 14) (M 1 13) a1 a2 a3 a4 a5 ∧ nt < 120) → ∃ (x : Int × bz_Mm) (y : Int × bz_Mm), fU_trade F M a1 a2 a3 a4 a5 = some x ∧ fM_trade F x.2 a1 a2 a3 a4 a5 = some y ∧ w32 x.1 = w32 y.1 ∧ Iv (n + 1) y.2 := fun c => by
    have em := uM_trade_no (F := F) (M := M) (n := nt) h1 h2 h3 h4 h5 (by omega) (by omega) l5 l2 (by rw [f4.1, f4.2.1]; exact c)
    by_cases p : p_tr (M 1 14) (M 1 13) a1 a2 a3 a4 a5
    · exact ⟨_, _, (uU_trade_yes (F := F) (by omega) h1 h2 h3 h4 h5 f1 f2 l1 l2 l3 p).2 (fun q => c ⟨p, q⟩), em, rfl, hI0.s⟩
    · exact ⟨_, _, uU_trade_no (F := F) h1 h2 h3 h4 h5 f1 f2 p, em, rfl, hI0.s⟩
  by_cases c : p_tr (M 1 14) (M 1 13) a1 a2 a3 a4 a5 ∧ nt < 120
  · obtain ⟨o, ob, eu⟩ := (uU_trade_yes (F := F) (by omega) h1 h2 h3 h4 h5 f1 f2 l1 l2 l3 c.1).1 c.2
    have bx : ∀ q, q ≠ 25 → q ≠ 26 → q ≠ 27 → by_m_25 M o nt a3 q = M q := fun q v1 v2 v3 => by
      unfold by_m_25; rw [st_ne v1, st_ne v2]; exact if_neg v3
    have x0 : ∀ q, q ≠ 1 → (q < 25 ∨ 32 < q) → st_ (st_ (st_ (tr_m M o nt a1 a2 a3 (M 1 13)) 30 nt a4) 31 nt a5) 1 17 (M 1 17 + 1) q = M q := fun q v1 v2 => by
      rw [st_ne v1, st_ne (by omega), st_ne (by omega)]; unfold tr_m; rw [st_ne (by omega), st_ne (by omega), st_ne (by omega)]; exact bx q (by omega) (by omega) (by omega)
    have x1 : st_ (st_ (st_ (tr_m M o nt a1 a2 a3 (M 1 13)) 30 nt a4) 31 nt a5) 1 17 (M 1 17 + 1) 1 = ud (M 1) 17 (M 1 17 + 1) := by
      rw [st_eq, st_ne (by decide), st_ne (by decide)]; unfold tr_m; rw [st_ne (by decide), st_ne (by decide), st_ne (by decide), bx 1 (by decide) (by decide) (by decide)]
    have x25 : st_ (st_ (st_ (tr_m M o nt a1 a2 a3 (M 1 13)) 30 nt a4) 31 nt a5) 1 17 (M 1 17 + 1) 25 2 = ((nt + 1 : Nat) : Int) := by
      rw [st_ne (by decide), st_ne (by decide), st_ne (by decide)]; unfold tr_m by_m_25; rw [st_ne (by decide), st_ne (by decide), st_ne (by decide), st_eq, ud_eq]; omega
    have x26 : st_ (st_ (st_ (tr_m M o nt a1 a2 a3 (M 1 13)) 30 nt a4) 31 nt a5) 1 17 (M 1 17 + 1) 26 = ud (M 26) nt a3 := by
      rw [st_ne (by decide), st_ne (by decide), st_ne (by decide)]; unfold tr_m by_m_25; rw [st_ne (by decide), st_ne (by decide), st_ne (by decide), st_ne (by decide), st_eq]; show ud (if (26 : Nat) = 27 then o else M 26) nt a3 = _; rw [if_neg (by decide)]
    have x27 : st_ (st_ (st_ (tr_m M o nt a1 a2 a3 (M 1 13)) 30 nt a4) 31 nt a5) 1 17 (M 1 17 + 1) 27 = o := by
      rw [st_ne (by decide), st_ne (by decide), st_ne (by decide)]; unfold tr_m by_m_25; rw [st_ne (by decide), st_ne (by decide), st_ne (by decide), st_ne (by decide), st_ne (by decide)]; exact if_pos rfl
    have x28 : st_ (st_ (st_ (tr_m M o nt a1 a2 a3 (M 1 13)) 30 nt a4) 31 nt a5) 1 17 (M 1 17 + 1) 28 = ud (M 28) nt a1 := by
      rw [st_ne (by decide), st_ne (by decide), st_ne (by decide)]; unfold tr_m; rw [st_ne (by decide), st_ne (by decide), st_eq, bx 28 (by decide) (by decide) (by decide)]
    have x29 : st_ (st_ (st_ (tr_m M o nt a1 a2 a3 (M 1 13)) 30 nt a4) 31 nt a5) 1 17 (M 1 17 + 1) 29 = ud (M 29) nt a2 := by
      rw [st_ne (by decide), st_ne (by decide), st_ne (by decide)]; unfold tr_m; rw [st_ne (by decide), st_eq, st_ne (by decide), bx 29 (by decide) (by decide) (by decide)]
    have x32 : st_ (st_ (st_ (tr_m M o nt a1 a2 a3 (M 1 13)) 30 nt a4) 31 nt a5) 1 17 (M 1 17 + 1) 32 = ud (M 32) nt (M 1 13) := by
      rw [st_ne (by decide), st_ne (by decide), st_ne (by decide)]; unfold tr_m; rw [st_eq, st_ne (by decide), st_ne (by decide), bx 32 (by decide) (by decide) (by decide)]
    have x30 : st_ (st_ (st_ (tr_m M o nt a1 a2 a3 (M 1 13)) 30 nt a4) 31 nt a5) 1 17 (M 1 17 + 1) 30 = ud (M 30) nt a4 := by
      rw [st_ne (by decide), st_ne (by decide), st_eq]; unfold tr_m; rw [st_ne (by decide), st_ne (by decide), st_ne (by decide), bx 30 (by decide) (by decide) (by decide)]
    have x31 : st_ (st_ (st_ (tr_m M o nt a1 a2 a3 (M 1 13)) 30 nt a4) 31 nt a5) 1 17 (M 1 17 + 1) 31 = ud (M 31) nt a5 := by
      rw [st_ne (by decide), st_eq, st_ne (by decide)]; unfold tr_m; rw [st_ne (by decide), st_ne (by decide), st_ne (by decide), bx 31 (by decide) (by decide) (by decide)]
    generalize st_ (st_ (st_ (tr_m M o nt a1 a2 a3 (M 1 13)) 30 nt a4) 31 nt a5) 1 17 (M 1 17 + 1) = X at eu x0 x1 x25 x26 x27 x28 x29 x30 x31 x32
    have q : ∀ b, 32 < b → X b = M b := fun b hb => x0 b (by omega) (by omega)
    have q81 := q 81 (by decide)
    have em := uM_trade_yes (F := F) (M := X) (n := nt) h1 h2 h3 h4 h5 (by rw [q81, e0]; omega) (by rw [q81]; omega) (by rw [q81]; exact l5) c.2 (by rw [q81, f4.1, f4.2.1]; exact c.1)
    refine ⟨_, _, eu, em, rfl, ?_⟩
    dsimp only
    have z : ∀ b, b ≠ 81 → (b < 97 ∨ 102 < b) → mt_m X nt a1 a2 a3 a4 a5 b = X b := fun b w1 w2 => by unfold mt_m; rw [st_ne w1, st_ne (by omega), st_ne (by omega), st_ne (by omega), st_ne (by omega), st_ne (by omega), st_ne (by omega)]
    have z81 : mt_m X nt a1 a2 a3 a4 a5 81 = ud (M 81) 27 ((nt : Int) + 1) := by unfold mt_m; rw [st_eq, st_ne (by decide), st_ne (by decide), st_ne (by decide), st_ne (by decide), st_ne (by decide), st_ne (by decide), q81]
    have z97 : mt_m X nt a1 a2 a3 a4 a5 97 = ud (M 97) nt a1 := by unfold mt_m; rw [st_ne (by decide), st_ne (by decide), st_ne (by decide), st_ne (by decide), st_ne (by decide), st_ne (by decide), st_eq, q 97 (by decide)]
    have z98 : mt_m X nt a1 a2 a3 a4 a5 98 = ud (M 98) nt a2 := by unfold mt_m; rw [st_ne (by decide), st_ne (by decide), st_ne (by decide), st_ne (by decide), st_ne (by decide), st_eq, st_ne (by decide), q 98 (by decide)]
    have z99 : mt_m X nt a1 a2 a3 a4 a5 99 = ud (M 99) nt a3 := by unfold mt_m; rw [st_ne (by decide), st_ne (by decide), st_ne (by decide), st_ne (by decide), st_eq, st_ne (by decide), st_ne (by decide), q 99 (by decide)]
    have z100 : mt_m X nt a1 a2 a3 a4 a5 100 = ud (M 100) nt a4 := by unfold mt_m; rw [st_ne (by decide), st_ne (by decide), st_ne (by decide), st_eq, st_ne (by decide), st_ne (by decide), st_ne (by decide), q 100 (by decide)]
    have z101 : mt_m X nt a1 a2 a3 a4 a5 101 = ud (M 101) nt a5 := by unfold mt_m; rw [st_ne (by decide), st_ne (by decide), st_eq, st_ne (by decide), st_ne (by decide), st_ne (by decide), st_ne (by decide), q 101 (by decide)]
    have z102 : mt_m X nt a1 a2 a3 a4 a5 102 = ud (M 102) nt (now : Int) := by unfold mt_m; rw [st_ne (by decide), st_eq, st_ne (by decide), st_ne (by decide), st_ne (by decide), st_ne (by decide), st_ne (by decide), q 102 (by decide), q81, e0]
    generalize mt_m X nt a1 a2 a3 a4 a5 = y at z z81 z97 z98 z99 z100 z101 z102 ⊢
    have zz : ∀ b, b < 80 → y b = X b := fun b hb => z b (by omega) (by omega)
    have fo : ∀ b, ((1 < b ∧ b < 25) ∨ (32 < b ∧ b < 81) ∨ (81 < b ∧ b < 97) ∨ 102 < b) → y b = M b := fun b hb => by rw [z b (by omega) (by omega)]; exact x0 b (by omega) (by omega)
    have y1 : y 1 = ud (M 1) 17 (M 1 17 + 1) := by rw [zz 1 (by decide)]; exact x1
    obtain ⟨pa, pb, pc, pd, _⟩ := c.1
    have nr : r32 (now : Int) := ⟨by omega, by omega⟩
    have hI' : IT y nn nf (nt + 1) nd nl now := a.g (fun q hq => fo q (by omega)) (by rw [y1, ud_ne (by decide)]) (by rw [z81, ud_ne (by decide), ud_ne (by decide)]; exact ⟨rfl, rfl⟩) (by rw [y1, z81, ud_ne (by decide), ud_ne (by decide)]; exact a.2.1) (Nat.le_refl nf) (a.al (fun q hq => fo q (by omega)) (by rw [z81, ud_ne (by decide)]) (by rw [z81, ud_ne (by decide)])) ⟨⟨⟨by rw [zz 25 (by decide)]; exact x25, by omega⟩, by rw [zz 26 (by decide), zz 27 (by decide), x26, x27]; exact ob, fun t ht => by
        rw [zz 28 (by decide), zz 29 (by decide), zz 26 (by decide), zz 30 (by decide), zz 31 (by decide), zz 32 (by decide), x28, x29, x26, x30, x31, x32, z97, z98, z99, z100, z101, z102]
        by_cases w : t = nt
        · subst w
          rw [ud_eq, ud_eq, ud_eq, ud_eq, ud_eq, ud_eq, ud_eq, ud_eq, ud_eq, ud_eq, ud_eq, ud_eq]
          exact ⟨⟨rfl, rfl, rfl, rfl, rfl, e13⟩, ⟨pa.1, by omega⟩, pb, nr⟩
        · rw [ud_ne w, ud_ne w, ud_ne w, ud_ne w, ud_ne w, ud_ne w, ud_ne w, ud_ne w, ud_ne w, ud_ne w, ud_ne w, ud_ne w]; exact l4 t (by omega)⟩, by rw [z81, ud_eq]; omega⟩ (by rw [fo 6 (by decide), fo 92 (by decide)]; exact a.2.2.2.2.2.1) (iv_la.c (fun q hq => fo q (by omega)) (by rw [z81, ud_ne (by decide)]) f6) (by rw [fo 7 (by decide), fo 82 (by decide)]; exact a.2.2.2.2.2.2.2.1) (fun d _ => by rw [fo 82 (by decide)]) (by rw [fo 2 (by decide), fo 93 (by decide)]; exact a.2.2.2.2.2.2.2.2.2.2.2.1) ⟨by rw [fo 87 (by decide), fo 86 (by decide)]; exact a.2.2.2.2.2.2.2.2.2.2.2.2.1.1, fun t ht => by
        rw [z102]
        by_cases w : t = nt
        · subst w; rw [ud_eq]; exact Int.le_refl _
        · rw [ud_ne w]; exact a.2.2.2.2.2.2.2.2.2.2.2.2.1.2 t (by omega)⟩ (Or.inl rfl)
    obtain ⟨g1, ⟨m, g2⟩, g3, g4, g5, g6, g7, g8⟩ := h.2.2.2.2.2
    exact h.b hn hI' (Nat.le_refl nf) (fun q hq => fo q (by omega)) (fun j hj => by rw [y1, ud_ne (by omega)]) (by rw [y1, ud_eq]) (fun j hj => by rw [z81, ud_ne (by omega)]) (by rw [fo 3 (by decide), fo 96 (by decide)]; exact h.2.1.2.2.2.1) (by rw [fo 3 (by decide)]; exact g6) (by rw [fo 96 (by decide)]; exact g7)
  · exact noc c
/-- a deal behind those at hand -/
theorem ptr_bo {d o o' : Nat → Int} {n a D : Nat} {x : Int} (ho : ∀ i, i < n → 0 ≤ o i ∧ o i < n) (hB : BO d o n x o') (hD : (D : Int) ≤ x) (hp : ptr d o n a D) : ptr (ud d n x) o' (n + 1) a D := by
  obtain ⟨p, p1, rfl, p3⟩ := hB
  obtain ⟨a1, a2, a3⟩ := hp
  have ap : a ≤ p := by
    by_cases c : a ≤ p
    · exact c
    · have := a2 p (by omega); have := p3 p (Nat.le_refl p) (by omega); omega
  have e1 : ∀ i, i < p → by_o o p n i = o i := fun i hi => by unfold by_o; rw [if_neg (by omega), if_neg (by omega)]
  have e2 : by_o o p n p = n := if_pos rfl
  have e3 : ∀ i, p < i → i ≤ n → by_o o p n i = o (i - 1) := fun i u v => by unfold by_o; rw [if_neg (by omega), if_pos ⟨u, v⟩]
  refine ⟨by omega, fun j hj => ?_, fun j u v => ?_⟩
  · have := ho j (by omega)
    rw [e1 j (by omega), ud_ne (by omega)]; exact a2 j hj
  · by_cases c1 : j < p
    · have := ho j (by omega)
      rw [e1 j c1, ud_ne (by omega)]; exact a3 j u (by omega)
    · by_cases c2 : j = p
      · rw [c2, e2, Int.toNat_natCast, ud_eq]; exact hD
      · have := ho (j - 1) (by omega)
        have := p3 (j - 1) (by omega) (by omega)
        rw [e3 j (by omega) (by omega), ud_ne (by omega)]; omega
