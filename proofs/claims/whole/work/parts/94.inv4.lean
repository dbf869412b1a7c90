/-! audits, suspects, go -/
theorem Ia.z {M y : bz_Mm} {c n nf nt nd nl now nh ns ns' na na' : Nat} (h : Ia M c n nf nt nd nl now nh ns na) (fe : ∀ q, (q < 17 ∨ (23 < q ∧ q < 77) ∨ q = 82 ∨ (82 < q ∧ q < 88) ∨ (91 < q ∧ q < 227)) → y q = M q) (f81 : ∀ j, j ≠ 13 → j ≠ 69 → y 81 j = M 81 j) (hS : ISu y ns') (hA : IAu y nf now na') (h3 : y 77 3 = na') (h4 : y 77 4 = 0) (h7 : y 77 7 = M 77 7) (hb : by_ok (y 18) (y 19) ns') : Iv (c + 1) y := by
  obtain ⟨a, b, d, _, f, g1, ⟨m, g2⟩, g3, g4, g5, g6, g7, g8⟩ := h
  refine ⟨n, nf, nt, nd, nl, now, nh, ns', na', a.c (fun q hq => fe q (by unfold iS at hq; omega)) (by rw [fe 1 (by decide)]; exact ⟨rfl, rfl⟩) (by rw [fe 1 (by decide)]) (fun j hj => f81 j (by omega) (by omega)), b.c (fun q hq => fe q (by omega)) (by rw [fe 1 (by decide)]) (f81 20 (by decide) (by decide)), hS, ⟨hA, h3⟩, ⟨by rw [h7, fe 1 (by decide)]; exact f.1, Or.inl h4, Or.inl h4⟩, by rw [fe 1 (by decide)]; omega, ⟨m, g2.c (by rw [fe 50 (by decide)]) (fe 51 (by decide)) (fe 110 (by decide)) (f81 37 (by decide) (by decide))⟩, by rw [f81 2 (by decide) (by decide), fe 1 (by decide)]; exact g3, hb, by rw [fe 5 (by decide)]; exact g5, by rw [fe 3 (by decide)]; exact g6, by rw [fe 96 (by decide)]; exact g7, by rw [fe 40 (by decide), fe 41 (by decide), fe 107 (by decide), fe 108 (by decide), fe 109 (by decide)]; exact g8⟩
theorem wkq_29 {F : Nat} (hF : 1100 < F) (n : Nat) (M : bz_Mm) (a1 a2 a3 : Int) (hn : n < 512) (hI : Iv n M) (h1 : r32 a1) (h2 : r32 a2) (h3 : r32 a3) : ∃ (x : Int × bz_Mm) (y : Int × bz_Mm), fU_audit F M a1 a2 a3 = some x ∧ fM_audit F x.2 a1 a2 a3 = some y ∧ w32 x.1 = w32 y.1 ∧ Iv (n + 1) y.2 := by
  have hI0 := hI
  obtain ⟨_, nf, _, nd, _, now, nh, ns, na, h⟩ := hI
  obtain ⟨f1, f2, f3, f4, f5, f6⟩ := h.f
  obtain ⟨hA, e3⟩ := h.2.2.2.1
  obtain ⟨⟨e69, na8⟩, aa⟩ := hA
  have e0 : M 81 0 = now := h.1.1.1.2.1
  have e19 : M 81 19 = nf := h.1.1.2.1.2.1
  obtain ⟨u1, u2⟩ := uU_audit (F := F) (M := M) h1 h2 h3 f1 f2 f4.1 f4.2.1 f5 e3 na8
  by_cases c : p_au M na a1 a2 a3
  · have o : ∀ q, q ≠ 77 → q ≠ 78 → q ≠ 79 → q ≠ 80 → auU M na a1 a2 a3 q = M q := fun q v1 v2 v3 v4 => by unfold auU; rw [st_ne v1, st_ne v1, st_ne v4, st_ne v3, st_ne v2]
    have o77 : auU M na a1 a2 a3 77 = ud (ud (M 77) 3 ((na : Int) + 1)) 4 0 := by unfold auU; rw [st_eq, st_eq, st_ne (by decide), st_ne (by decide), st_ne (by decide)]
    have o78 : auU M na a1 a2 a3 78 = ud (M 78) na a1 := by unfold auU; rw [st_ne (by decide), st_ne (by decide), st_ne (by decide), st_ne (by decide), st_eq]
    have o79 : auU M na a1 a2 a3 79 = ud (M 79) na a2 := by unfold auU; rw [st_ne (by decide), st_ne (by decide), st_ne (by decide), st_eq, st_ne (by decide)]
    have o80 : auU M na a1 a2 a3 80 = ud (M 80) na a3 := by unfold auU; rw [st_ne (by decide), st_ne (by decide), st_eq, st_ne (by decide), st_ne (by decide)]
    have eu := u1 c
    generalize auU M na a1 a2 a3 = X at eu o o77 o78 o79 o80
    have q1 := o 1 (by decide) (by decide) (by decide) (by decide)
    have q81 := o 81 (by decide) (by decide) (by decide) (by decide)
    have q82 := o 82 (by decide) (by decide) (by decide) (by decide)
    have q7 := o 7 (by decide) (by decide) (by decide) (by decide)
    obtain ⟨v1, _⟩ := uM_audit (F := F) (M := X) h1 h2 h3 (by rw [q1]; exact f1) (by rw [q1]; exact f2) (by rw [q1, q81]; exact f4.1) (by rw [q1, q81]; exact f4.2.1) (by unfold iv_ho; rw [q7, q82]; exact f5) (by rw [q81]; exact e69) na8
    have em := v1 (by unfold p_au p_over at c ⊢; rw [q81, q82]; exact c)
    obtain ⟨⟨p1, p2, p3, p4⟩, ⟨p5, p6⟩, p7⟩ := c
    refine ⟨_, _, eu, em, rfl, ?_⟩
    dsimp only
    have z : ∀ q, q ≠ 81 → q ≠ 227 → q ≠ 228 → q ≠ 229 → auM X na a1 a2 a3 q = X q := fun q v1 v2 v3 v4 => by unfold auM; rw [st_ne v1, st_ne v4, st_ne v3, st_ne v2]
    have z81 : auM X na a1 a2 a3 81 = ud (M 81) 69 ((na : Int) + 1) := by unfold auM; rw [st_eq, st_ne (by decide), st_ne (by decide), st_ne (by decide), q81]
    have z227 : auM X na a1 a2 a3 227 = ud (M 227) na a1 := by unfold auM; rw [st_ne (by decide), st_ne (by decide), st_ne (by decide), st_eq, o 227 (by decide) (by decide) (by decide) (by decide)]
    have z228 : auM X na a1 a2 a3 228 = ud (M 228) na a2 := by unfold auM; rw [st_ne (by decide), st_ne (by decide), st_eq, st_ne (by decide), o 228 (by decide) (by decide) (by decide) (by decide)]
    have z229 : auM X na a1 a2 a3 229 = ud (M 229) na a3 := by unfold auM; rw [st_ne (by decide), st_eq, st_ne (by decide), st_ne (by decide), o 229 (by decide) (by decide) (by decide) (by decide)]
    generalize auM X na a1 a2 a3 = y at z z81 z227 z228 z229 ⊢
    have fe : ∀ q, q ≠ 81 → (q < 77 ∨ (80 < q ∧ q < 227)) → y q = M q := fun q v1 v2 => by rw [z q v1 (by omega) (by omega) (by omega)]; exact o q (by omega) (by omega) (by omega) (by omega)
    have y77 : y 77 = ud (ud (M 77) 3 ((na : Int) + 1)) 4 0 := by rw [z 77 (by decide) (by decide) (by decide) (by decide)]; exact o77
    have y78 := (z 78 (by decide) (by decide) (by decide) (by decide)).trans o78
    have y79 := (z 79 (by decide) (by decide) (by decide) (by decide)).trans o79
    have y80 := (z 80 (by decide) (by decide) (by decide) (by decide)).trans o80
    have hS := h.2.2.1
    refine h.z (ns' := ns) (na' := na + 1) (fun q hq => fe q (by omega) (by omega)) (fun j _ v => by rw [z81, ud_ne v]) ?_ ⟨⟨by rw [z81, ud_eq]; omega, by omega⟩, fun a ha => ?_⟩ (by rw [y77, ud_ne (by decide), ud_eq]; omega) (by rw [y77, ud_eq]) (by rw [y77, ud_ne (by decide), ud_ne (by decide)]) (by rw [fe 18 (by decide) (by decide), fe 19 (by decide) (by decide)]; exact h.2.2.2.2.2.2.2.2.1)
    · unfold ISu at hS ⊢
      rw [fe 17 (by decide) (by decide), z81, ud_ne (by decide), fe 20 (by decide) (by decide), fe 21 (by decide) (by decide), fe 18 (by decide) (by decide), fe 22 (by decide) (by decide), fe 88 (by decide) (by decide), fe 89 (by decide) (by decide), fe 90 (by decide) (by decide), fe 91 (by decide) (by decide)]; exact hS
    · rw [y78, y79, y80, z227, z228, z229, fe 82 (by decide) (by decide)]
      by_cases w : a = na
      · subst w
        rw [ud_eq, ud_eq, ud_eq, ud_eq, ud_eq, ud_eq]
        have b1 := p4.1
        have b2 := p4.2.1
        refine ⟨⟨rfl, rfl, rfl⟩, ⟨p1, by omega⟩, ⟨b1, by omega, b2, ?_⟩, p5, p6⟩
        rw [opn_t, show ((a2.toNat : Nat) : Int) = a2 by omega]; exact p4
      · rw [ud_ne w, ud_ne w, ud_ne w, ud_ne w, ud_ne w, ud_ne w]; exact aa a (by omega)
  · obtain ⟨_, v2⟩ := uM_audit (F := F) (M := M) h1 h2 h3 f1 f2 f4.1 f4.2.1 f5 e69 na8
    exact ⟨_, _, u2 c, v2 c, rfl, hI0.s⟩
theorem Ia.z0 {M : bz_Mm} {c n nf nt nd nl now nh ns na : Nat} (h : Ia M c n nf nt nd nl now nh ns na) : Iv (c + 1) (st_ M 77 4 0) := by
  have fe : ∀ q, q ≠ 77 → st_ M 77 4 0 q = M q := fun q hq => st_ne hq
  have hS := h.2.2.1
  obtain ⟨hA, e3⟩ := h.2.2.2.1
  refine h.z (ns' := ns) (na' := na) (fun q hq => fe q (by omega)) (fun j _ _ => by rw [fe 81 (by decide)]) ?_ ?_ (by rw [st_eq, ud_ne (by decide)]; exact e3) (by rw [st_eq, ud_eq]) (by rw [st_eq, ud_ne (by decide)]) (by rw [fe 18 (by decide), fe 19 (by decide)]; exact h.2.2.2.2.2.2.2.2.1)
  · unfold ISu at hS ⊢
    rw [fe 17 (by decide), fe 81 (by decide), fe 20 (by decide), fe 21 (by decide), fe 18 (by decide), fe 22 (by decide), fe 88 (by decide), fe 89 (by decide), fe 90 (by decide), fe 91 (by decide)]; exact hS
  · unfold IAu at hA ⊢
    rw [fe 81 (by decide), fe 78 (by decide), fe 79 (by decide), fe 80 (by decide), fe 227 (by decide), fe 228 (by decide), fe 229 (by decide), fe 82 (by decide)]; exact hA
theorem wkq_30 {F : Nat} (hF : 1100 < F) (n : Nat) (M : bz_Mm) (a1 a2 a3 a4 : Int) (hn : n < 512) (hI : Iv n M) (h1 : r32 a1) (h2 : r32 a2) (h3 : r32 a3) (h4 : r32 a4) : ∃ (x : Int × bz_Mm) (y : Int × bz_Mm), fU_suspect F M a1 a2 a3 a4 = some x ∧ fM_suspect F x.2 a1 a2 a3 a4 = some y ∧ w32 x.1 = w32 y.1 ∧ Iv (n + 1) y.2 := by
  have hI0 := hI
  obtain ⟨_, nf, _, nd, _, now, nh, ns, na, h⟩ := hI
  obtain ⟨⟨s1, s2, s3⟩, ss⟩ := h.2.2.1
  have hb := h.2.2.2.2.2.2.2.2.1
  obtain ⟨u1, u2⟩ := uU_suspect (F := F) (M := M) (by omega) h1 h2 h3 h4 s1 s3 hb
  by_cases c : p_can a1 a2 a3 a4 ∧ ns < 7
  · obtain ⟨o, ob, eu⟩ := u1 c
    have x0 : ∀ q, q ≠ 77 → q ≠ 17 → q ≠ 18 → q ≠ 19 → q ≠ 20 → q ≠ 21 → q ≠ 22 → q ≠ 23 → suU M o ns a1 a2 a3 a4 (M 1 13) q = M q := fun q v1 v2 v3 v4 v5 v6 v7 v8 => by
      unfold suU by_m_17; rw [st_ne v8, st_ne v7, st_ne v6, st_ne v5, st_ne v2, st_ne v3]; show (if q = 19 then o else st_ M 77 4 0 q) = M q; rw [if_neg v4, st_ne v1]
    have x17 : suU M o ns a1 a2 a3 a4 (M 1 13) 17 2 = ((ns + 1 : Nat) : Int) := by
      unfold suU by_m_17; rw [st_ne (by decide), st_ne (by decide), st_ne (by decide), st_ne (by decide), st_eq, ud_eq]; omega
    have x18 : suU M o ns a1 a2 a3 a4 (M 1 13) 18 = ud (M 18) ns a3 := by
      unfold suU by_m_17; rw [st_ne (by decide), st_ne (by decide), st_ne (by decide), st_ne (by decide), st_ne (by decide), st_eq]; show ud (if (18 : Nat) = 19 then o else st_ M 77 4 0 18) ns a3 = _; rw [if_neg (by decide), st_ne (by decide)]
    have x19 : suU M o ns a1 a2 a3 a4 (M 1 13) 19 = o := by
      unfold suU by_m_17; rw [st_ne (by decide), st_ne (by decide), st_ne (by decide), st_ne (by decide), st_ne (by decide), st_ne (by decide)]; show (if (19 : Nat) = 19 then o else st_ M 77 4 0 19) = _; rw [if_pos rfl]
    have by_x : ∀ q, q ≠ 17 → q ≠ 18 → q ≠ 19 → q ≠ 77 → by_m_17 (st_ M 77 4 0) o ns a3 q = M q := fun q v1 v2 v3 v4 => by
      unfold by_m_17; rw [st_ne v1, st_ne v2]; show (if q = 19 then o else st_ M 77 4 0 q) = M q; rw [if_neg v3, st_ne v4]
    have x20 : suU M o ns a1 a2 a3 a4 (M 1 13) 20 = ud (M 20) ns a1 := by
      unfold suU; rw [st_ne (by decide), st_ne (by decide), st_ne (by decide), st_eq, by_x 20 (by decide) (by decide) (by decide) (by decide)]
    have x21 : suU M o ns a1 a2 a3 a4 (M 1 13) 21 = ud (M 21) ns a2 := by
      unfold suU; rw [st_ne (by decide), st_ne (by decide), st_eq, st_ne (by decide), by_x 21 (by decide) (by decide) (by decide) (by decide)]
    have x22 : suU M o ns a1 a2 a3 a4 (M 1 13) 22 = ud (M 22) ns a4 := by
      unfold suU; rw [st_ne (by decide), st_eq, st_ne (by decide), st_ne (by decide), by_x 22 (by decide) (by decide) (by decide) (by decide)]
    have x77 : suU M o ns a1 a2 a3 a4 (M 1 13) 77 = ud (M 77) 4 0 := by
      unfold suU by_m_17; rw [st_ne (by decide), st_ne (by decide), st_ne (by decide), st_ne (by decide), st_ne (by decide), st_ne (by decide)]; show (if (77 : Nat) = 19 then o else st_ M 77 4 0 77) = _; rw [if_neg (by decide), st_eq]
    generalize suU M o ns a1 a2 a3 a4 (M 1 13) = X at eu x0 x17 x18 x19 x20 x21 x22 x77
    have q81 := x0 81 (by decide) (by decide) (by decide) (by decide) (by decide) (by decide) (by decide) (by decide)
    obtain ⟨v1, _⟩ := uM_suspect (F := F) (M := X) h1 h2 h3 h4 (by rw [q81]; exact s2) s3
    refine ⟨_, _, eu, v1 c, rfl, ?_⟩
    dsimp only
    have z : ∀ q, q ≠ 81 → q ≠ 88 → q ≠ 89 → q ≠ 90 → q ≠ 91 → suM X ns a1 a2 a3 a4 q = X q := fun q w1 w2 w3 w4 w5 => by unfold suM; rw [st_ne w1, st_ne w5, st_ne w4, st_ne w3, st_ne w2]
    have z81 : suM X ns a1 a2 a3 a4 81 = ud (M 81) 13 ((ns : Int) + 1) := by unfold suM; rw [st_eq, st_ne (by decide), st_ne (by decide), st_ne (by decide), st_ne (by decide), q81]
    have z88 : suM X ns a1 a2 a3 a4 88 = ud (M 88) ns a1 := by unfold suM; rw [st_ne (by decide), st_ne (by decide), st_ne (by decide), st_ne (by decide), st_eq, x0 88 (by decide) (by decide) (by decide) (by decide) (by decide) (by decide) (by decide) (by decide)]
    have z89 : suM X ns a1 a2 a3 a4 89 = ud (M 89) ns a2 := by unfold suM; rw [st_ne (by decide), st_ne (by decide), st_ne (by decide), st_eq, st_ne (by decide), x0 89 (by decide) (by decide) (by decide) (by decide) (by decide) (by decide) (by decide) (by decide)]
    have z90 : suM X ns a1 a2 a3 a4 90 = ud (M 90) ns a3 := by unfold suM; rw [st_ne (by decide), st_ne (by decide), st_eq, st_ne (by decide), st_ne (by decide), x0 90 (by decide) (by decide) (by decide) (by decide) (by decide) (by decide) (by decide) (by decide)]
    have z91 : suM X ns a1 a2 a3 a4 91 = ud (M 91) ns a4 := by unfold suM; rw [st_ne (by decide), st_eq, st_ne (by decide), st_ne (by decide), st_ne (by decide), x0 91 (by decide) (by decide) (by decide) (by decide) (by decide) (by decide) (by decide) (by decide)]
    generalize suM X ns a1 a2 a3 a4 = y at z z81 z88 z89 z90 z91 ⊢
    have fe : ∀ q, q ≠ 81 → (q < 17 ∨ (23 < q ∧ q < 77) ∨ (77 < q ∧ q < 88) ∨ 91 < q) → y q = M q := fun q w1 w2 => by rw [z q w1 (by omega) (by omega) (by omega) (by omega)]; exact x0 q (by omega) (by omega) (by omega) (by omega) (by omega) (by omega) (by omega) (by omega)
    have zz : ∀ q, q < 80 → y q = X q := fun q hq => z q (by omega) (by omega) (by omega) (by omega) (by omega)
    obtain ⟨hA, e3⟩ := h.2.2.2.1
    refine h.z (ns' := ns + 1) (na' := na) (fun q hq => fe q (by omega) (by omega)) (fun j w _ => by rw [z81, ud_ne w]) ⟨⟨by rw [zz 17 (by decide)]; exact x17, by rw [z81, ud_eq]; omega, by omega⟩, fun i hi => ?_⟩ ?_ (by rw [zz 77 (by decide), x77, ud_ne (by decide)]; exact e3) (by rw [zz 77 (by decide), x77, ud_eq]) (by rw [zz 77 (by decide), x77, ud_ne (by decide)]) (by rw [zz 18 (by decide), zz 19 (by decide), x18, x19]; exact ob)
    · rw [zz 20 (by decide), zz 21 (by decide), zz 18 (by decide), zz 22 (by decide), x20, x21, x18, x22, z88, z89, z90, z91]
      by_cases w : i = ns
      · subst w
        rw [ud_eq, ud_eq, ud_eq, ud_eq, ud_eq, ud_eq, ud_eq, ud_eq]
        exact ⟨⟨rfl, rfl, rfl, rfl⟩, c.1.1, c.1.2.1, h4⟩
      · rw [ud_ne w, ud_ne w, ud_ne w, ud_ne w, ud_ne w, ud_ne w, ud_ne w, ud_ne w]; exact ss i (by omega)
    · unfold IAu at hA ⊢
      rw [z81, ud_ne (by decide), fe 78 (by decide) (by decide), fe 79 (by decide) (by decide), fe 80 (by decide) (by decide), fe 227 (by decide) (by decide), fe 228 (by decide) (by decide), fe 229 (by decide) (by decide), fe 82 (by decide) (by decide)]; exact hA
  · rcases u2 c with e | e
    · have e' : fU_suspect F M a1 a2 a3 a4 = some (-1, M) := by rw [e]; split <;> rfl
      obtain ⟨_, v2⟩ := uM_suspect (F := F) (M := M) h1 h2 h3 h4 s2 s3
      exact ⟨_, _, e', v2 c, rfl, hI0.s⟩
    · obtain ⟨_, v2⟩ := uM_suspect (F := F) (M := st_ M 77 4 0) h1 h2 h3 h4 (by rw [st_ne (by decide)]; exact s2) s3
      exact ⟨_, _, e, v2 c, rfl, h.z0⟩
theorem wkq_31 {F : Nat} (hF : 1100 < F) (n : Nat) (M : bz_Mm) (hn : n < 512) (hI : Iv n M) : ∃ (x : Int × bz_Mm) (y : Int × bz_Mm), fU_forget F M = some x ∧ fM_forget F x.2 = some y ∧ w32 x.1 = w32 y.1 ∧ Iv (n + 1) y.2 := by
  obtain ⟨_, nf, _, nd, _, now, nh, ns, na, h⟩ := hI
  obtain ⟨⟨s1, s2, s3⟩, ss⟩ := h.2.2.1
  obtain ⟨⟨⟨e69, na8⟩, aa⟩, e3⟩ := h.2.2.2.1
  refine ⟨_, _, uU_forget, uM_forget, ?_, ?_⟩
  · dsimp only
    rw [st_ne (show (81 : Nat) ≠ 17 by decide), st_ne (show (81 : Nat) ≠ 77 by decide), st_ne (show (81 : Nat) ≠ 77 by decide), e3, s1, e69, s2]
  · dsimp only
    generalize hy : st_ (st_ (st_ (st_ (st_ M 77 3 0) 77 4 0) 17 2 0) 81 69 0) 81 13 0 = y
    have fe : ∀ q, q ≠ 17 → q ≠ 77 → q ≠ 81 → y q = M q := fun q w1 w2 w3 => by rw [← hy, st_ne w3, st_ne w3, st_ne w1, st_ne w2, st_ne w2]
    have y77 : y 77 = ud (ud (M 77) 3 0) 4 0 := by rw [← hy, st_ne (by decide), st_ne (by decide), st_ne (by decide), st_eq, st_eq]
    have y81 : y 81 = ud (ud (M 81) 69 0) 13 0 := by rw [← hy, st_eq, st_eq, st_ne (by decide), st_ne (by decide), st_ne (by decide)]
    have y17 : y 17 2 = 0 := by rw [← hy, st_ne (by decide), st_ne (by decide), st_eq, ud_eq]
    refine h.z (ns' := 0) (na' := 0) (fun q hq => fe q (by omega) (by omega) (by omega)) (fun j w1 w2 => by rw [y81, ud_ne w1, ud_ne w2]) ⟨⟨y17, by rw [y81, ud_eq]; rfl, by decide⟩, fun i hi => absurd hi (Nat.not_lt_zero i)⟩ ⟨⟨by rw [y81, ud_ne (by decide), ud_eq]; rfl, by decide⟩, fun i hi => absurd hi (Nat.not_lt_zero i)⟩ (by rw [y77, ud_ne (by decide), ud_eq]; rfl) (by rw [y77, ud_eq]) (by rw [y77, ud_ne (by decide), ud_ne (by decide)]) ⟨fun i hi => absurd hi (Nat.not_lt_zero i), fun i j _ hj => absurd hj (Nat.not_lt_zero j), fun t ht => absurd ht (Nat.not_lt_zero t), fun i hi => absurd hi (Nat.not_lt_zero i)⟩
theorem wkq_15 {F : Nat} (hF : 1100 < F) (n : Nat) (M : bz_Mm) (a1 : Int) (hn : n < 512) (hI : Iv n M) (h1 : r32 a1) : ∃ (x : Int × bz_Mm) (y : Int × bz_Mm), fU_go F M a1 = some x ∧ fM_go F x.2 a1 = some y ∧ w32 x.1 = w32 y.1 ∧ Iv (n + 1) y.2 := by
  have hI0 := hI
  obtain ⟨nn, nf, nt, nd, nl, now, nh, ns, na, ⟨a, aC, a17, a53, a53b, a42⟩, b, d, ⟨e, e3⟩, f, g1, ⟨m, g2⟩, g3, g4, g5, g6, g7, g8⟩ := hI
  obtain ⟨x, y, now', p1, p2, p3, p4, p5, p6⟩ := eq_go (F := F) (by omega) h1 a aC a17 ⟨a53.1, by omega⟩ a53b
  refine ⟨x, y, p1, p2, by rw [p3], ?_⟩
  rcases p6 with ⟨r1, r2⟩ | ⟨r1, r2, r3, r4, ⟨r5, r6⟩, r7, r8, r9, r10⟩
  · rw [r1]; exact hI0.s
  · have fe : ∀ q, ((1 < q ∧ q < 40) ∨ (49 < q ∧ q < 53) ∨ (64 < q ∧ q < 81) ∨ (81 < q ∧ q < 107) ∨ (109 < q ∧ q < 158) ∨ 222 < q) → y.2 q = M q := fun q hq => by
      by_cases z : q < 81
      · exact r1 q (by omega) (by omega)
      · exact r7 q (by omega) (by omega) (by omega) (by omega) (by omega)
    refine ⟨nn, nf, nt, nd, nl, now', nh, ns, na, ⟨p4, Or.inr (Or.inl ?_), ?_, ?_, ?_, fun i hz => ?_⟩, ?_, ?_, ⟨?_, ?_⟩, ⟨?_, ?_, Or.inr (Or.inl ?_)⟩, ?_, ⟨m, ?_⟩, ?_, ?_, ?_, ?_, ?_, fun i hi => ?_⟩
    · rw [r6, r3]; omega
    · rw [r3]; omega
    · rw [r6, r3]; omega
    · have := a.1.2.2; rw [r5]; exact ⟨by omega, by omega⟩
    · rw [fe 82 (by decide), fe 106 (by decide)] at hz
      have hz' : i < nd → ¬ (opn (M 82) (M 106 i).toNat = true ∧ M 106 i < (now : Int)) := fun q w => hz q ⟨w.1, by omega⟩
      rw [r9 i hz']; exact a42 i hz'
    · exact b.c (fun q hq => fe q (by omega)) (r2 15 (by decide) (by decide)) (r8 20 (by decide) (by decide))
    · unfold ISu at d ⊢
      rw [fe 17 (by decide), r8 13 (by decide) (by decide), fe 20 (by decide), fe 21 (by decide), fe 18 (by decide), fe 22 (by decide), fe 88 (by decide), fe 89 (by decide), fe 90 (by decide), fe 91 (by decide)]; exact d
    · unfold IAu at e ⊢
      rw [r8 69 (by decide) (by decide), fe 78 (by decide), fe 79 (by decide), fe 80 (by decide), fe 227 (by decide), fe 228 (by decide), fe 229 (by decide), fe 82 (by decide)]
      refine ⟨e.1, fun a ha => ?_⟩
      obtain ⟨w1, w2, w3, w4⟩ := e.2 a ha
      exact ⟨w1, w2, ⟨w3.1, by omega, w3.2.2⟩, w4⟩
    · rw [fe 77 (by decide)]; exact e3
    · have := f.1; rw [fe 77 (by decide), r3]; omega
    · rw [fe 77 (by decide)]; exact f.2.1
    · have := f.1; rw [fe 77 (by decide), r3]; omega
    · rw [r3]; omega
    · exact g2.c (by rw [fe 50 (by decide)]) (fe 51 (by decide)) (fe 110 (by decide)) (r8 37 (by decide) (by decide))
    · rw [r8 2 (by decide) (by decide), r2 16 (by decide) (by decide)]; exact g3
    · rw [fe 18 (by decide), fe 19 (by decide)]; exact g4
    · rw [fe 5 (by decide)]; exact g5
    · rw [fe 3 (by decide)]; exact g6
    · rw [fe 96 (by decide)]; exact g7
    · obtain ⟨⟨w1, w2⟩, w3, w4, w5⟩ := r10 i hi
      rw [w1, w2, w3, w4, w5]; exact g8 i hi
