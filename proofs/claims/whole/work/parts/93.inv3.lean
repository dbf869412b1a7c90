/-! the calls that leave the told state alone -/
theorem Ia.k {M y : bz_Mm} {c n nf nt nd nl now nh nh' ns na : Nat} (h : Ia M c n nf nt nd nl now nh ns na) (fe : ∀ q, (iS q ∨ (16 < q ∧ q < 24) ∨ (76 < q ∧ q < 81) ∨ (87 < q ∧ q < 92) ∨ (226 < q ∧ q < 230)) → y q = M q) (f1 : ∀ j, (j = 13 ∨ j = 14 ∨ j = 17) → y 1 j = M 1 j) (f81 : ∀ j, (j = 0 ∨ j = 12 ∨ j = 13 ∨ j = 19 ∨ j = 27 ∨ j = 35 ∨ j = 43 ∨ j = 61 ∨ j = 69) → y 81 j = M 81 j) (hH : IH y nf nd nh') (hX : IX y (c + 1) nf nd nh' ns) : Iv (c + 1) y := by
  obtain ⟨a, b, d, ⟨e, e2⟩, f, g⟩ := h
  have fi : ∀ q, iS q → y q = M q := fun q hq => fe q (Or.inl hq)
  have fo : ∀ q, ((16 < q ∧ q < 24) ∨ (76 < q ∧ q < 81) ∨ (87 < q ∧ q < 92) ∨ (226 < q ∧ q < 230)) → y q = M q := fun q hq => fe q (Or.inr hq)
  have f8 : ∀ j, (j = 0 ∨ j = 12 ∨ j = 19 ∨ j = 27 ∨ j = 35 ∨ j = 43 ∨ j = 61) → y 81 j = M 81 j := fun j hj => f81 j (by omega)
  refine ⟨n, nf, nt, nd, nl, now, nh', ns, na, a.c fi ⟨f1 13 (by decide), f1 14 (by decide)⟩ (f1 17 (by decide)) f8, hH, ?_, ⟨?_, by rw [fo 77 (by decide)]; exact e2⟩, f.c a.1 e fi ⟨f1 13 (by decide), f1 14 (by decide)⟩ (f1 17 (by decide)) f8 (fun q u v => fo q (by omega)) (fun q u v => fo q (by omega)) (fo 77 (by decide)), hX⟩
  · unfold ISu at d ⊢
    rw [fo 17 (by decide), f81 13 (by decide), fo 20 (by decide), fo 21 (by decide), fo 18 (by decide), fo 22 (by decide), fo 88 (by decide), fo 89 (by decide), fo 90 (by decide), fo 91 (by decide)]; exact d
  · unfold IAu at e ⊢
    rw [f81 69 (by decide), fo 78 (by decide), fo 79 (by decide), fo 80 (by decide), fo 227 (by decide), fo 228 (by decide), fo 229 (by decide), fi 82 (by unfold iS; decide)]; exact e
theorem IH.c {M y : bz_Mm} {nf nd nh : Nat} (h : IH M nf nd nh) (fe : ∀ q, (q = 3 ∨ q = 4 ∨ q = 5 ∨ q = 37 ∨ q = 94 ∨ q = 95 ∨ q = 96) → y q = M q) (f1 : y 1 15 = M 1 15) (f81 : y 81 20 = M 81 20) : IH y nf nd nh := by
  unfold IH at h ⊢
  rw [f1, f81, fe 3 (by decide), fe 4 (by decide), fe 5 (by decide), fe 37 (by decide), fe 94 (by decide), fe 95 (by decide), fe 96 (by decide)]; exact h
theorem IX.c {M y : bz_Mm} {c nf nd nh ns : Nat} (h : IX M c nf nd nh ns) (fe : ∀ q, (q = 3 ∨ q = 5 ∨ q = 18 ∨ q = 19 ∨ q = 40 ∨ q = 41 ∨ q = 51 ∨ q = 96 ∨ q = 107 ∨ q = 108 ∨ q = 109 ∨ q = 110) → y q = M q) (f1 : y 1 16 = M 1 16 ∧ y 1 17 = M 1 17) (f50 : y 50 2 = M 50 2) (f81 : y 81 2 = M 81 2 ∧ y 81 37 = M 81 37) : IX y (c + 1) nf nd nh ns := by
  obtain ⟨h1, ⟨m, h2⟩, h3, h4, h5, h6, h7, h8⟩ := h
  refine ⟨by rw [f1.2]; omega, ⟨m, h2.c f50 (fe 51 (by decide)) (fe 110 (by decide)) f81.2⟩, by rw [f81.1, f1.1]; exact h3, by rw [fe 18 (by decide), fe 19 (by decide)]; exact h4, by rw [fe 5 (by decide)]; exact h5, by rw [fe 3 (by decide)]; exact h6, by rw [fe 96 (by decide)]; exact h7, by rw [fe 40 (by decide), fe 41 (by decide), fe 107 (by decide), fe 108 (by decide), fe 109 (by decide)]; exact h8⟩
theorem wkq_2 {F : Nat} (hF : 1100 < F) (n : Nat) (M : bz_Mm) (a1 : Int) (hn : n < 512) (hI : Iv n M) (h1 : r32 a1) : ∃ (x : Int × bz_Mm) (y : Int × bz_Mm), fU_holder F M a1 = some x ∧ fM_holder F x.2 a1 = some y ∧ w32 x.1 = w32 y.1 ∧ Iv (n + 1) y.2 := by
  have hI0 := hI
  obtain ⟨_, nf, _, nd, _, _, nh, ns, _, h⟩ := hI
  obtain ⟨f1, f2, f3, f4, f5, f6⟩ := h.f
  have hH := h.2.1
  have hX := h.2.2.2.2.2
  obtain ⟨⟨e1, e2, e3⟩, b2, b3, b4, b5⟩ := hH
  have eu := uU_holder (F := F) (M := M) h1 f3
  rw [e1] at eu
  by_cases c : -11 ≤ a1 ∧ a1 ≤ 12 ∧ (nh : Int) < 16
  · rw [if_pos c, Int.toNat_natCast] at eu
    have em := uM_holder (F := F) (M := st_ (st_ M 4 nh a1) 1 15 ((nh : Int) + 1)) h1 (by rw [st_ne (by decide), st_ne (by decide)]; omega)
    rw [st_ne (by decide), st_ne (by decide), e2, if_pos c, Int.toNat_natCast] at em
    refine ⟨_, _, eu, em, rfl, ?_⟩
    dsimp only
    have nh16 : nh < 16 := by omega
    generalize hy : st_ (st_ (st_ (st_ (st_ M 4 nh a1) 1 15 ((nh : Int) + 1)) 94 nh a1) 95 nh (-1)) 81 20 ((nh : Int) + 1) = y
    have fe : ∀ q, q ≠ 1 → q ≠ 4 → q ≠ 94 → q ≠ 95 → q ≠ 81 → y q = M q := fun q u1 u2 u3 u4 u5 => by rw [← hy, st_ne u5, st_ne u4, st_ne u3, st_ne u1, st_ne u2]
    have y1 : y 1 = ud (M 1) 15 ((nh : Int) + 1) := by rw [← hy, st_ne (by decide), st_ne (by decide), st_ne (by decide), st_eq, st_ne (by decide)]
    have y81 : y 81 = ud (M 81) 20 ((nh : Int) + 1) := by rw [← hy, st_eq, st_ne (by decide), st_ne (by decide), st_ne (by decide), st_ne (by decide)]
    have y4 : y 4 = ud (M 4) nh a1 := by rw [← hy, st_ne (by decide), st_ne (by decide), st_ne (by decide), st_ne (by decide), st_eq]
    have y94 : y 94 = ud (M 94) nh a1 := by rw [← hy, st_ne (by decide), st_ne (by decide), st_eq, st_ne (by decide), st_ne (by decide)]
    have y95 : y 95 = ud (M 95) nh (-1) := by rw [← hy, st_ne (by decide), st_eq, st_ne (by decide), st_ne (by decide), st_ne (by decide)]
    refine h.k (nh' := nh + 1) (fun q hq => fe q (by unfold iS at hq; omega) (by unfold iS at hq; omega) (by unfold iS at hq; omega) (by unfold iS at hq; omega) (by unfold iS at hq; omega)) (fun j hj => by rw [y1, ud_ne (by omega)]) (fun j hj => by rw [y81, ud_ne (by omega)]) ⟨⟨by rw [y1, ud_eq]; omega, by rw [y81, ud_eq]; omega, by omega⟩, fun j hj => ?_, fun j hj => ?_, by rw [fe 3 (by decide) (by decide) (by decide) (by decide) (by decide), fe 96 (by decide) (by decide) (by decide) (by decide) (by decide)]; exact b4, fun i hi hz => ?_⟩ ?_
    · rw [y4, y94, y95, fe 5 (by decide) (by decide) (by decide) (by decide) (by decide)]
      by_cases z : j = nh
      · subst z
        rw [ud_eq, ud_eq, ud_eq, hX.2.2.2.2.1 j (Nat.le_refl j) nh16]
        exact ⟨⟨rfl, c.1, c.2.1⟩, rfl, by decide, by decide⟩
      · rw [ud_ne z, ud_ne z, ud_ne z]; exact b2 j (by omega)
    · rw [y95]
      by_cases z : j = nh
      · subst z; rw [ud_eq]; exact ⟨by decide, by decide⟩
      · rw [ud_ne z]; exact b3 j hj
    · rw [fe 37 (by decide) (by decide) (by decide) (by decide) (by decide)] at hz ⊢
      have := b5 i hi hz; omega
    · have g := hX.c (y := y) (fun q hq => fe q (by omega) (by omega) (by omega) (by omega) (by omega)) ⟨by rw [y1, ud_ne (by decide)], by rw [y1, ud_ne (by decide)]⟩ (by rw [fe 50 (by decide) (by decide) (by decide) (by decide) (by decide)]) ⟨by rw [y81, ud_ne (by decide)], by rw [y81, ud_ne (by decide)]⟩
      obtain ⟨g1, g2, g3, g4, g5, g6⟩ := g
      exact ⟨g1, g2, g3, g4, fun j u v => g5 j (by omega) v, g6⟩
  · rw [if_neg c] at eu
    have em := uM_holder (F := F) (M := M) h1 (by omega)
    rw [e2, if_neg c] at em
    exact ⟨_, _, eu, em, rfl, hI0.s⟩
theorem wkq_26 {F : Nat} (hF : 1100 < F) (n : Nat) (M : bz_Mm) (a1 : Int) (hn : n < 512) (hI : Iv n M) (h1 : r32 a1) : ∃ (x : Int × bz_Mm) (y : Int × bz_Mm), fU_gone F M a1 = some x ∧ fM_gone F x.2 a1 = some y ∧ w32 x.1 = w32 y.1 ∧ Iv (n + 1) y.2 := by
  have hI0 := hI
  obtain ⟨_, nf, _, nd, _, now, nh, ns, _, h⟩ := hI
  obtain ⟨f1, f2, f3, f4, f5, f6⟩ := h.f
  have hX := h.2.2.2.2.2
  obtain ⟨⟨e1, e2, e3⟩, b2, b3, b4, b5⟩ := h.2.1
  have e13 : M 1 13 = now := h.1.1.1.1
  have r5 : ∀ j, j < 16 → r32 (M 5 j) := fun j hj => by
    by_cases z : j < nh
    · have := (b2 j z).2.2; exact ⟨by omega, by omega⟩
    · rw [hX.2.2.2.2.1 j (by omega) hj]; exact ⟨by decide, by decide⟩
  have eu := uU_gone (F := F) (M := M) h1 f3 r5
  by_cases c : 0 ≤ a1 ∧ a1 < M 1 15 ∧ M 5 a1.toNat = -1
  · rw [if_pos c] at eu
    have jn : a1.toNat < nh := by omega
    have em := uM_gone (F := F) (M := st_ M 5 a1.toNat (M 1 13)) h1 (by rw [st_ne (by decide)]; omega) (by rw [st_ne (by decide)]; exact b3)
    rw [st_ne (by decide), st_ne (by decide), if_pos ⟨c.1, by omega, by rw [← (b2 _ jn).2.1]; exact c.2.2⟩] at em
    refine ⟨_, _, eu, em, rfl, ?_⟩
    dsimp only
    generalize a1.toNat = j at *
    generalize hy : st_ (st_ M 5 j (M 1 13)) 95 j (M 81 0) = y
    have fe : ∀ q, q ≠ 5 → q ≠ 95 → y q = M q := fun q u1 u2 => by rw [← hy, st_ne u2, st_ne u1]
    have y5 : y 5 = ud (M 5) j (M 1 13) := by rw [← hy, st_ne (by decide), st_eq]
    have y95 : y 95 = ud (M 95) j (M 81 0) := by rw [← hy, st_eq, st_ne (by decide)]
    refine h.k (fun q hq => fe q (by unfold iS at hq; omega) (by unfold iS at hq; omega)) (fun j hj => by rw [fe 1 (by decide) (by decide)]) (fun j hj => by rw [fe 81 (by decide) (by decide)]) ⟨by rw [fe 1 (by decide) (by decide), fe 81 (by decide) (by decide)]; exact ⟨e1, e2, e3⟩, fun i hi => ?_, fun i hi => ?_, by rw [fe 3 (by decide) (by decide), fe 96 (by decide) (by decide)]; exact b4, by rw [fe 37 (by decide) (by decide)]; exact b5⟩ ?_
    · rw [fe 4 (by decide) (by decide), fe 94 (by decide) (by decide), y5, y95]
      refine ⟨(b2 i hi).1, ?_⟩
      by_cases z : i = j
      · subst z; rw [ud_eq, ud_eq, f4.1]; exact ⟨rfl, by omega, by omega⟩
      · rw [ud_ne z, ud_ne z]; exact (b2 i hi).2
    · rw [y95]
      by_cases z : i = j
      · subst z; rw [ud_eq]; exact ⟨by omega, by omega⟩
      · rw [ud_ne z]; exact b3 i hi
    · obtain ⟨h1, ⟨m, h2⟩, h3, h4, h5, h6, h7, h8⟩ := hX
      refine ⟨by rw [fe 1 (by decide) (by decide)]; omega, ⟨m, h2.c (by rw [fe 50 (by decide) (by decide)]) (fe 51 (by decide) (by decide)) (fe 110 (by decide) (by decide)) (by rw [fe 81 (by decide) (by decide)])⟩, by rw [fe 81 (by decide) (by decide), fe 1 (by decide) (by decide)]; exact h3, by rw [fe 18 (by decide) (by decide), fe 19 (by decide) (by decide)]; exact h4, fun i u v => ?_, by rw [fe 3 (by decide) (by decide)]; exact h6, by rw [fe 96 (by decide) (by decide)]; exact h7, by rw [fe 40 (by decide) (by decide), fe 41 (by decide) (by decide), fe 107 (by decide) (by decide), fe 108 (by decide) (by decide), fe 109 (by decide) (by decide)]; exact h8⟩
      rw [y5, ud_ne (by omega)]; exact h5 i u v
  · rw [if_neg c] at eu
    have em := uM_gone (F := F) (M := M) h1 (by omega) b3
    rw [if_neg (fun q => c ⟨q.1, by omega, by rw [(b2 a1.toNat (by omega)).2.1]; exact q.2.2⟩)] at em
    exact ⟨_, _, eu, em, rfl, hI0.s⟩
theorem wkq_27 {F : Nat} (hF : 1100 < F) (n : Nat) (M : bz_Mm) (a1 : Int) (hn : n < 512) (hI : Iv n M) (h1 : r32 a1) : ∃ (x : Int × bz_Mm) (y : Int × bz_Mm), fU_found F M a1 = some x ∧ fM_found F x.2 a1 = some y ∧ w32 x.1 = w32 y.1 ∧ Iv (n + 1) y.2 := by
  have hI0 := hI
  obtain ⟨_, nf, _, nd, _, now, nh, ns, _, h⟩ := hI
  obtain ⟨f1, f2, f3, f4, f5, f6⟩ := h.f
  have hX := h.2.2.2.2.2
  obtain ⟨b1, b2, b3, b4, b5⟩ := h.2.1
  have e13 : M 1 13 = now := h.1.1.1.1
  have e14 : M 1 14 = nf := h.1.1.2.1.1
  have r3 : ∀ j, j < 4 → r32 (M 3 j) := fun j hj => by
    by_cases z : j < nf
    · have := (b4 j z).2; exact ⟨by omega, by omega⟩
    · rw [hX.2.2.2.2.2.1 j (by omega) hj]; exact ⟨by decide, by decide⟩
  have r96 := hX.2.2.2.2.2.2.1
  have eu := uU_found (F := F) (M := M) h1 f1 f2 r3
  by_cases c : 0 ≤ a1 ∧ a1 < M 1 14 ∧ M 3 a1.toNat = -1 ∧ M 1 13 < 260
  · rw [if_pos c] at eu
    have jn : a1.toNat < nf := by omega
    have em := uM_found (F := F) (M := st_ M 3 a1.toNat (M 1 13)) h1 (by rw [st_ne (by decide)]; omega) (by rw [st_ne (by decide)]; omega) (by rw [st_ne (by decide)]; exact r96)
    rw [st_ne (by decide), st_ne (by decide), if_pos ⟨c.1, by omega, by rw [← (b4 _ jn).1]; exact c.2.2.1, by omega⟩] at em
    refine ⟨_, _, eu, em, rfl, ?_⟩
    dsimp only
    have now2 := c.2.2.2
    generalize a1.toNat = j at *
    generalize hy : st_ (st_ M 3 j (M 1 13)) 96 j (M 81 0) = y
    have fe : ∀ q, q ≠ 3 → q ≠ 96 → y q = M q := fun q u1 u2 => by rw [← hy, st_ne u2, st_ne u1]
    have y3 : y 3 = ud (M 3) j (M 1 13) := by rw [← hy, st_ne (by decide), st_eq]
    have y96 : y 96 = ud (M 96) j (M 81 0) := by rw [← hy, st_eq, st_ne (by decide)]
    refine h.k (fun q hq => fe q (by unfold iS at hq; omega) (by unfold iS at hq; omega)) (fun j hj => by rw [fe 1 (by decide) (by decide)]) (fun j hj => by rw [fe 81 (by decide) (by decide)]) ⟨by rw [fe 1 (by decide) (by decide), fe 81 (by decide) (by decide)]; exact b1, by rw [fe 4 (by decide) (by decide), fe 94 (by decide) (by decide), fe 5 (by decide) (by decide), fe 95 (by decide) (by decide)]; exact b2, by rw [fe 95 (by decide) (by decide)]; exact b3, fun i hi => ?_, by rw [fe 37 (by decide) (by decide)]; exact b5⟩ ?_
    · rw [y3, y96]
      by_cases z : i = j
      · subst z; rw [ud_eq, ud_eq, f4.1]; exact ⟨rfl, by omega, by omega⟩
      · rw [ud_ne z, ud_ne z]; exact b4 i hi
    · obtain ⟨h1, ⟨m, h2⟩, h3, h4, h5, h6, h7, h8⟩ := hX
      refine ⟨by rw [fe 1 (by decide) (by decide)]; omega, ⟨m, h2.c (by rw [fe 50 (by decide) (by decide)]) (fe 51 (by decide) (by decide)) (fe 110 (by decide) (by decide)) (by rw [fe 81 (by decide) (by decide)])⟩, by rw [fe 81 (by decide) (by decide), fe 1 (by decide) (by decide)]; exact h3, by rw [fe 18 (by decide) (by decide), fe 19 (by decide) (by decide)]; exact h4, by rw [fe 5 (by decide) (by decide)]; exact h5, fun i u v => ?_, fun i hi => ?_, by rw [fe 40 (by decide) (by decide), fe 41 (by decide) (by decide), fe 107 (by decide) (by decide), fe 108 (by decide) (by decide), fe 109 (by decide) (by decide)]; exact h8⟩
      · rw [y3, ud_ne (by omega)]; exact h6 i u v
      · rw [y96]
        by_cases z : i = j
        · subst z; rw [ud_eq]; exact ⟨by omega, by omega⟩
        · rw [ud_ne z]; exact h7 i hi
  · rw [if_neg c] at eu
    have em := uM_found (F := F) (M := M) h1 (by omega) (by omega) r96
    rw [if_neg (fun q => c ⟨q.1, by omega, by rw [(b4 a1.toNat (by omega)).1]; exact q.2.2.1, by omega⟩)] at em
    exact ⟨_, _, eu, em, rfl, hI0.s⟩
/-- what a text does to the state -/
theorem Ia.x {M y : bz_Mm} {c n nf nt nd nl now nh ns na : Nat} (h : Ia M c n nf nt nd nl now nh ns na) (fe : ∀ q, q ≠ 50 → q ≠ 51 → q ≠ 52 → q ≠ 81 → q ≠ 110 → (q < 149 ∨ 153 < q) → y q = M q) (f81 : ∀ j, j ≠ 37 → j ≠ 38 → j ≠ 39 → j ≠ 40 → y 81 j = M 81 j) (hT : ∃ m, iv_tx y m) : Iv (c + 1) y := by
  have hH := h.2.1
  obtain ⟨g1, g2, g3, g4, g5, g6, g7, g8⟩ := h.2.2.2.2.2
  have fo : ∀ q, (q < 50 ∨ (52 < q ∧ q < 81) ∨ (81 < q ∧ q < 110)) → y q = M q := fun q hq => fe q (by omega) (by omega) (by omega) (by omega) (by omega) (by omega)
  refine h.k (fun q hq => fe q (by unfold iS at hq; omega) (by unfold iS at hq; omega) (by unfold iS at hq; omega) (by unfold iS at hq; omega) (by unfold iS at hq; omega) (by unfold iS at hq; omega)) (fun j _ => by rw [fo 1 (by decide)]) (fun j hj => f81 j (by omega) (by omega) (by omega) (by omega)) (hH.c (fun q hq => fo q (by omega)) (by rw [fo 1 (by decide)]) (f81 20 (by decide) (by decide) (by decide) (by decide))) ⟨by rw [fo 1 (by decide)]; omega, hT, by rw [f81 2 (by decide) (by decide) (by decide) (by decide), fo 1 (by decide)]; exact g3, by rw [fo 18 (by decide), fo 19 (by decide)]; exact g4, by rw [fo 5 (by decide)]; exact g5, by rw [fo 3 (by decide)]; exact g6, by rw [fo 96 (by decide)]; exact g7, by rw [fo 40 (by decide), fo 41 (by decide), fo 107 (by decide), fo 108 (by decide), fo 109 (by decide)]; exact g8⟩
theorem wkq_10 {F : Nat} (hF : 1100 < F) (n : Nat) (M : bz_Mm) (a1 a2 a3 a4 a5 : Int) (hn : n < 512) (hI : Iv n M) (h1 : r32 a1) (h2 : r32 a2) (h3 : r32 a3) (h4 : r32 a4) (h5 : r32 a5) : ∃ (x : Int × bz_Mm) (y : Int × bz_Mm), fU_feed F M a1 a2 a3 a4 a5 = some x ∧ fM_feed F x.2 a1 a2 a3 a4 a5 = some y ∧ w32 x.1 = w32 y.1 ∧ Iv (n + 1) y.2 := by
  have hI0 := hI
  obtain ⟨_, nf, _, nd, _, now, nh, ns, _, h⟩ := hI
  obtain ⟨m, tx⟩ := h.2.2.2.2.2.2.1
  have eu := uU_feed (F := F) (M := M) (a := a1) (b := a2) (c := a3) (d := a4) (e := a5) (by omega) tx.1 tx.2.2.1
  by_cases c : m + 20 ≤ 600
  · rw [if_pos c] at eu
    have o : ∀ q, q ≠ 50 → q ≠ 51 → apU5 M a1 a2 a3 a4 a5 m q = M q := fun q u v => by unfold apU5; rw [apU_o u v, apU_o u v, apU_o u v, apU_o u v, apU_o u v]
    have em := uM_feed (F := F) (M := apU5 M a1 a2 a3 a4 a5 m) (a := a1) (b := a2) (c := a3) (d := a4) (e := a5) (by omega) (by rw [o 81 (by decide) (by decide)]; exact tx.2.1) tx.2.2.1
    rw [if_pos c] at em
    refine ⟨_, _, eu, em, rfl, ?_⟩
    dsimp only
    refine h.x (fun q u1 u2 u3 u4 u5 u6 => ?_) (fun j u1 u2 u3 u4 => ?_) ⟨_, ap5_iv tx c⟩
    · unfold apM5; rw [apM_o u4 u5, apM_o u4 u5, apM_o u4 u5, apM_o u4 u5, apM_o u4 u5]; exact o q u1 u2
    · unfold apM5; rw [apM_p u1, apM_p u1, apM_p u1, apM_p u1, apM_p u1, o 81 (by decide) (by decide)]
  · rw [if_neg c] at eu
    have em := uM_feed (F := F) (M := M) (a := a1) (b := a2) (c := a3) (d := a4) (e := a5) (by omega) tx.2.1 tx.2.2.1
    rw [if_neg c] at em
    exact ⟨_, _, eu, em, rfl, hI0.s⟩
theorem wkq_11 {F : Nat} (hF : 1100 < F) (n : Nat) (M : bz_Mm) (a1 : Int) (hn : n < 512) (hI : Iv n M) (h1 : r32 a1) : ∃ (x : Int × bz_Mm) (y : Int × bz_Mm), fU_end F M a1 = some x ∧ fM_end F x.2 a1 = some y ∧ w32 x.1 = w32 y.1 ∧ Iv (n + 1) y.2 := by
  have hI0 := hI
  obtain ⟨_, nf, _, nd, _, now, nh, ns, _, h⟩ := hI
  obtain ⟨m, tx⟩ := h.2.2.2.2.2.2.1
  obtain ⟨t1, t2, t3, t4⟩ := tx
  have eu := uU_end (F := F) (M := M) h1 (by omega)
  by_cases c : 0 ≤ a1 ∧ a1 ≤ M 50 2
  · rw [if_pos c] at eu
    have em := uM_end (F := F) (M := st_ M 50 2 a1) h1 (by rw [st_ne (by decide)]; omega)
    rw [st_ne (by decide), if_pos (by omega)] at em
    refine ⟨_, _, eu, em, rfl, ?_⟩
    dsimp only
    refine h.x (fun q u1 u2 u3 u4 u5 u6 => by rw [st_ne u4, st_ne u1]) (fun j u1 u2 u3 u4 => by rw [st_eq, ud_ne u1, st_ne (by decide)]) ⟨a1.toNat, ?_, ?_, by omega, fun j hj => ?_⟩
    · rw [st_ne (by decide), st_eq, ud_eq]; omega
    · rw [st_eq, ud_eq]; omega
    · rw [st_ne (by decide), st_ne (by decide), st_ne (by decide), st_ne (by decide)]; exact t4 j (by omega)
  · rw [if_neg c] at eu
    have em := uM_end (F := F) (M := M) h1 (by omega)
    rw [if_neg (by omega)] at em
    exact ⟨_, _, eu, em, rfl, hI0.s⟩
theorem wkq_12 {F : Nat} (hF : 1100 < F) (n : Nat) (M : bz_Mm) (hn : n < 512) (hI : Iv n M) : ∃ (x : Int × bz_Mm) (y : Int × bz_Mm), fU_fault F M = some x ∧ fM_fault F x.2 = some y ∧ w32 x.1 = w32 y.1 ∧ Iv (n + 1) y.2 := by
  obtain ⟨_, nf, _, nd, _, now, nh, ns, _, h⟩ := hI
  obtain ⟨m, tx⟩ := h.2.2.2.2.2.2.1
  obtain ⟨x, Mu, Mm, p1, p2, ⟨q1, q2, q3⟩, ⟨r1, r2, _, r4, r5, _⟩, _⟩ := eq_fault (F := F) (by omega) tx
  refine ⟨_, _, p1, p2, rfl, ?_⟩
  dsimp only
  refine h.x (fun q u1 u2 u3 u4 u5 u6 => by rw [r4 q u4 u6, q3 q u1 u3]) (fun j u1 u2 u3 u4 => by rw [r5 j u2 u3 u4, q3 81 (by decide) (by decide)]) ⟨m, ?_, r2, tx.2.2.1, ?_⟩
  · rw [r4 50 (by decide) (by decide)]; exact q2
  · rw [r1, r4 51 (by decide) (by decide), q1]; exact tx.2.2.2
