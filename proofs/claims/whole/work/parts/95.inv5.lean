/-! the calls that tell -/
theorem IT.g {M y : bz_Mm} {n n' nf nf' nt nt' nd nl nl' now : Nat} (hI : IT M n nf nt nd nl now) (fD : ∀ q, ((34 ≤ q ∧ q ≤ 44 ∧ q ≠ 42) ∨ q = 48 ∨ q = 49 ∨ (103 ≤ q ∧ q ≤ 109) ∨ (211 ≤ q ∧ q ≤ 220)) → y q = M q) (f1 : y 1 13 = M 1 13) (f81 : y 81 0 = M 81 0 ∧ y 81 35 = M 81 35) (hnf : y 1 14 = nf' ∧ y 81 19 = nf' ∧ nf' ≤ 4) (hle : nf ≤ nf') (hA : AL y y n' ∧ TE n' y) (hT : TA y y nf' nt' ∧ y 81 27 = nt') (h6 : ∀ p, p < 8 → y 6 p = y 92 p ∧ 0 ≤ y 92 p ∧ y 92 p < 3) (hL : iv_la y nl') (h7 : ∀ j, j < 260 → y 7 j = y 82 j ∧ r32 (y 82 j)) (hop : ∀ d, d < now → opn (y 82) d = opn (M 82) d) (h2 : ∀ g, g < nf' → y 2 g = w32 (y 93 g)) (h13 : (∀ t, t < n' → y 87 t ≤ now ∧ 0 ≤ y 86 t ∧ y 86 t ≤ 10000) ∧ ∀ t, t < nt' → y 102 t ≤ now) (hbk : nf' = nf ∨ now = 0) : IT y n' nf' nt' nd nl' now := by
  have us : ∀ g D', usm y g D' nd = usm M g D' nd := fun g D' => usm_e nd (fun i hi => by rw [fD 104 (by decide), fD 106 (by decide), fD 107 (by decide)]; exact ⟨rfl, rfl, fun _ _ => rfl⟩)
  have hs : ∀ w g D', hwm y w g D' nd = hwm M w g D' nd := fun w g D' => hwm_e nd (fun i hi => by rw [fD 103 (by decide), fD 104 (by decide), fD 106 (by decide), fD 107 (by decide)]; exact ⟨rfl, rfl, rfl, fun _ _ => rfl⟩)
  obtain ⟨i1, i2, _, _, ⟨i5, i5b, i5c⟩, _, _, _, i9, i10, i11, _, _, i14⟩ := hI
  refine ⟨by rw [f1, f81.1]; exact i1, hnf, hA, hT, ⟨?_, by rw [f81.2]; exact i5b, by rw [fD 39 (by decide), fD 105 (by decide)]; exact i5c⟩, h6, hL, h7, fun i hi => ?_, ⟨fun w g D' hw hg => by rw [hs]; exact i10.1 w g D' hw hg, fun i hi => by
      have : hbi y nd i = hbi M nd i := by
        unfold hbi
        have e : ∀ (g D : Nat) (t : Nat → Int), sdl y g D t i = sdl M g D t i := fun g D t => sdl_c i (fun j _ => ⟨⟨by rw [fD 104 (by decide)], by rw [fD 106 (by decide)]⟩, fun _ _ => rfl⟩)
        rw [hs, e, fD 103 (by decide), fD 104 (by decide), fD 106 (by decide), fD 107 (by decide)]
      rw [this, fD 107 (by decide)]; exact i10.2 i hi⟩, fun g dd hg hd hop' => ?_, h2, h13, ⟨fun w g hw hg => by rw [fD 43 (by decide), hs]; exact i14.1 w g hw hg, fun g hg => by rw [fD 44 (by decide), us]; exact i14.2 g hg⟩⟩
  · obtain ⟨d1, d2, d3⟩ := i5
    refine ⟨by rw [fD 34 (by decide)]; exact d1, by rw [fD 35 (by decide), fD 36 (by decide)]; exact d2, fun i hi => ?_⟩
    obtain ⟨e1, e2, e3, e4⟩ := d3 i hi
    rw [fD 35 (by decide), fD 37 (by decide), fD 38 (by decide), fD 40 (by decide), fD 41 (by decide), fD 103 (by decide), fD 104 (by decide), fD 105 (by decide), fD 106 (by decide), fD 107 (by decide), fD 109 (by decide)]
    refine ⟨e1, ?_, ⟨e3.1, by omega⟩, e4⟩
    rcases e2 with q | q
    · exact Or.inl q
    · exact Or.inr ⟨q.1, by omega, q.2.2⟩
  · obtain ⟨e1, e2, e3, e4, e5⟩ := i9 i hi
    have d0 : 0 ≤ M 106 i ∧ M 106 i < 260 := by rw [← (i5.2.2 i hi).1.2.1]; exact i5.2.1.2.2.2 i hi
    rw [fD 106 (by decide), fD 107 (by decide), fD 108 (by decide), fD 109 (by decide)]
    refine ⟨fun q => ?_, e2, e3, e4, ?_⟩
    · by_cases z : M 106 i < now
      · exact e1 (by rw [← hop (M 106 i).toNat (by omega)]; exact q)
      · exact e4 (by omega)
    · rw [e5]
      by_cases z : M 106 i < now
      · rw [hop (M 106 i).toNat (by omega)]
      · rw [if_neg (fun q => z q.1), if_neg (fun q => z q.1)]
  · have := i2.2.2
    rw [hop dd hd] at hop'
    rw [fD 48 (by decide), fD 49 (by decide), fD (212 + g) (by omega), fD (217 + g) (by omega)]
    exact i11 g dd (by rcases hbk with z | z <;> omega) hd hop'
theorem TT.g {M y : bz_Mm} {n nd now : Nat} (fe : ∀ q, (q = 93 ∨ (97 ≤ q ∧ q ≤ 109) ∨ (83 ≤ q ∧ q ≤ 87) ∨ (211 ≤ q ∧ q ≤ 220) ∨ (53 ≤ q ∧ q ≤ 64) ∨ q = 10 ∨ q = 11 ∨ q = 26 ∨ q = 27 ∨ q = 35 ∨ q = 36 ∨ q = 42) → y q = M q) (h92 : 0 < now → y 92 = M 92) (hop : ∀ d, d < now → opn (y 82) d = opn (M 82) d) (hrv : ∀ f d w, f < 4 → w < 12 → d < now → rv y f (d : Nat) w = rv M f (d : Nat) w) : TT M y n nd nd now := by
  refine ⟨fun q hq => ?_, fun q t u v _ => by rw [fe q (by omega)], ⟨Nat.le_refl nd, fun i hi => by rw [fe 103 (by decide), fe 104 (by decide), fe 105 (by decide), fe 106 (by decide), fe 107 (by decide), fe 109 (by decide)]; exact ⟨⟨rfl, rfl, rfl, rfl⟩, rfl, rfl⟩, fun i a b => by omega⟩, hop, hrv, fun g d hg _ => by rw [fe (217 + g) (by omega)], fun q a b => fe q (by omega), ⟨fe 10 (by decide), fe 11 (by decide), fe 26 (by decide), fe 27 (by decide)⟩, fun a D _ h => by rw [fe 35 (by decide), fe 36 (by decide)]; exact h, fun i _ => by rw [fe 42 (by decide)]⟩
  rcases hq with z | z
  · rw [z.1]; exact h92 z.2
  · exact fe q (by omega)
/-- told of days to come -/
theorem Ia.t {M y : bz_Mm} {c n nf nt nd nd' nl nl' now nh ns na : Nat} (h : Ia M c n nf nt nd nl now nh ns na) (hI' : IT y n nf nt nd' nl' now) (hT : TT M y n nd nd' now) (fe : ∀ q, (q = 3 ∨ q = 4 ∨ q = 5 ∨ (16 < q ∧ q < 24) ∨ q = 42 ∨ (76 < q ∧ q < 81) ∨ (87 < q ∧ q < 92) ∨ (93 < q ∧ q < 97) ∨ (226 < q ∧ q < 230)) → y q = M q) (f1 : ∀ j, (j = 15 ∨ j = 17) → y 1 j = M 1 j) (f81 : ∀ j, (j = 13 ∨ j = 20 ∨ j = 69) → y 81 j = M 81 j) (h37 : ∀ i, i < nd' → y 37 i < 16 → y 37 i < nh) (hX : y 81 2 = y 1 16 ∧ (∃ m, iv_tx y m)) (hZ : ∀ i, nd' ≤ i → (y 40 i = 0 ∧ y 41 i = 0) ∧ y 107 i = 0 ∧ y 108 i = 0 ∧ y 109 i = 0) : Iv (c + 1) y := by
  obtain ⟨⟨a, aC, a17, a53, a53b, a42⟩, b, d, ⟨e, e2⟩, f, g1, g2, g3, g4, g5, g6, g7, g8⟩ := h
  have q53 := hT.2.2.2.2.2.2.1 53 (by decide) (by decide)
  have d0 := fun i hi => (a.2.2.2.2.1.1.2.1.2.2.2 i hi).1
  have d5 := fun i hi => (a.2.2.2.2.1.1.2.2 i hi).1.2.1
  have op := hT.2.2.2.1
  have t4 := hT.2.2.1
  refine ⟨n, nf, nt, nd', nl', now, nh, ns, na, ⟨hI', CA.tt a hI' hT (f1 17 (by decide)) aC, by rw [f1 17 (by decide)]; exact a17, by rw [q53, f1 17 (by decide)]; exact a53, by rw [q53]; exact a53b, fun i hz => ?_⟩, ⟨by rw [f1 15 (by decide), f81 20 (by decide)]; exact b.1, by rw [fe 4 (by decide), fe 5 (by decide), fe 94 (by decide), fe 95 (by decide)]; exact b.2.1, by rw [fe 95 (by decide)]; exact b.2.2.1, by rw [fe 3 (by decide), fe 96 (by decide)]; exact b.2.2.2.1, h37⟩, ?_, ⟨⟨by rw [f81 69 (by decide)]; exact e.1, fun a ha => ?_⟩, by rw [fe 77 (by decide)]; exact e2⟩, ?_, by rw [f1 17 (by decide)]; omega, hX.2, hX.1, by rw [fe 18 (by decide), fe 19 (by decide)]; exact g4, by rw [fe 5 (by decide)]; exact g5, by rw [fe 3 (by decide)]; exact g6, by rw [fe 96 (by decide)]; exact g7, hZ⟩
  · rw [fe 42 (by decide)]
    refine a42 i (fun hi w => hz (by omega) ?_)
    have e6 := (t4.2.1 i hi).1.2.2.2
    have := d0 i hi
    have := d5 i hi
    rw [e6, op (M 106 i).toNat (by omega)]; exact w
  · unfold ISu at d ⊢
    rw [fe 17 (by decide), f81 13 (by decide), fe 20 (by decide), fe 21 (by decide), fe 18 (by decide), fe 22 (by decide), fe 88 (by decide), fe 89 (by decide), fe 90 (by decide), fe 91 (by decide)]; exact d
  · obtain ⟨w1, w2, w3, w4⟩ := e.2 a ha
    rw [fe 78 (by decide), fe 79 (by decide), fe 80 (by decide), fe 227 (by decide), fe 228 (by decide), fe 229 (by decide), op (M 228 a).toNat (by omega)]
    exact ⟨w1, w2, w3, w4⟩
  · unfold SC at f ⊢
    rw [ex_.tt a hI' hT e (fun q i u v _ => by rw [fe q (by omega)]) (fun q u v => fe q (by omega)), fe 77 (by decide), f1 17 (by decide)]
    exact f
/-- told of days that may be over -/
theorem Ia.b {M y : bz_Mm} {c n n' nf nf' nt nt' nd nl now nh ns na : Nat} (hc : c < 512) (h : Ia M c n nf nt nd nl now nh ns na) (hI' : IT y n' nf' nt' nd nl now) (hle : nf ≤ nf') (fe : ∀ q, (q = 4 ∨ q = 5 ∨ (16 < q ∧ q < 24) ∨ q = 37 ∨ (40 ≤ q ∧ q ≤ 42) ∨ q = 50 ∨ q = 51 ∨ q = 53 ∨ (76 < q ∧ q < 81) ∨ q = 82 ∨ (87 < q ∧ q < 92) ∨ (93 < q ∧ q < 96) ∨ (105 < q ∧ q < 111) ∨ (226 < q ∧ q < 230)) → y q = M q) (f1 : ∀ j, (j = 15 ∨ j = 16) → y 1 j = M 1 j) (f17 : y 1 17 = M 1 17 + 1) (f81 : ∀ j, (j = 2 ∨ j = 13 ∨ j = 20 ∨ j = 37 ∨ j = 69) → y 81 j = M 81 j) (h3 : ∀ g, g < nf' → y 3 g = y 96 g ∧ -1 ≤ y 3 g ∧ y 3 g < 260) (h3b : ∀ g, nf' ≤ g → g < 4 → y 3 g = -1) (h96 : ∀ g, g < 4 → r32 (y 96 g)) : Iv (c + 1) y := by
  obtain ⟨⟨a, aC, a17, a53, a53b, a42⟩, b, d, ⟨e, e2⟩, f, g1, ⟨m, g2⟩, g3, g4, g5, g6, g7, g8⟩ := h
  have f0 := f.1
  refine ⟨n', nf', nt', nd, nl, now, nh, ns, na, ⟨hI', Or.inr (Or.inl (by rw [fe 53 (by decide), f17]; omega)), by rw [f17]; omega, by rw [fe 53 (by decide), f17]; omega, by rw [fe 53 (by decide)]; exact a53b, by rw [fe 82 (by decide), fe 106 (by decide), fe 42 (by decide)]; exact a42⟩, ⟨by rw [f1 15 (by decide), f81 20 (by decide)]; exact b.1, by rw [fe 4 (by decide), fe 5 (by decide), fe 94 (by decide), fe 95 (by decide)]; exact b.2.1, by rw [fe 95 (by decide)]; exact b.2.2.1, h3, by rw [fe 37 (by decide)]; exact b.2.2.2.2⟩, ?_, ⟨⟨by rw [f81 69 (by decide)]; exact e.1, fun a ha => ?_⟩, by rw [fe 77 (by decide)]; exact e2⟩, ⟨by rw [fe 77 (by decide), f17]; omega, by rw [fe 77 (by decide)]; exact f.2.1, Or.inr (Or.inl (by rw [fe 77 (by decide), f17]; omega))⟩, by rw [f17]; omega, ⟨m, g2.c (by rw [fe 50 (by decide)]) (fe 51 (by decide)) (fe 110 (by decide)) (f81 37 (by decide))⟩, by rw [f81 2 (by decide), f1 16 (by decide)]; exact g3, by rw [fe 18 (by decide), fe 19 (by decide)]; exact g4, by rw [fe 5 (by decide)]; exact g5, h3b, h96, by rw [fe 40 (by decide), fe 41 (by decide), fe 107 (by decide), fe 108 (by decide), fe 109 (by decide)]; exact g8⟩
  · unfold ISu at d ⊢
    rw [fe 17 (by decide), f81 13 (by decide), fe 20 (by decide), fe 21 (by decide), fe 18 (by decide), fe 22 (by decide), fe 88 (by decide), fe 89 (by decide), fe 90 (by decide), fe 91 (by decide)]; exact d
  · obtain ⟨w1, w2, w3, w4⟩ := e.2 a ha
    rw [fe 78 (by decide), fe 79 (by decide), fe 80 (by decide), fe 227 (by decide), fe 228 (by decide), fe 229 (by decide), fe 82 (by decide)]
    exact ⟨w1, ⟨w2.1, by omega⟩, w3, w4⟩
/-- parts of the told state that stay -/
theorem IT.al {M y : bz_Mm} {n nf nt nd nl now : Nat} (hI : IT M n nf nt nd nl now) (fe : ∀ q, ((9 ≤ q ∧ q ≤ 15) ∨ (83 ≤ q ∧ q ≤ 87)) → y q = M q) (f12 : y 81 12 = M 81 12) (f61 : y 81 61 = M 81 61) : AL y y n ∧ TE n y := by
  obtain ⟨a, b⟩ := hI.2.2.1
  refine ⟨a.p (fun q u v => fe q (by omega)) (fun q t u v _ => by rw [fe q (by omega)]), ?_⟩
  unfold TE at b ⊢
  rw [f12, f61, fe 83 (by decide), fe 84 (by decide), fe 85 (by decide), fe 87 (by decide)]; exact b
theorem IT.ta {M y : bz_Mm} {n nf nf' nt nd nl now : Nat} (hI : IT M n nf nt nd nl now) (hle : nf ≤ nf') (fe : ∀ q, ((25 ≤ q ∧ q ≤ 32) ∨ (97 ≤ q ∧ q ≤ 102)) → y q = M q) (f27 : y 81 27 = M 81 27) : TA y y nf' nt ∧ y 81 27 = nt := by
  obtain ⟨⟨a1, a2, a3⟩, b⟩ := hI.2.2.2.1
  refine ⟨⟨by rw [fe 25 (by decide)]; exact a1, by rw [fe 26 (by decide), fe 27 (by decide)]; exact a2, fun t ht => ?_⟩, by rw [f27]; exact b⟩
  obtain ⟨e1, e2, e3⟩ := a3 t ht
  rw [fe 26 (by decide), fe 28 (by decide), fe 29 (by decide), fe 30 (by decide), fe 31 (by decide), fe 32 (by decide), fe 97 (by decide), fe 98 (by decide), fe 99 (by decide), fe 100 (by decide), fe 101 (by decide), fe 102 (by decide)]
  exact ⟨e1, ⟨e2.1, by omega⟩, e3⟩
theorem wkq_0 {F : Nat} (hF : 1100 < F) (n : Nat) (M : bz_Mm) (a1 a2 : Int) (hn : n < 512) (hI : Iv n M) (h1 : r32 a1) (h2 : r32 a2) : ∃ (x : Int × bz_Mm) (y : Int × bz_Mm), fU_paper F M a1 a2 = some x ∧ fM_paper F x.2 a1 a2 = some y ∧ w32 x.1 = w32 y.1 ∧ Iv (n + 1) y.2 := by
  have hI0 := hI
  obtain ⟨nn, nf, nt, nd, nl, now, nh, ns, na, h⟩ := hI
  obtain ⟨f1, f2, f3, f4, f5, f6⟩ := h.f
  have a := h.1.1
  have eu := uU_paper (F := F) (M := M) h1 h2 ⟨by omega, by omega⟩
  by_cases c : 0 ≤ a1 ∧ a1 < 8 ∧ 0 ≤ a2 ∧ a2 < 3 ∧ M 1 13 = 0
  · rw [if_pos c] at eu
    have em := uM_paper (F := F) (M := st_ M 6 a1.toNat a2) h1 h2 (by rw [st_ne (by decide)]; exact ⟨by omega, by omega⟩)
    rw [st_ne (by decide), if_pos (by omega)] at em
    refine ⟨_, _, eu, em, rfl, ?_⟩
    dsimp only
    have n0 : now = 0 := by have := a.1.1; omega
    generalize a1.toNat = p at *
    generalize hy : st_ (st_ M 6 p a2) 92 p a2 = y
    have fe : ∀ q, q ≠ 6 → q ≠ 92 → y q = M q := fun q u v => by rw [← hy, st_ne v, st_ne u]
    have y6 : y 6 = ud (M 6) p a2 := by rw [← hy, st_ne (by decide), st_eq]
    have y92 : y 92 = ud (M 92) p a2 := by rw [← hy, st_eq, st_ne (by decide)]
    have q1 := fe 1 (by decide) (by decide)
    have q81 := fe 81 (by decide) (by decide)
    have hI' : IT y nn nf nt nd nl now := a.g (fun q hq => fe q (by omega) (by omega)) (by rw [q1]) (by rw [q81]; exact ⟨rfl, rfl⟩) (by rw [q1, q81]; exact a.2.1) (Nat.le_refl nf) (a.al (fun q hq => fe q (by omega) (by omega)) (by rw [q81]) (by rw [q81])) (a.ta (Nat.le_refl nf) (fun q hq => fe q (by omega) (by omega)) (by rw [q81])) (fun i hi => by
      rw [y6, y92]
      by_cases z : i = p
      · rw [z, ud_eq, ud_eq]; exact ⟨rfl, c.2.2.1, c.2.2.2.1⟩
      · rw [ud_ne z, ud_ne z]; exact a.2.2.2.2.2.1 i hi) (iv_la.c (fun q hq => fe q (by omega) (by omega)) (by rw [q81]) f6) (by rw [fe 7 (by decide) (by decide), fe 82 (by decide) (by decide)]; exact a.2.2.2.2.2.2.2.1) (fun d hd => by omega) (by rw [fe 2 (by decide) (by decide), fe 93 (by decide) (by decide)]; exact a.2.2.2.2.2.2.2.2.2.2.2.1) (by rw [fe 87 (by decide) (by decide), fe 86 (by decide) (by decide), fe 102 (by decide) (by decide)]; exact a.2.2.2.2.2.2.2.2.2.2.2.2.1) (Or.inl rfl)
    obtain ⟨g1, ⟨m, g2⟩, g3, g4, g5, g6, g7, g8⟩ := h.2.2.2.2.2
    refine h.t hI' (TT.g (fun q hq => fe q (by omega) (by omega)) (fun z => by omega) (fun d hd => by omega) (fun f d w _ _ hd => by omega)) (fun q hq => fe q (by omega) (by omega)) (fun j _ => by rw [q1]) (fun j _ => by rw [q81]) (by rw [fe 37 (by decide) (by decide)]; exact h.2.1.2.2.2.2) ⟨by rw [q81, q1]; exact g3, m, g2.c (by rw [fe 50 (by decide) (by decide)]) (fe 51 (by decide) (by decide)) (fe 110 (by decide) (by decide)) (by rw [q81])⟩ (by rw [fe 40 (by decide) (by decide), fe 41 (by decide) (by decide), fe 107 (by decide) (by decide), fe 108 (by decide) (by decide), fe 109 (by decide) (by decide)]; exact g8)
  · rw [if_neg c] at eu
    have em := uM_paper (F := F) (M := M) h1 h2 ⟨by omega, by omega⟩
    rw [if_neg (by omega)] at em
    exact ⟨_, _, eu, em, rfl, hI0.s⟩
theorem wkq_3 {F : Nat} (hF : 1100 < F) (n : Nat) (M : bz_Mm) (a1 : Int) (hn : n < 512) (hI : Iv n M) (h1 : r32 a1) : ∃ (x : Int × bz_Mm) (y : Int × bz_Mm), fU_holiday F M a1 = some x ∧ fM_holiday F x.2 a1 = some y ∧ w32 x.1 = w32 y.1 ∧ Iv (n + 1) y.2 := by
  have hI0 := hI
  obtain ⟨nn, nf, nt, nd, nl, now, nh, ns, na, h⟩ := hI
  obtain ⟨f1, f2, f3, f4, f5, f6⟩ := h.f
  have a := h.1.1
  have i8 := a.2.2.2.2.2.2.2.1
  have e13 := a.1.1
  have eu := uU_holiday (F := F) (M := M) h1 f1 f5.u
  by_cases c : M 1 13 < a1 ∧ a1 < 260 ∧ M 7 a1.toNat = 0
  · rw [if_pos c] at eu
    have em := uM_holiday (F := F) (M := st_ (st_ M 7 a1.toNat 1) 1 16 (M 1 16 + 1)) h1 (by rw [st_ne (by decide), st_ne (by decide), f4.1]; exact f1) (by rw [st_ne (by decide), st_ne (by decide)]; exact f5.m)
    rw [st_ne (by decide), st_ne (by decide), st_ne (by decide), st_ne (by decide), if_pos ⟨by omega, c.2.1, by rw [← (i8 a1.toNat (by omega)).1]; exact c.2.2⟩] at em
    refine ⟨_, _, eu, em, rfl, ?_⟩
    dsimp only
    have pn : now < a1.toNat ∧ a1.toNat < 260 := by omega
    generalize a1.toNat = p at *
    generalize hy : st_ (st_ (st_ (st_ M 7 p 1) 1 16 (M 1 16 + 1)) 82 p 1) 81 2 (M 81 2 + 1) = y
    have fe : ∀ q, q ≠ 1 → q ≠ 7 → q ≠ 82 → q ≠ 81 → y q = M q := fun q u v w x => by rw [← hy, st_ne x, st_ne w, st_ne u, st_ne v]
    have y1 : y 1 = ud (M 1) 16 (M 1 16 + 1) := by rw [← hy, st_ne (by decide), st_ne (by decide), st_eq, st_ne (by decide)]
    have y7 : y 7 = ud (M 7) p 1 := by rw [← hy, st_ne (by decide), st_ne (by decide), st_ne (by decide), st_eq]
    have y82 : y 82 = ud (M 82) p 1 := by rw [← hy, st_ne (by decide), st_eq, st_ne (by decide), st_ne (by decide)]
    have y81 : y 81 = ud (M 81) 2 (M 81 2 + 1) := by rw [← hy, st_eq, st_ne (by decide), st_ne (by decide), st_ne (by decide)]
    have fo : ∀ q, ((1 < q ∧ q < 7) ∨ (7 < q ∧ q < 81) ∨ 82 < q) → y q = M q := fun q hq => fe q (by omega) (by omega) (by omega) (by omega)
    have hop : ∀ d, d < now → opn (y 82) d = opn (M 82) d := fun d hd => by unfold opn; rw [y82, ud_ne (by omega)]
    have hI' : IT y nn nf nt nd nl now := a.g (fun q hq => fo q (by omega)) (by rw [y1, ud_ne (by decide)]) (by rw [y81, ud_ne (by decide), ud_ne (by decide)]; exact ⟨rfl, rfl⟩) (by rw [y1, y81, ud_ne (by decide), ud_ne (by decide)]; exact a.2.1) (Nat.le_refl nf) (a.al (fun q hq => fo q (by omega)) (by rw [y81, ud_ne (by decide)]) (by rw [y81, ud_ne (by decide)])) (a.ta (Nat.le_refl nf) (fun q hq => fo q (by omega)) (by rw [y81, ud_ne (by decide)])) (by rw [fo 6 (by decide), fo 92 (by decide)]; exact a.2.2.2.2.2.1) (iv_la.c (fun q hq => fo q (by omega)) (by rw [y81, ud_ne (by decide)]) f6) (fun j hj => by
      rw [y7, y82]
      by_cases z : j = p
      · rw [z, ud_eq, ud_eq]; exact ⟨rfl, by decide, by decide⟩
      · rw [ud_ne z, ud_ne z]; exact i8 j hj) hop (by rw [fo 2 (by decide), fo 93 (by decide)]; exact a.2.2.2.2.2.2.2.2.2.2.2.1) (by rw [fo 87 (by decide), fo 86 (by decide), fo 102 (by decide)]; exact a.2.2.2.2.2.2.2.2.2.2.2.2.1) (Or.inl rfl)
    obtain ⟨g1, ⟨m, g2⟩, g3, g4, g5, g6, g7, g8⟩ := h.2.2.2.2.2
    refine h.t hI' (TT.g (fun q hq => fo q (by omega)) (fun z => fo 92 (by decide)) hop (fun f d w hf _ hd => rv_c (fun q u v => fo q (by omega)) (by rw [y81, ud_ne (by decide)]) (by have := f6.2.1; have := f6.2.2.1; omega) f hf d w)) (fun q hq => fo q (by omega)) (fun j hj => by rw [y1, ud_ne (by omega)]) (fun j hj => by rw [y81, ud_ne (by omega)]) (by rw [fo 37 (by decide)]; exact h.2.1.2.2.2.2) ⟨by rw [y81, y1, ud_eq, ud_eq, g3], m, g2.c (by rw [fo 50 (by decide)]) (fo 51 (by decide)) (fo 110 (by decide)) (by rw [y81, ud_ne (by decide)])⟩ (by rw [fo 40 (by decide), fo 41 (by decide), fo 107 (by decide), fo 108 (by decide), fo 109 (by decide)]; exact g8)
  · rw [if_neg c] at eu
    have em := uM_holiday (F := F) (M := M) h1 (by rw [f4.1]; exact f1) f5.m
    rw [if_neg (fun q => c ⟨by omega, q.2.1, by rw [(i8 a1.toNat (by omega)).1]; exact q.2.2⟩)] at em
    exact ⟨_, _, eu, em, rfl, hI0.s⟩
theorem wkq_13 {F : Nat} (hF : 1100 < F) (n : Nat) (M : bz_Mm) (hn : n < 512) (hI : Iv n M) : ∃ (x : Int × bz_Mm) (y : Int × bz_Mm), fU_take F M = some x ∧ fM_take F x.2 = some y ∧ w32 x.1 = w32 y.1 ∧ Iv (n + 1) y.2 := by
  obtain ⟨nn, nf, nt, nd, nl, now, nh, ns, na, h⟩ := hI
  obtain ⟨f1, f2, f3, f4, f5, f6⟩ := h.f
  have a := h.1.1
  obtain ⟨g1, ⟨m, g2⟩, g3, g4, g5, g6, g7, g8⟩ := h.2.2.2.2.2
  obtain ⟨x, Mu, y, p1, p2, t1, t2, t3, ⟨nl', t4⟩, t5⟩ := eq_take (F := F) (by omega) g2 f6 f1 f4.1
  refine ⟨_, _, p1, p2, rfl, ?_⟩
  dsimp only
  have e0 := a.1.2.1
  have fo : ∀ q, (q < 45 ∨ (47 < q ∧ q < 50) ∨ q = 51 ∨ (52 < q ∧ q < 81) ∨ (81 < q ∧ q < 119) ∨ 154 < q) → y q = M q := t1
  have q1 := fo 1 (by decide)
  have e8 : ∀ j, j < 37 → y 81 j = M 81 j := fun j hj => t2 j (by omega) (by omega) (by omega) (by omega) (by omega)
  have e61 : y 81 61 = M 81 61 := t2 61 (by decide) (by decide) (by decide) (by decide) (by decide)
  have e69 : y 81 69 = M 81 69 := t2 69 (by decide) (by decide) (by decide) (by decide) (by decide)
  have hI' : IT y nn nf nt nd nl' now := a.g (fun q hq => fo q (by omega)) (by rw [q1]) ⟨e8 0 (by decide), e8 35 (by decide)⟩ (by rw [q1, e8 19 (by decide)]; exact a.2.1) (Nat.le_refl nf) (a.al (fun q hq => fo q (by omega)) (e8 12 (by decide)) e61) (a.ta (Nat.le_refl nf) (fun q hq => fo q (by omega)) (e8 27 (by decide))) (by rw [fo 6 (by decide), fo 92 (by decide)]; exact a.2.2.2.2.2.1) t4 (by rw [fo 7 (by decide), fo 82 (by decide)]; exact a.2.2.2.2.2.2.2.1) (fun d _ => by rw [fo 82 (by decide)]) (by rw [fo 2 (by decide), fo 93 (by decide)]; exact a.2.2.2.2.2.2.2.2.2.2.2.1) (by rw [fo 87 (by decide), fo 86 (by decide), fo 102 (by decide)]; exact a.2.2.2.2.2.2.2.2.2.2.2.2.1) (Or.inl rfl)
  refine h.t hI' (TT.g (fun q hq => fo q (by omega)) (fun z => fo 92 (by decide)) (fun d _ => by rw [fo 82 (by decide)]) (fun f d w hf hw hd => t5 f d w hf hw (by omega))) (fun q hq => fo q (by omega)) (fun j _ => by rw [q1]) (fun j hj => by
    rcases hj with z | z | z
    · rw [z]; exact e8 13 (by decide)
    · rw [z]; exact e8 20 (by decide)
    · rw [z]; exact e69) (by rw [fo 37 (by decide)]; exact h.2.1.2.2.2.2) ⟨by rw [e8 2 (by decide), q1]; exact g3, t3⟩ (by rw [fo 40 (by decide), fo 41 (by decide), fo 107 (by decide), fo 108 (by decide), fo 109 (by decide)]; exact g8)
theorem wkq_1 {F : Nat} (hF : 1100 < F) (n : Nat) (M : bz_Mm) (a1 : Int) (hn : n < 512) (hI : Iv n M) (h1 : r32 a1) : ∃ (x : Int × bz_Mm) (y : Int × bz_Mm), fU_fund F M a1 = some x ∧ fM_fund F x.2 a1 = some y ∧ w32 x.1 = w32 y.1 ∧ Iv (n + 1) y.2 := by
  have hI0 := hI
  obtain ⟨nn, nf, nt, nd, nl, now, nh, ns, na, h⟩ := hI
  obtain ⟨f1, f2, f3, f4, f5, f6⟩ := h.f
  have a := h.1.1
  have e14 := a.2.1.1
  have e19 := a.2.1.2.1
  have e13 := a.1.1
  have e0 := a.1.2.1
  have eu := uU_fund (F := F) (M := M) h1 f1 f2
  rw [e14, e13, Int.toNat_natCast] at eu
  by_cases c : 0 ≤ a1 ∧ a1 ≤ 100000000 ∧ (nf : Int) < 4 ∧ (now : Int) = 0
  · rw [if_pos c] at eu
    have em := uM_fund (F := F) (M := st_ (st_ (st_ M 2 nf a1) 1 14 ((nf : Int) + 1)) 1 17 (M 1 17 + 1)) h1 (by rw [st_ne (by decide), st_ne (by decide), st_ne (by decide)]; omega) (by rw [st_ne (by decide), st_ne (by decide), st_ne (by decide)]; omega)
    rw [st_ne (show (81 : Nat) ≠ 1 by decide), st_ne (show (81 : Nat) ≠ 1 by decide), st_ne (show (81 : Nat) ≠ 2 by decide), e19, e0, if_pos c, Int.toNat_natCast] at em
    refine ⟨_, _, eu, em, rfl, ?_⟩
    dsimp only
    generalize hy : st_ (st_ (st_ (st_ (st_ (st_ M 2 nf a1) 1 14 ((nf : Int) + 1)) 1 17 (M 1 17 + 1)) 93 nf a1) 96 nf (-1)) 81 19 ((nf : Int) + 1) = y
    have fe : ∀ q, q ≠ 1 → q ≠ 2 → q ≠ 93 → q ≠ 96 → q ≠ 81 → y q = M q := fun q u v w x z => by rw [← hy, st_ne z, st_ne x, st_ne w, st_ne u, st_ne u, st_ne v]
    have y1 : y 1 = ud (ud (M 1) 14 ((nf : Int) + 1)) 17 (M 1 17 + 1) := by rw [← hy, st_ne (by decide), st_ne (by decide), st_ne (by decide), st_eq, st_eq, st_ne (by decide)]
    have y2 : y 2 = ud (M 2) nf a1 := by rw [← hy, st_ne (by decide), st_ne (by decide), st_ne (by decide), st_ne (by decide), st_ne (by decide), st_eq]
    have y93 : y 93 = ud (M 93) nf a1 := by rw [← hy, st_ne (by decide), st_ne (by decide), st_eq, st_ne (by decide), st_ne (by decide), st_ne (by decide)]
    have y96 : y 96 = ud (M 96) nf (-1) := by rw [← hy, st_ne (by decide), st_eq, st_ne (by decide), st_ne (by decide), st_ne (by decide), st_ne (by decide)]
    have y81 : y 81 = ud (M 81) 19 ((nf : Int) + 1) := by rw [← hy, st_eq, st_ne (by decide), st_ne (by decide), st_ne (by decide), st_ne (by decide), st_ne (by decide)]
    have fo : ∀ q, ((2 < q ∧ q < 81) ∨ (81 < q ∧ q < 93) ∨ q = 94 ∨ q = 95 ∨ 96 < q) → y q = M q := fun q hq => fe q (by omega) (by omega) (by omega) (by omega) (by omega)
    have n0 : now = 0 := by omega
    have hI' : IT y nn (nf + 1) nt nd nl now := a.g (fun q hq => fo q (by omega)) (by rw [y1, ud_ne (by decide), ud_ne (by decide)]) (by rw [y81, ud_ne (by decide), ud_ne (by decide)]; exact ⟨rfl, rfl⟩) (by rw [y1, y81, ud_ne (by decide), ud_eq, ud_eq]; exact ⟨by omega, by omega, by omega⟩) (Nat.le_succ nf) (a.al (fun q hq => fo q (by omega)) (by rw [y81, ud_ne (by decide)]) (by rw [y81, ud_ne (by decide)])) (a.ta (Nat.le_succ nf) (fun q hq => fo q (by omega)) (by rw [y81, ud_ne (by decide)])) (by rw [fo 6 (by decide), fo 92 (by decide)]; exact a.2.2.2.2.2.1) (iv_la.c (fun q hq => fo q (by omega)) (by rw [y81, ud_ne (by decide)]) f6) (by rw [fo 7 (by decide), fo 82 (by decide)]; exact a.2.2.2.2.2.2.2.1) (fun d hd => by omega) (fun g hg => by
      rw [y2, y93]
      by_cases z : g = nf
      · rw [z, ud_eq, ud_eq, r32_w h1]
      · rw [ud_ne z, ud_ne z]; exact a.2.2.2.2.2.2.2.2.2.2.2.1 g (by omega)) (by rw [fo 87 (by decide), fo 86 (by decide), fo 102 (by decide)]; exact a.2.2.2.2.2.2.2.2.2.2.2.2.1) (Or.inr n0)
    obtain ⟨g1, ⟨m, g2⟩, g3, g4, g5, g6, g7, g8⟩ := h.2.2.2.2.2
    refine h.b hn hI' (Nat.le_succ nf) (fun q hq => fo q (by omega)) (fun j hj => by rw [y1, ud_ne (by omega), ud_ne (by omega)]) (by rw [y1, ud_eq]) (fun j hj => by rw [y81, ud_ne (by omega)]) (fun g hg => ?_) (fun g u v => by rw [fo 3 (by decide)]; exact g6 g (by omega) v) (fun g hg => ?_)
    · rw [fo 3 (by decide), y96]
      by_cases z : g = nf
      · rw [z, ud_eq, g6 nf (Nat.le_refl nf) (by omega)]; exact ⟨rfl, by decide, by decide⟩
      · rw [ud_ne z]; exact h.2.1.2.2.2.1 g (by omega)
    · rw [y96]
      by_cases z : g = nf
      · rw [z, ud_eq]; exact ⟨by decide, by decide⟩
      · rw [ud_ne z]; exact g7 g hg
  · rw [if_neg c] at eu
    have em := uM_fund (F := F) (M := M) h1 (by omega) (by omega)
    rw [e19, e0, if_neg c] at em
    exact ⟨_, _, eu, em, rfl, hI0.s⟩
