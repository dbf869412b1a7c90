/-! go -/
theorem go_loop {F : Nat} {a : Int} {n nf nt nd nl now0 til : Nat} (hF : 500 < F) (ha : 0 ≤ a ∧ a ≤ 40) (ht : til ≤ 260) (h1 : (til : Int) ≤ now0 + a) (h2 : til = 260 ∨ (til : Int) = now0 + a) : ∀ (m fu fm D : Nat) (M R : bz_Mm), D + m = til → m < fu → m < fm → now0 ≤ D → BX n nf nt nd nl D M R → ∃ Mu R', UC_bookUntil_L14 F fu (til : Int) (D : Int) M = some Mu ∧ M_go_L16 F fm a ((D : Int) - now0) R = some R' ∧ BX n nf nt nd nl til Mu R' ∧ (∀ q, (q < 40 ∨ q = 42 ∨ (44 < q ∧ q < 48) ∨ (49 < q ∧ q < 53) ∨ 64 < q) → Mu q = M q) ∧ (∀ j, (j < 11 ∨ 16 < j) → Mu 53 j = M 53 j) ∧ (∀ q, q ≠ 81 → q ≠ 107 → q ≠ 108 → q ≠ 109 → (q < 158 ∨ 222 < q) → R' q = R q) ∧ (∀ j, j ≠ 0 → j ≠ 61 → R' 81 j = R 81 j) ∧ ∀ i, nd ≤ i → (Mu 40 i = M 40 i ∧ Mu 41 i = M 41 i) ∧ R' 107 i = R 107 i ∧ R' 108 i = R 108 i ∧ R' 109 i = R 109 i := by
  intro m
  induction m with
  | zero =>
    intro fu fm D M R e1 e2 e3 e4 hB
    obtain ⟨fu, rfl⟩ : ∃ q, fu = q + 1 := ⟨fu - 1, by omega⟩
    obtain ⟨fm, rfl⟩ : ∃ q, fm = q + 1 := ⟨fm - 1, by omega⟩
    have e : D = til := by omega
    subst e
    refine ⟨M, R, ?_, ?_, hB, fun _ _ => rfl, fun _ _ => rfl, fun _ _ _ _ _ _ => rfl, fun _ _ _ => rfl, fun _ _ => ⟨⟨rfl, rfl⟩, rfl, rfl, rfl⟩⟩
    · rw [UC_bookUntil_L14, w32_n (by omega), if_neg (by omega)]
    · rw [M_go_L16, hB.1.1, w32_n (show D ≤ 2147483647 by omega), w32_id (x := (D : Int) - now0) (by omega) (by omega), w32_id (x := a) (by omega) (by omega)]
      by_cases c : (D : Int) - now0 < a
      · rw [if_pos c, if_neg (by omega)]
      · rw [if_neg c]
  | succ m ih =>
    intro fu fm D M R e1 e2 e3 e4 hB
    obtain ⟨fu, rfl⟩ : ∃ q, fu = q + 1 := ⟨fu - 1, by omega⟩
    obtain ⟨fm, rfl⟩ : ∃ q, fm = q + 1 := ⟨fm - 1, by omega⟩
    obtain ⟨M1, Mu, R2, b1, b2, b3, b4, b5, b6, b7, b8, b9⟩ := bx_step (l2 := (til : Int)) hF (show D < 260 by omega) hB
    have d1 : (D : Int) + 1 = ((D + 1 : Nat) : Int) := by omega
    have d2 : (D : Int) - now0 + 1 = ((D + 1 : Nat) : Int) - now0 := by omega
    obtain ⟨Mv, R', c1, c2, c3, c4, c5, c6, c7, c8⟩ := ih fu fm (D + 1) Mu _ (by omega) (by omega) (by omega) (by omega) b4
    refine ⟨Mv, R', ?_, ?_, c3, fun q hq => by rw [c4 q hq]; exact b5 q hq, fun j hj => by rw [c5 j hj]; exact b6 j hj, fun q w1 w2 w3 w4 w5 => by rw [c6 q w1 w2 w3 w4 w5, st_ne w1]; exact b7 q w1 w2 w3 w4 w5, fun j w1 w2 => by rw [c7 j w1 w2, st_eq, ud_ne w1]; exact b8 j w2, fun i hi => ?_⟩
    · rw [UC_bookUntil_L14, w32_n (show til ≤ 2147483647 by omega), w32_n (show D ≤ 2147483647 by omega), if_pos (by omega), b1, cl_s, b2, cl1_s, d1]; exact c1
    · rw [M_go_L16, hB.1.1, w32_n (show D ≤ 2147483647 by omega), w32_id (x := (D : Int) - now0) (by omega) (by omega), w32_id (x := a) (by omega) (by omega), if_pos (by omega), if_pos (by omega), b3, cl_s, wf_s, d2, b8 0 (by decide), hB.1.1]; exact c2
    · obtain ⟨⟨p1, p2⟩, p3, p4, p5⟩ := b9 i hi
      obtain ⟨⟨r1, r2⟩, r3, r4, r5⟩ := c8 i hi
      rw [st_ne (by decide)] at r3 r4 r5
      exact ⟨⟨r1.trans p1, r2.trans p2⟩, r3.trans p3, r4.trans p4, r5.trans p5⟩
theorem bx_it {F : Nat} {M y : bz_Mm} {n nf nt nd nl D : Nat} (hF : 500 < F) (hD : D ≤ 260) (hB : BX n nf nt nd nl D M y) (hq : ∀ q, q < 81 → q ≠ 1 → y q = M q) (h1 : y 1 13 = D ∧ y 1 14 = M 1 14) (h2 : ∀ g, g < nf → y 2 g = w32 (y 93 g)) : IT y n nf nt nd nl D := by
  obtain ⟨⟨h0, h19, hRT, hTE⟩, hm, hun, h108, hhw, h48, h39, hK⟩ := hB
  obtain ⟨K, _, hKW⟩ := KW.ex (F := F) (k := (D : Int)) hF ⟨by omega, by omega⟩ hTE
  obtain ⟨hS, hBD⟩ := hK K hKW
  obtain ⟨hA, hT, hDA, ⟨h14, hnf⟩, hC, hKN, ⟨hLa, hLq⟩, h43, h7, hz, hal, hfee⟩ := hS
  obtain ⟨d1, d2, d3, d4, d5, d6, d7, _⟩ := hBD
  have eK : ∀ q, (q = 82 ∨ 87 < q) → q < 158 → K q = y q := fun q a b => hKW.2.1 q (by omega)
  have ey : ∀ q, 1 < q → q < 81 → y q = M q := fun q a b => hq q b (by omega)
  have us : ∀ g D', usm y g D' nd = usm K g D' nd := fun g D' => usm_e nd (fun i hi => by rw [eK 104 (by decide) (by decide), eK 106 (by decide) (by decide), eK 107 (by decide) (by decide)]; exact ⟨rfl, rfl, fun _ _ => rfl⟩)
  have hs : ∀ w g D', hwm y w g D' nd = hwm K w g D' nd := fun w g D' => hwm_e nd (fun i hi => by rw [eK 103 (by decide) (by decide), eK 104 (by decide) (by decide), eK 106 (by decide) (by decide), eK 107 (by decide) (by decide)]; exact ⟨rfl, rfl, rfl, fun _ _ => rfl⟩)
  refine ⟨⟨h1.1, h0, hD⟩, ⟨by rw [h1.2]; exact h14, h19, hnf⟩, ⟨?_, hTE⟩, ⟨?_, hRT.2.1.1⟩, ⟨?_, hRT.2.2.1.1, ?_⟩, ?_, hRT.2.2.2.2.2.2.2.1, ?_, fun i hi => ?_, hhw, fun g d hg hd hop => ?_, h2, hm, ⟨fun w g hw hg => ?_, fun g hg => ?_⟩⟩
  · exact hA.p (fun q u v => ey q (by omega) (by omega)) (fun q t u v ht => (hKW.2.2.2 q t u v ht).symm)
  · unfold TA at hT ⊢
    rw [ey 25 (by decide) (by decide), ey 26 (by decide) (by decide), ey 27 (by decide) (by decide), ey 28 (by decide) (by decide), ey 29 (by decide) (by decide), ey 30 (by decide) (by decide), ey 31 (by decide) (by decide), ey 32 (by decide) (by decide), ← eK 97 (by decide) (by decide), ← eK 98 (by decide) (by decide), ← eK 99 (by decide) (by decide), ← eK 100 (by decide) (by decide), ← eK 101 (by decide) (by decide), ← eK 102 (by decide) (by decide)]; exact hT
  · unfold DA at hDA ⊢
    rw [ey 34 (by decide) (by decide), ey 35 (by decide) (by decide), ey 36 (by decide) (by decide), ey 37 (by decide) (by decide), ey 38 (by decide) (by decide), ey 40 (by decide) (by decide), ey 41 (by decide) (by decide), ← eK 103 (by decide) (by decide), ← eK 104 (by decide) (by decide), ← eK 105 (by decide) (by decide), ← eK 106 (by decide) (by decide), ← eK 107 (by decide) (by decide), ← eK 109 (by decide) (by decide)]; exact hDA
  · rw [ey 39 (by decide) (by decide)]; exact h39
  · rw [ey 6 (by decide) (by decide), ← eK 92 (by decide) (by decide)]; exact hC
  · rw [ey 7 (by decide) (by decide), ← eK 82 (by decide) (by decide)]; exact h7
  · obtain ⟨z1, z2⟩ := hz i hi
    rw [eK 82 (by decide) (by decide), eK 106 (by decide) (by decide), eK 107 (by decide) (by decide)] at z1
    rw [eK 107 (by decide) (by decide), eK 109 (by decide) (by decide)] at z2
    have z3 := (d7 i hi).2
    rw [eK 109 (by decide) (by decide)] at z3
    exact ⟨z1, z2, z3, hun i hi, h108 i hi⟩
  · have hop' := hop
    rw [← eK 82 (by decide) (by decide)] at hop'
    rw [ey 48 (by decide) (by decide), ey 49 (by decide) (by decide)]
    obtain ⟨p1, p2, p3, p4⟩ := h48 g d hg hd hop
    exact ⟨⟨p1, p2, p3⟩, by rw [hfee g d hg hd hop', hKW.2.1 (217 + g) (by omega)], p4⟩
  · obtain ⟨z1, z2, z3⟩ := d5 w g hw hg
    rw [ey 43 (by decide) (by decide), z1, z3, hs]
  · obtain ⟨z1, z2, z3⟩ := d4 g hg
    rw [ey 44 (by decide) (by decide), z2, z3, us]
theorem eq_go {F : Nat} {M : bz_Mm} {a : Int} {n nf nt nd nl now : Nat} (hF : 500 < F) (ha : r32 a) (hI : IT M n nf nt nd nl now) (hC : CA M n nf nt nd now) (hch : 0 ≤ M 1 17 ∧ M 1 17 ≤ 10000) (hch2 : 0 ≤ M 53 18 ∧ M 53 18 ≤ 10000) (h17 : r32 (M 53 17)) : ∃ (x y : Int × bz_Mm) (now' : Nat), fU_go F M a = some x ∧ fM_go F x.2 a = some y ∧ x.1 = y.1 ∧ IT y.2 n nf nt nd nl now' ∧ now ≤ now' ∧ ((y.2 = M ∧ now' = now) ∨ ((∀ q, q ≠ 1 → (q < 40 ∨ (44 < q ∧ q < 48) ∨ (49 < q ∧ q < 53) ∨ (64 < q ∧ q < 81)) → y.2 q = M q) ∧ (∀ j, j ≠ 13 → j ≠ 17 → y.2 1 j = M 1 j) ∧ y.2 1 17 = M 1 17 + 1 ∧ (∀ j, (j < 11 ∨ 18 < j) → y.2 53 j = M 53 j) ∧ (y.2 53 17 = now ∧ y.2 53 18 = M 1 17) ∧ (∀ q, 81 < q → q ≠ 107 → q ≠ 108 → q ≠ 109 → (q < 158 ∨ 222 < q) → y.2 q = M q) ∧ (∀ j, j ≠ 0 → j ≠ 61 → y.2 81 j = M 81 j) ∧ (∀ i, (i < nd → ¬ (opn (M 82) (M 106 i).toNat = true ∧ M 106 i < (now : Int))) → y.2 42 i = M 42 i) ∧ ∀ i, nd ≤ i → (y.2 40 i = M 40 i ∧ y.2 41 i = M 41 i) ∧ y.2 107 i = M 107 i ∧ y.2 108 i = M 108 i ∧ y.2 109 i = M 109 i)) := by
  have e13 : M 1 13 = now := hI.1.1
  have e0 : M 81 0 = now := hI.1.2.1
  have n260 := hI.1.2.2
  by_cases c : 0 ≤ a ∧ a ≤ 40
  · have mn : fJM_min0 (M 1 13 + a) 260 = if 260 < (now : Int) + a then 260 else (now : Int) + a := by
      rw [e13, uJM_min0 ⟨by omega, by omega⟩ ⟨by decide, by decide⟩]
    have inn : ¬ (w32 (fM_in (w32 a) 0 40) = 0) := fun q => by
      rw [r32_w ha] at q
      have := (fM_in_0 (x := a) (l := 0) (h := 40) ha ⟨by decide, by decide⟩ ⟨by decide, by decide⟩).mp q
      omega
    by_cases d : (now : Int) < (if 260 < (now : Int) + a then 260 else (now : Int) + a)
    · obtain ⟨til, ht⟩ : ∃ t : Nat, (if 260 < (now : Int) + a then 260 else (now : Int) + a) = (t : Int) := by
        split
        · exact ⟨260, rfl⟩
        · exact ⟨((now : Int) + a).toNat, by omega⟩
      have hw : til ≤ 260 ∧ (til : Int) ≤ now + a ∧ (til = 260 ∨ (til : Int) = now + a) ∧ now < til := by
        rw [ht] at d
        split at ht <;> omega
      rw [ht] at mn
      obtain ⟨M', w1, w2, w3, ⟨w4, w5⟩, w6, w42⟩ := walk_any (F := F) (k := (now : Int)) hF hI hC (by omega) hch hch2 h17
      have ln : lastN (now : Int) (now : Int) = now := by unfold lastN; rw [if_neg (by omega)]; omega
      rw [ln] at w6
      have fr : ∀ q, (q < 42 ∨ (42 < q ∧ q < 53) ∨ 64 < q) → M' q = M q := fun q hq => w2 q (by omega) (by omega)
      have hI' : IT M' n nf nt nd nl now := by
        have fe : ∀ q, (q < 42 ∨ (42 < q ∧ q < 53) ∨ 64 < q) → M' q = M q := fr
        have us : ∀ g D', usm M' g D' nd = usm M g D' nd := fun g D' => usm_e nd (fun i hi => by rw [fe 104 (by decide), fe 106 (by decide), fe 107 (by decide)]; exact ⟨rfl, rfl, fun _ _ => rfl⟩)
        have hs : ∀ w g D', hwm M' w g D' nd = hwm M w g D' nd := fun w g D' => hwm_e nd (fun i hi => by rw [fe 103 (by decide), fe 104 (by decide), fe 106 (by decide), fe 107 (by decide)]; exact ⟨rfl, rfl, rfl, fun _ _ => rfl⟩)
        obtain ⟨i1, i2, ⟨i3, i3b⟩, ⟨i4, i4b⟩, ⟨i5, i5b, i5c⟩, i6, i7, i8, i9, i10, i11, i12, i13, i14⟩ := hI
        refine ⟨by rw [fe 1 (by decide), fe 81 (by decide)]; exact i1, by rw [fe 1 (by decide), fe 81 (by decide)]; exact i2, ⟨?_, i3b.cc (fun q hq => fe q (by omega))⟩, ⟨?_, by rw [fe 81 (by decide)]; exact i4b⟩, ⟨?_, by rw [fe 81 (by decide)]; exact i5b, by rw [fe 39 (by decide), fe 105 (by decide)]; exact i5c⟩, by rw [fe 6 (by decide), fe 92 (by decide)]; exact i6, iv_la.c (fun q hq => fe q (by omega)) (by rw [fe 81 (by decide)]) i7, by rw [fe 7 (by decide), fe 82 (by decide)]; exact i8, by rw [fe 82 (by decide), fe 106 (by decide), fe 107 (by decide), fe 108 (by decide), fe 109 (by decide)]; exact i9, ⟨fun w g D' hw hg => by rw [hs]; exact i10.1 w g D' hw hg, fun i hi => by
          have : hbi M' nd i = hbi M nd i := by
            unfold hbi
            have e : ∀ (g D : Nat) (t : Nat → Int), sdl M' g D t i = sdl M g D t i := fun g D t => sdl_c i (fun j _ => ⟨⟨by rw [fe 104 (by decide)], by rw [fe 106 (by decide)]⟩, fun _ _ => rfl⟩)
            rw [hs, e, fe 103 (by decide), fe 104 (by decide), fe 106 (by decide), fe 107 (by decide)]
          rw [this, fe 107 (by decide)]; exact i10.2 i hi⟩, fun g dd hg hd hop => ?_, by rw [fe 2 (by decide), fe 93 (by decide)]; exact i12, by rw [fe 87 (by decide), fe 86 (by decide), fe 102 (by decide)]; exact i13, ⟨fun w g hw hg => by rw [fe 43 (by decide), hs]; exact i14.1 w g hw hg, fun g hg => by rw [fe 44 (by decide), us]; exact i14.2 g hg⟩⟩
        · unfold AL at i3 ⊢
          rw [fe 9 (by decide), fe 10 (by decide), fe 11 (by decide), fe 12 (by decide), fe 13 (by decide), fe 14 (by decide), fe 15 (by decide), fe 83 (by decide), fe 84 (by decide), fe 85 (by decide), fe 86 (by decide), fe 87 (by decide)]; exact i3
        · unfold TA at i4 ⊢
          rw [fe 25 (by decide), fe 26 (by decide), fe 27 (by decide), fe 28 (by decide), fe 29 (by decide), fe 30 (by decide), fe 31 (by decide), fe 32 (by decide), fe 97 (by decide), fe 98 (by decide), fe 99 (by decide), fe 100 (by decide), fe 101 (by decide), fe 102 (by decide)]; exact i4
        · unfold DA at i5 ⊢
          rw [fe 34 (by decide), fe 35 (by decide), fe 36 (by decide), fe 37 (by decide), fe 38 (by decide), fe 40 (by decide), fe 41 (by decide), fe 103 (by decide), fe 104 (by decide), fe 105 (by decide), fe 106 (by decide), fe 107 (by decide), fe 109 (by decide)]; exact i5
        · rw [fe 82 (by decide)] at hop
          rw [fe 48 (by decide), fe 49 (by decide), fe (212 + g) (by omega), fe (217 + g) (by omega)]; exact i11 g dd hg hd hop
      have bx0 := it_bx (R := M') hI' w6 (by omega) (fun _ _ => rfl)
      obtain ⟨Mu, R1, u1, _, _, u4, u5, _, _, u9⟩ := go_loop (a := a) (now0 := now) hF c hw.1 hw.2.1 hw.2.2.1 (til - now) F F now M' M' (by omega) (by omega) (by omega) (Nat.le_refl now) bx0
      have hx : ∀ q, (44 < q ∧ q < 48) ∨ 80 < q → st_ (st_ Mu 1 13 (til : Int)) 1 17 (Mu 1 17 + 1) q = M' q := fun q hq => by rw [st_ne (by omega), st_ne (by omega)]; exact u4 q (by omega)
      have bx1 := it_bx (R := st_ (st_ Mu 1 13 (til : Int)) 1 17 (Mu 1 17 + 1)) hI' w6 (by omega) hx
      obtain ⟨Mv, y, v1, v2, v3, _, _, v6, v7, v8⟩ := go_loop (a := a) (now0 := now) hF c hw.1 hw.2.1 hw.2.2.1 (til - now) F F now M' _ (by omega) (by omega) (by omega) (Nat.le_refl now) bx1
      have ev : Mv = Mu := by rw [u1] at v1; exact (Option.some.inj v1).symm
      rw [ev] at v3
      have yc : ∀ q, q < 81 → q ≠ 1 → y q = Mu q := fun q h1 h2 => by rw [v6 q (by omega) (by omega) (by omega) (by omega) (by omega), st_ne h2, st_ne h2]
      have y1 : y 1 = ud (ud (Mu 1) 13 (til : Int)) 17 (Mu 1 17 + 1) := by rw [v6 1 (by decide) (by decide) (by decide) (by decide) (by decide), st_eq, st_eq]
      have m1 : Mu 1 = M 1 := by rw [u4 1 (by decide)]; exact fr 1 (by decide)
      have y0 : y 81 0 = til := v3.1.1
      refine ⟨((til : Int), st_ (st_ Mu 1 13 (til : Int)) 1 17 (Mu 1 17 + 1)), ((til : Int), y), til, ?_, ?_, rfl, ?_, by omega, Or.inr ⟨fun q h1 h2 => ?_, fun j h1 h2 => ?_, ?_, fun j hj => ?_, ⟨?_, ?_⟩, fun q h1 h2 h3 h4 h5 => ?_, fun j h1 h2 => ?_, fun i hz => ?_, fun i hi => ?_⟩⟩
      all_goals try dsimp only
      · unfold fU_go
        rw [r32_w ha, if_neg (by omega), if_neg (by omega), lt_x, mn, e13, w32_n (by omega), w32_n (by omega), if_pos (by omega)]
        unfold fUC_bookUntil
        rw [e13, w1, cl_s, lt_x, fr 1 (by decide), e13, u1, cl1_s, wf_s, wf_s, cl_s, st_eq, ud_ne (by decide), st_eq, ud_eq, ud_ne (by decide)]
      · unfold fM_go
        rw [show ((now : Int) - now) = 0 by omega] at v2
        rw [if_neg inn, v2, cl1_s, y0]
      · refine bx_it hF hw.1 v3 yc ⟨by rw [y1, ud_ne (by decide), ud_eq], by rw [y1, ud_ne (by decide), ud_ne (by decide)]⟩ (fun g hg => ?_)
        rw [yc 2 (by decide) (by decide), u4 2 (by decide), fr 2 (by decide), v6 93 (by decide) (by decide) (by decide) (by decide) (by decide), st_ne (by decide), st_ne (by decide), u4 93 (by decide), fr 93 (by decide)]
        exact hI.2.2.2.2.2.2.2.2.2.2.2.1 g hg
      · rw [yc q (by omega) h1, u4 q (by omega)]; exact fr q (by omega)
      · rw [y1, ud_ne h2, ud_ne h1, m1]
      · rw [y1, ud_eq, m1]
      · rw [yc 53 (by decide) (by decide), u5 j (by omega)]; exact w3 j hj
      · rw [yc 53 (by decide) (by decide), u5 17 (by decide)]; exact w4
      · rw [yc 53 (by decide) (by decide), u5 18 (by decide)]; exact w5
      · rw [v6 q (by omega) h2 h3 h4 h5, st_ne (by omega), st_ne (by omega), u4 q (by omega)]; exact fr q (by omega)
      · rw [v7 j h1 h2, st_ne (by decide), st_ne (by decide), u4 81 (by decide), fr 81 (by decide)]
      · rw [yc 42 (by decide) (by decide), u4 42 (by decide)]; exact w42 i hz
      · obtain ⟨⟨p1, p2⟩, _⟩ := u9 i hi
        obtain ⟨_, r3, r4, r5⟩ := v8 i hi
        rw [st_ne (by decide), st_ne (by decide), u4 _ (by decide), fr _ (by decide)] at r3 r4 r5
        rw [yc 40 (by decide) (by decide), yc 41 (by decide) (by decide), p1, p2, fr 40 (by decide), fr 41 (by decide)]
        exact ⟨⟨rfl, rfl⟩, r3, r4, r5⟩
    · refine ⟨((now : Int), M), ((now : Int), M), now, ?_, ?_, rfl, hI, Nat.le_refl now, Or.inl ⟨rfl, rfl⟩⟩
      · unfold fU_go
        rw [r32_w ha, if_neg (by omega), if_neg (by omega), lt_x, mn, e13, w32_n (by omega)]
        rw [w32_id (x := if 260 < (now : Int) + a then 260 else (now : Int) + a) (by split <;> omega) (by split <;> omega), if_neg d]
      · obtain ⟨F', rfl⟩ : ∃ q, F = q + 1 := ⟨F - 1, by omega⟩
        unfold fM_go
        rw [if_neg inn]
        show cl1_ (M_go_L16 (F' + 1) (F' + 1) a 0 M) _ = _
        rw [M_go_L16, e0, w32_0, w32_n (show now ≤ 2147483647 by omega), r32_w ha]
        by_cases z : 0 < a
        · rw [if_pos z, if_neg (by split at d <;> omega), cl1_s, e0]
        · rw [if_neg z, cl1_s, e0]
  · refine ⟨(-1, M), (-1, M), now, ?_, ?_, rfl, hI, Nat.le_refl now, Or.inl ⟨rfl, rfl⟩⟩
    · unfold fU_go
      rw [r32_w ha]
      by_cases z : a < 0
      · rw [if_pos z]
      · rw [if_neg z, if_pos (by omega)]
    · have inn : w32 (fM_in (w32 a) 0 40) = 0 := by
        rw [r32_w ha]
        exact (fM_in_0 (x := a) (l := 0) (h := 40) ha ⟨by decide, by decide⟩ ⟨by decide, by decide⟩).mpr (by omega)
      unfold fM_go
      rw [if_pos inn]
