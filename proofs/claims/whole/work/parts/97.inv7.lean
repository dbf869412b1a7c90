/-! deal -/
theorem wkq_9 {F : Nat} (hF : 1100 < F) (n : Nat) (M : bz_Mm) (a1 a2 a3 a4 : Int) (hn : n < 512) (hI : Iv n M) (h1 : r32 a1) (h2 : r32 a2) (h3 : r32 a3) (h4 : r32 a4) : ∃ (x : Int × bz_Mm) (y : Int × bz_Mm), fU_deal F M a1 a2 a3 a4 = some x ∧ fM_deal F x.2 a1 a2 a3 a4 = some y ∧ w32 x.1 = w32 y.1 ∧ Iv (n + 1) y.2 := by
  have hI0 := hI
  obtain ⟨nn, nf, nt, nd, nl, now, nh, ns, na, h⟩ := hI
  obtain ⟨f1, f2, f3, f4, f5, f6⟩ := h.f
  have a := h.1.1
  have e13 := a.1.1
  have e0 := a.1.2.1
  have n260 := a.1.2.2
  obtain ⟨⟨b1, b2, b3⟩, hh, _, _, b37⟩ := h.2.1
  obtain ⟨⟨⟨l1, l2⟩, l3, l4⟩, l5, l6⟩ := a.2.2.2.2.1
  obtain ⟨g1, ⟨m, g2⟩, g3, g4, g5, g6, g7, g8⟩ := h.2.2.2.2.2
  obtain ⟨r, hr⟩ := nx_ex (H := M 82) (259 - (M 1 13).toNat) (M 1 13 + 1)
  obtain ⟨x, hx⟩ := dd_ex M a2.toNat (M 1 13) (zn (M 1 15) (M 4) a1) a4 r
  have xr : (now : Int) ≤ x := by
    have := nx_r _ _ _ hr
    rcases hx with q | q <;> omega
  have hz : ∀ j : Nat, (j : Int) < M 1 15 → -11 ≤ M 4 j ∧ M 4 j ≤ 12 := fun j hj => (hh j (by omega)).1.2
  have hz' : ∀ j : Nat, (j : Int) < M 81 20 → -11 ≤ M 94 j ∧ M 94 j ≤ 12 := fun j hj => by
    have := (hh j (by omega)).1
    rw [← this.1]; exact this.2
  have zz : zn (M 81 20) (M 94) a1 = zn (M 1 15) (M 4) a1 := by
    unfold zn
    rw [f4.2.2]
    by_cases c : 0 ≤ a1 ∧ a1 < M 1 15
    · rw [if_pos c, if_pos c]; exact (hh a1.toNat (by omega)).1.1.symm
    · rw [if_neg c, if_neg c]
  obtain ⟨u1, u2⟩ := uU_deal (F := F) (M := M) (by omega) h1 h2 h3 h4 f1 f2 f3 hz f5 f6 hr hx l1 l2 l3
  by_cases c : p_dl (M 1 15) (M 1 14) a1 a2 a3 a4 ∧ nd < 200 ∧ x < 260
  · obtain ⟨o, ⟨ob, oB⟩, eu⟩ := u1 c
    obtain ⟨⟨⟨pf, pw⟩, ph, pm, pm0⟩, pn, px⟩ := c
    have c0 : p_dl (M 1 15) (M 1 14) a1 a2 a3 a4 ∧ nd < 200 ∧ x < 260 := ⟨⟨⟨pf, pw⟩, ph, pm, pm0⟩, pn, px⟩
    have bx : ∀ q, q ≠ 34 → q ≠ 35 → q ≠ 36 → by_m_34 M o nd x q = M q := fun q v1 v2 v3 => by
      unfold by_m_34; rw [st_ne v1, st_ne v2]; exact if_neg v3
    have x0 : ∀ q, (q < 34 ∨ 39 < q) → dlU M o nd a1 a2 a3 x q = M q := fun q v => by
      unfold dlU; rw [st_ne (by omega), st_ne (by omega), st_ne (by omega)]; exact bx q (by omega) (by omega) (by omega)
    have x34 : dlU M o nd a1 a2 a3 x 34 2 = ((nd + 1 : Nat) : Int) := by
      unfold dlU by_m_34; rw [st_ne (by decide), st_ne (by decide), st_ne (by decide), st_eq, ud_eq]; omega
    have x35 : dlU M o nd a1 a2 a3 x 35 = ud (M 35) nd x := by
      unfold dlU by_m_34; rw [st_ne (by decide), st_ne (by decide), st_ne (by decide), st_ne (by decide), st_eq]; show ud (if (35 : Nat) = 36 then o else M 35) nd x = _; rw [if_neg (by decide)]
    have x36 : dlU M o nd a1 a2 a3 x 36 = o := by
      unfold dlU by_m_34; rw [st_ne (by decide), st_ne (by decide), st_ne (by decide), st_ne (by decide), st_ne (by decide)]; exact if_pos rfl
    have x37 : dlU M o nd a1 a2 a3 x 37 = ud (M 37) nd a1 := by
      unfold dlU; rw [st_ne (by decide), st_ne (by decide), st_eq, bx 37 (by decide) (by decide) (by decide)]
    have x38 : dlU M o nd a1 a2 a3 x 38 = ud (M 38) nd a2 := by
      unfold dlU; rw [st_ne (by decide), st_eq, st_ne (by decide), bx 38 (by decide) (by decide) (by decide)]
    have x39 : dlU M o nd a1 a2 a3 x 39 = ud (M 39) nd a3 := by
      unfold dlU; rw [st_eq, st_ne (by decide), st_ne (by decide), bx 39 (by decide) (by decide) (by decide)]
    generalize dlU M o nd a1 a2 a3 x = X at eu x0 x34 x35 x36 x37 x38 x39
    have q81 := x0 81 (by decide)
    have q82 := x0 82 (by decide)
    have rve : rv X a2.toNat (M 81 0) 3 = rv M a2.toNat (M 81 0) 3 := rv_c (fun q u v => x0 q (by omega)) (by rw [q81]) (by have := f6.2.1; have := f6.2.2.1; omega) a2.toNat (by omega) _ 3
    obtain ⟨v1, _⟩ := uM_deal (F := F) (M := X) (nl := nl) (n := nd) (r := r) (x := x) (by omega) h1 h2 h3 h4 (by rw [q81, f4.1]; exact f1) (by rw [q81, f4.2.1]; exact f2) (by rw [q81, f4.2.2]; exact f3) (by rw [q81, x0 94 (by decide)]; exact hz') (by unfold iv_ho; rw [x0 7 (by decide), q82]; exact f5) (iv_la.c (fun q hq => x0 q (by omega)) (by rw [q81]) f6) (by rw [q81, q82, f4.1]; exact hr) (by
      unfold dd at hx ⊢
      rw [q81, q82, x0 94 (by decide), zz, rve, f4.1]; exact hx) (by rw [q81]; exact l5) l2
    rw [q81, f4.2.1, f4.2.2] at v1
    refine ⟨_, _, eu, v1 c0, rfl, ?_⟩
    dsimp only
    have hP : (0 ≤ a1 ∧ a1 < 16 ∧ a1 < M 1 15 ∧ plc (M 1 15) (M 1 14) a1 = a1) ∨ (20 ≤ a1 ∧ a1 - 20 < M 1 14 ∧ a2 < a1 - 20 ∧ plc (M 1 15) (M 1 14) a1 = a1 - 4) := by
      unfold plc
      rcases pw with w | w
      · left; rw [if_pos w]; exact ⟨w.1, by omega, w.2, rfl⟩
      · right; rw [if_neg (by omega), if_pos ⟨w.1, w.2.1⟩]; exact ⟨w.1, w.2.1, w.2.2, by omega⟩
    generalize plc (M 1 15) (M 1 14) a1 = P at hP
    have z : ∀ b, b ≠ 81 → (b < 103 ∨ 106 < b) → dlM X nd P a2 a3 x b = X b := fun b w1 w2 => by unfold dlM; rw [st_ne w1, st_ne (by omega), st_ne (by omega), st_ne (by omega), st_ne (by omega)]
    have z81 : dlM X nd P a2 a3 x 81 = ud (M 81) 35 ((nd : Int) + 1) := by unfold dlM; rw [st_eq, st_ne (by decide), st_ne (by decide), st_ne (by decide), st_ne (by decide), q81]
    have z103 : dlM X nd P a2 a3 x 103 = ud (M 103) nd P := by unfold dlM; rw [st_ne (by decide), st_ne (by decide), st_ne (by decide), st_ne (by decide), st_eq, x0 103 (by decide)]
    have z104 : dlM X nd P a2 a3 x 104 = ud (M 104) nd a2 := by unfold dlM; rw [st_ne (by decide), st_ne (by decide), st_ne (by decide), st_eq, st_ne (by decide), x0 104 (by decide)]
    have z105 : dlM X nd P a2 a3 x 105 = ud (M 105) nd a3 := by unfold dlM; rw [st_ne (by decide), st_ne (by decide), st_eq, st_ne (by decide), st_ne (by decide), x0 105 (by decide)]
    have z106 : dlM X nd P a2 a3 x 106 = ud (M 106) nd x := by unfold dlM; rw [st_ne (by decide), st_eq, st_ne (by decide), st_ne (by decide), st_ne (by decide), x0 106 (by decide)]
    generalize dlM X nd P a2 a3 x = y at z z81 z103 z104 z105 z106 ⊢
    have zx : ∀ b, b < 80 → y b = X b := fun b hb => z b (by omega) (by omega)
    have fo : ∀ b, (b < 34 ∨ (39 < b ∧ b < 81) ∨ (81 < b ∧ b < 103) ∨ 106 < b) → y b = M b := fun b hb => by rw [z b (by omega) (by omega)]; exact x0 b (by omega)
    have y35 := (zx 35 (by decide)).trans x35
    have y36 := (zx 36 (by decide)).trans x36
    have y37 := (zx 37 (by decide)).trans x37
    have y38 := (zx 38 (by decide)).trans x38
    have y39 := (zx 39 (by decide)).trans x39
    have q1 := fo 1 (by decide)
    obtain ⟨⟨n40, n41⟩, n107, n108, n109⟩ := g8 nd (Nat.le_refl nd)
    have ne : ∀ i, i < nd → i ≠ nd := fun i hi => by omega
    have rows : ∀ i, i < nd → y 103 i = M 103 i ∧ y 104 i = M 104 i ∧ y 105 i = M 105 i ∧ y 106 i = M 106 i := fun i hi => by
      rw [z103, z104, z105, z106, ud_ne (ne i hi), ud_ne (ne i hi), ud_ne (ne i hi), ud_ne (ne i hi)]; exact ⟨rfl, rfl, rfl, rfl⟩
    have e107 := fo 107 (by decide)
    have hs : ∀ w g D', hwm y w g D' (nd + 1) = hwm M w g D' nd := fun w g D' => by
      rw [hwm_S, e107, n107]
      have e : hwm y w g D' nd = hwm M w g D' nd := hwm_e nd (fun i hi => by
        obtain ⟨w1, w2, w3, w4⟩ := rows i hi
        exact ⟨w1, w2, w4, fun _ _ => by rw [e107]⟩)
      rw [e]
      have : (if y 104 nd = (g : Int) ∧ y 106 nd < (D' : Int) then (if y 103 nd = (w : Int) then (0 : Int) else 0) else 0) = 0 := by
        split
        · split <;> rfl
        · rfl
      rw [this, Int.add_zero]
    have us : ∀ g D', usm y g D' (nd + 1) = usm M g D' nd := fun g D' => by
      rw [usm_S, e107, n107]
      have e : usm y g D' nd = usm M g D' nd := usm_e nd (fun i hi => by
        obtain ⟨w1, w2, w3, w4⟩ := rows i hi
        exact ⟨w2, w4, fun _ _ => by rw [e107]⟩)
      rw [e]
      have : (if y 104 nd = (g : Int) ∧ y 106 nd < (D' : Int) then (0 : Int) else 0) = 0 := by split <;> rfl
      rw [this, Int.add_zero]
    obtain ⟨i1, i2, _, _, _, i6, i7, i8, i9, i10, i11, i12, i13, i14⟩ := a
    have e14 := i2.1
    have P20 : 0 ≤ P ∧ P < 20 := by rcases hP with w | w <;> omega
    have hI' : IT y nn nf nt (nd + 1) nl now := by
      refine ⟨by rw [q1, z81, ud_ne (by decide)]; exact i1, by rw [q1, z81, ud_ne (by decide)]; exact i2, h.1.1.al (fun q hq => fo q (by omega)) (by rw [z81, ud_ne (by decide)]) (by rw [z81, ud_ne (by decide)]), h.1.1.ta (Nat.le_refl nf) (fun q hq => fo q (by omega)) (by rw [z81, ud_ne (by decide)]), ⟨⟨⟨by rw [zx 34 (by decide)]; exact x34, by omega⟩, by rw [y35, y36]; exact ob, fun i hi => ?_⟩, by rw [z81, ud_eq]; omega, fun i hi => ?_⟩, by rw [fo 6 (by decide), fo 92 (by decide)]; exact i6, iv_la.c (fun q hq => fo q (by omega)) (by rw [z81, ud_ne (by decide)]) i7, by rw [fo 7 (by decide), fo 82 (by decide)]; exact i8, fun i hi => ?_, ⟨fun w g D' hw hg => by rw [hs]; exact i10.1 w g D' hw hg, fun i hi => ?_⟩, fun g d hg hd hop => ?_, by rw [fo 2 (by decide), fo 93 (by decide)]; exact i12, by rw [fo 87 (by decide), fo 86 (by decide), fo 102 (by decide)]; exact i13, ⟨fun w g hw hg => by rw [fo 43 (by decide), hs]; exact i14.1 w g hw hg, fun g hg => by rw [fo 44 (by decide), us]; exact i14.2 g hg⟩⟩
      · rw [y35, y37, y38, fo 40 (by decide), fo 41 (by decide), z103, z104, z105, z106, e107, fo 109 (by decide)]
        by_cases w : i = nd
        · subst w
          rw [ud_eq, ud_eq, ud_eq, ud_eq, ud_eq, ud_eq, ud_eq, n40, n41, n107, n109]
          refine ⟨⟨rfl, rfl, rfl, rfl⟩, ?_, ⟨pf.1, by omega⟩, ⟨by decide, by decide⟩, fun _ => Int.le_refl 0, fun _ => Int.le_refl 0⟩
          rcases hP with v | v
          · exact Or.inl ⟨v.1, v.2.1, v.2.2.2⟩
          · exact Or.inr ⟨v.1, by omega, v.2.2.1, v.2.2.2⟩
        · rw [ud_ne w, ud_ne w, ud_ne w, ud_ne w, ud_ne w, ud_ne w, ud_ne w]; exact l4 i (by omega)
      · rw [y39, z105]
        by_cases w : i = nd
        · subst w; rw [ud_eq, ud_eq]; exact ⟨rfl, pm⟩
        · rw [ud_ne w, ud_ne w]; exact l6 i (by omega)
      · rw [fo 82 (by decide), z106, e107, fo 108 (by decide), fo 109 (by decide)]
        by_cases w : i = nd
        · subst w
          rw [ud_eq, n107, n108, n109, if_neg (fun q => by have := q.1; omega)]
          exact ⟨fun _ => rfl, fun _ => rfl, ⟨by decide, by decide⟩, fun _ => rfl, rfl⟩
        · rw [ud_ne w]; exact i9 i (by omega)
      · unfold hbi
        rw [hs, e107]
        by_cases w : i = nd
        · subst w
          rw [n107, z103, z104, z106, ud_eq, ud_eq, ud_eq]
          have s0 : sdl y a2.toNat x.toNat (fun j => if ud (M 103) i P j = P then M 107 j else 0) i = 0 := sdl_z i (fun j hj _ q => by
            have w := (rows j hj).2.2.2
            have : M 107 j = 0 := (i9 j hj).2.2.2.1 (by omega)
            rw [this]; split <;> rfl)
          have := i10.1 P.toNat a2.toNat x.toNat (by omega) (by omega)
          rw [s0]; omega
        · have hi' : i < nd := by omega
          obtain ⟨w1, w2, w3, w4⟩ := rows i hi'
          rw [w1, w2, w4]
          have e : sdl y (M 104 i).toNat (M 106 i).toNat (fun j => if y 103 j = M 103 i then M 107 j else 0) i = sdl M (M 104 i).toNat (M 106 i).toNat (fun j => if M 103 j = M 103 i then M 107 j else 0) i := sdl_c i (fun j hj => by
            obtain ⟨t1, t2, t3, t4⟩ := rows j (by omega)
            exact ⟨⟨t2, t4⟩, fun _ _ => by rw [t1]⟩)
          rw [e]
          exact i10.2 i hi'
      · have := i2.2.2
        rw [fo 82 (by decide)] at hop
        rw [fo 48 (by decide), fo 49 (by decide), fo (212 + g) (by omega), fo (217 + g) (by omega)]; exact i11 g d hg hd hop
    have hT : TT M y nn nd (nd + 1) now := by
      refine ⟨fun q hq => fo q (by omega), fun q t u v _ => by rw [fo q (by omega)], ⟨Nat.le_succ nd, fun i hi => ⟨rows i hi, by rw [e107], by rw [fo 109 (by decide)]⟩, fun i u v => ?_⟩, fun d _ => by rw [fo 82 (by decide)], fun f d w hf _ _ => rv_c (fun q u v => fo q (by omega)) (by rw [z81, ud_ne (by decide)]) (by have := f6.2.1; have := f6.2.2.1; omega) f hf d w, fun g d hg _ => by rw [fo (217 + g) (by omega)], fun q u v => fo q (by omega), ⟨fo 10 (by decide), fo 11 (by decide), fo 26 (by decide), fo 27 (by decide)⟩, fun p D hD hp => ?_, fun i _ => by rw [fo 42 (by decide)]⟩
      · have : i = nd := by omega
        rw [this, z106, ud_eq]; exact xr
      · rw [y35, y36]; exact ptr_bo l3.1 oB (by omega) hp
    refine h.t hI' hT (fun q hq => fo q (by omega)) (fun j _ => by rw [q1]) (fun j hj => by rw [z81, ud_ne (by omega)]) (fun i hi hz => ?_) ⟨by rw [z81, ud_ne (by decide), q1]; exact g3, m, g2.c (by rw [fo 50 (by decide)]) (fo 51 (by decide)) (fo 110 (by decide)) (by rw [z81, ud_ne (by decide)])⟩ (fun i hi => by rw [fo 40 (by decide), fo 41 (by decide), e107, fo 108 (by decide), fo 109 (by decide)]; exact g8 i (by omega))
    rw [y37] at hz ⊢
    by_cases w : i = nd
    · subst w
      rw [ud_eq] at hz ⊢
      rcases hP with v | v <;> omega
    · rw [ud_ne w] at hz ⊢; exact b37 i (by omega) hz
  · obtain ⟨_, v2⟩ := uM_deal (F := F) (M := M) (nl := nl) (n := nd) (r := r) (x := x) (by omega) h1 h2 h3 h4 (by rw [f4.1]; exact f1) (by rw [f4.2.1]; exact f2) (by rw [f4.2.2]; exact f3) hz' f5 f6 (by rw [f4.1]; exact hr) (by rw [f4.1, zz]; exact hx) l5 l2
    rw [f4.2.1, f4.2.2] at v2
    exact ⟨_, _, u2 c, v2 c, rfl, hI0.s⟩
