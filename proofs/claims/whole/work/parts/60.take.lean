/-! take -/
def TK (M Mm : bz_Mm) : Prop := (∀ q, (q < 45 ∨ (47 < q ∧ q < 50) ∨ q = 51 ∨ (52 < q ∧ q < 81) ∨ (81 < q ∧ q < 119) ∨ 154 < q) → Mm q = M q) ∧ (∀ j, j ≠ 37 → j ≠ 38 → j ≠ 39 → j ≠ 40 → j ≠ 43 → Mm 81 j = M 81 j) ∧ (∃ n, iv_tx Mm n) ∧ (∃ nl, iv_la Mm nl) ∧ ∀ (f : Nat) (day : Int) (w : Nat), f < 4 → w < 12 → day < M 81 0 → rv Mm f day w = rv M f day w
theorem lw_c {t t' : Nat → Int} {day : Int} : ∀ n : Nat, (∀ l, l < n → t' l = t l) → lw t' day n = lw t day n := by
  intro n
  induction n with
  | zero => intro _; rfl
  | succ n ih => intro h; rw [lw_S, lw_S, h n (by omega), ih (fun l hl => h l (by omega))]
theorem ru_c {M M' : bz_Mm} {l f w : Nat} (h1 : M' (119 + 5 * l + f) = M (119 + 5 * l + f)) (h2 : M' (119 + 5 * l + 4) = M (119 + 5 * l + 4)) : ru M' l f w = ru M l f w := by
  unfold ru; rw [h1, h2]
/-- reading alone changes no law -/
theorem TK.read {n nl : Nat} {M Mu Mm : bz_Mm} (hT : iv_tx M n) (hL : iv_la M nl) (h : LF (M 51) (M 110) n M Mu Mu Mm) : TK M Mm := by
  obtain ⟨⟨a1, a2, a3⟩, ⟨b1, b2, b3, b4, b5, b6⟩, hf, hk⟩ := h
  obtain ⟨t1, t2, t3, t4⟩ := hT
  obtain ⟨l1, l2, l3, l4, l5, l6, l7⟩ := hL
  have g : ∀ q, q ≠ 50 → q ≠ 52 → q ≠ 81 → (q < 149 ∨ 153 < q) → Mm q = M q := fun q x y z t => by rw [b4 q z t, a3 q x y]
  have g43 : Mm 81 43 = M 81 43 := by rw [b5 43 (by decide) (by decide) (by decide), a3 81 (by decide) (by decide)]
  have gru : ∀ l f w, l < 6 → f < 5 → ru Mm l f w = ru M l f w := fun l f w x y => ru_c (g _ (by omega) (by omega) (by omega) (by omega)) (g _ (by omega) (by omega) (by omega) (by omega))
  refine ⟨fun q hq => g q (by omega) (by omega) (by omega) (by omega), fun j x1 x2 x3 x4 x5 => by rw [b5 j x2 x3 x4, a3 81 (by decide) (by decide)], ⟨n, ?_, b2, t3, ?_⟩, ⟨nl, ?_, ?_, l3, ?_, ?_, ?_, ?_⟩, fun f day w x y z => ?_⟩
  · rw [b4 50 (by decide) (by decide)]; exact a2
  · intro j hj
    rw [b1, g 51 (by decide) (by decide) (by decide) (by decide)]
    exact t4 j hj
  · rw [g 45 (by decide) (by decide) (by decide) (by decide)]; exact l1
  · rw [g43]; exact l2
  · rw [g 46 (by decide) (by decide) (by decide) (by decide), g 154 (by decide) (by decide) (by decide) (by decide)]; exact l4
  · rw [g 155 (by decide) (by decide) (by decide) (by decide)]; exact l5
  · intro l f w x y z
    rw [g _ (by omega) (by omega) (by omega) (by omega)]; exact l6 l f w x y z
  · intro l f w x y z
    rw [g 47 (by decide) (by decide) (by decide) (by decide), gru l f w (by omega) (by omega)]; exact l7 l f w x y z
  · unfold rv
    rw [g43, g 154 (by decide) (by decide) (by decide) (by decide)]
    have := lw_r (M 154) day (M 81 43).toNat
    by_cases c : lw (M 154) day (M 81 43).toNat = -1
    · rw [if_pos c, if_pos c]
    · rw [if_neg c, if_neg c]
      exact gru _ f w (by rw [l2] at this ⊢; omega) (by omega)
theorem TK.rf {n nl : Nat} {M : bz_Mm} (hT : iv_tx M n) (hL : iv_la M nl) : TK M M := ⟨fun _ _ => rfl, fun _ _ _ _ _ _ => rfl, ⟨n, hT⟩, ⟨nl, hL⟩, fun _ _ _ _ _ _ => rfl⟩
theorem vok_r {w : Nat} {x : Int} (hw : w < 12) (h : vok w x) : r32 x := by
  rcases h with h | h
  · rw [h]; exact ⟨by decide, by decide⟩
  · have h1 := h.1
    have h2 := h.2
    have k : [5000, 1000, 10000, 24, 5000, 100000, 2, 100000, 300, 2, 90, 60].getD w 0 ≤ (100000 : Int) := by
      have : ∀ w, w < 12 → [5000, 1000, 10000, 24, 5000, 100000, 2, 100000, 300, 2, 90, 60].getD w 0 ≤ (100000 : Int) := by decide
      exact this w hw
    have k2 : -1 ≤ x := by revert h2; split <;> omega
    exact ⟨by omega, by omega⟩
theorem wo_ok : ∀ w, w < 12 → rl_ok w (bz_wo.getD w 0) := by unfold rl_ok; decide
theorem eq_take {F n nl : Nat} {M : bz_Mm} (hF : 700 < F) (hT : iv_tx M n) (hL : iv_la M nl) (hn : 0 ≤ M 1 13 ∧ M 1 13 ≤ 260) (en : M 81 0 = M 1 13) : ∃ (x : Int) (Mu Mm : bz_Mm), fU_take F M = some (x, Mu) ∧ fM_take F Mu = some (x, Mm) ∧ TK M Mm := by
  have hL0 := hL
  have hT0 := hT
  obtain ⟨l1, l2, l3, l4, l5, l6, l7⟩ := hL
  unfold fU_take
  rw [w32_id (x := M 1 13) (by omega) (by omega), l1, w32_id (x := (nl : Int)) (by omega) (by omega)]
  by_cases c1 : M 1 13 < 260
  · rw [if_pos c1]
    by_cases c2 : nl < 6
    · rw [if_pos (by omega)]
      obtain ⟨Mu, Mm, a1, a2, a3⟩ := read_two hF hT
      rw [a1, cl2_s]
      have f81 := a3.1.2.2 81 (by decide) (by decide)
      by_cases c3 : Mu 50 7 = -1
      · rw [c3, if_pos (by decide), wf_s]
        have hr52 : ∀ j, j < 60 → r32 (Mu 52 j) := by
          intro j hj
          have e := a3.2.2.2 c3 (j / 12) (j % 12) (by omega) (by omega)
          have e2 : j / 12 * 12 + j % 12 = j := by omega
          rw [e2] at e
          rw [e]
          exact vok_r (w := j % 12) (by omega) (a3.2.1.2.2.2.2.2 (j / 12) (j % 12) (by omega) (by omega))
        obtain ⟨M1, b1, b2, b3, b4⟩ := addU (F := F) (l := nl) (now := M 1 13) (by omega) c2 4 F 0 (st_ Mu 50 2 0) (by rw [st_ne (by decide)]; exact hr52) (by decide) (by omega)
        rw [show ((0 : Nat) : Int) = 0 from rfl] at b1
        have g1 : st_ Mu 50 2 0 1 = M 1 := by rw [st_ne (by decide)]; exact a3.1.2.2 1 (by decide) (by decide)
        have g45 : st_ Mu 50 2 0 45 2 = nl := by rw [st_ne (by decide), a3.1.2.2 45 (by decide) (by decide)]; exact l1
        have ua : fUL_add_52 F (st_ Mu 50 2 0) (st_ Mu 50 2 0 1 13) = some ((nl : Int), st_ (st_ M1 46 nl (M 1 13)) 45 2 ((nl : Int) + 1)) := by
          unfold fUL_add_52
          rw [g45, w32_id (x := (nl : Int)) (by omega) (by omega), if_pos (by omega), lt_x, g1, b1, cl1_s, wa_s c2 (by decide), wf_s]
        rw [ua, cl2_s]
        generalize hX : st_ (st_ M1 46 nl (M 1 13)) 45 2 ((nl : Int) + 1) = X
        have gx : ∀ q, q ≠ 45 → q ≠ 46 → q ≠ 47 → q ≠ 50 → q ≠ 52 → X q = M q := fun q x1 x2 x3 x4 x5 => by
          rw [← hX, st_ne x1, st_ne x2, b2 q x3, st_ne x4]; exact a3.1.2.2 q x4 x5
        have gx47 : ∀ j, X 47 j = M1 47 j := fun j => by rw [← hX, st_ne (by decide), st_ne (by decide)]
        have gx46 : X 46 = ud (M1 46) nl (M 1 13) := by rw [← hX, st_ne (by decide), st_eq]
        have gx45 : X 45 2 = (nl : Int) + 1 := by rw [← hX, st_eq, ud_eq]
        have gx50 : X 50 2 = 0 := by rw [← hX, st_ne (by decide), st_ne (by decide), b2 50 (by decide), st_eq, ud_eq]
        have gx81 : X 81 = M 81 := gx 81 (by decide) (by decide) (by decide) (by decide) (by decide)
        have gx110 : X 110 = M 110 := gx 110 (by decide) (by decide) (by decide) (by decide) (by decide)
        obtain ⟨Mu2, Mm2, d1, d2, d3⟩ := read_both (M := M) (Mm := X) hF (by rw [gx110]; exact hT.tx) hT.1 (by rw [gx81]; exact hT.2.1)
        rw [a1] at d1
        have e : Mu = Mu2 := (Prod.mk.inj (Option.some.inj d1)).2
        subst e
        obtain ⟨⟨p1, p2, p3⟩, ⟨q1, q2, q3, q4, q5, q6⟩, hf, hk⟩ := d3
        have hk := hk c3
        have f40 : Mm2 81 40 = -1 := by rw [← hf]; exact c3
        have f43 : Mm2 81 43 = nl := by rw [q5 43 (by decide) (by decide) (by decide), gx81]; exact l2
        obtain ⟨M3, t1, t2, t3⟩ := takeM (F := F) (l := nl) (by omega) c2 5 F 0 (st_ Mm2 81 37 0) (by rw [st_eq, ud_ne (by decide)]; exact f43) (by decide) (by omega)
        rw [show ((0 : Nat) : Int) = 0 from rfl] at t1
        have g81 : M3 81 = st_ Mm2 81 37 0 81 := t2 81 (by omega)
        have h43 : M3 81 43 = nl := by rw [g81, st_eq, ud_ne (by decide)]; exact f43
        have h0 : M3 81 0 = M 1 13 := by rw [g81, st_eq, ud_ne (by decide), q5 0 (by decide) (by decide) (by decide), gx81]; exact en
        refine ⟨nl, X, st_ (st_ M3 154 nl (M 1 13)) 81 43 ((nl : Int) + 1), rfl, ?_, ?_⟩
        · unfold fM_take
          rw [gx81, l2, en, w32_id (x := (nl : Int)) (by omega) (by omega), w32_id (x := M 1 13) (by omega) (by omega), if_neg (by omega), if_neg (by omega), d2, cl_s, f40, if_pos (by decide), wf_s, t1, cl1_s, h43, wa_s c2 (by decide), wf_s, h0, st_ne (show (81 : Nat) ≠ 154 by decide), h43, st_eq, ud_eq, Int.add_sub_cancel]
        · generalize hY : st_ (st_ M3 154 nl (M 1 13)) 81 43 ((nl : Int) + 1) = Y
          have gy : ∀ q, q ≠ 81 → q ≠ 154 → (q < 119 + 5 * nl ∨ (119 + 5 * nl + 4 < q ∧ q < 149) ∨ 153 < q) → Y q = X q := fun q x1 x2 x3 => by
            rw [← hY, st_ne x1, st_ne x2, t2 q (by omega), st_ne x1]; exact q4 q x1 (by omega)
          have gyl : ∀ g w, g < 5 → w < 12 → Y (119 + 5 * nl + g) w = Mm2 (149 + g) w := fun g w x1 x2 => by
            rw [← hY, st_ne (by omega), st_ne (by omega), t3 g w (by omega) x1 x2, st_ne (by omega)]
          have gy154 : Y 154 = ud (X 154) nl (M 1 13) := by
            rw [← hY, st_ne (by decide), st_eq, t2 154 (by omega), st_ne (by decide), q4 154 (by decide) (by omega)]
          have gyo : ∀ l f, l < nl → f < 5 → Y (119 + 5 * l + f) = M (119 + 5 * l + f) := fun l f x1 x2 => by
            rw [gy _ (by omega) (by omega) (by omega), gx _ (by omega) (by omega) (by omega) (by omega) (by omega)]
          have gy43 : Y 81 43 = ((nl + 1 : Nat) : Int) := by rw [← hY, st_eq, ud_eq]; omega
          have gx154 : X 154 = M 154 := gx 154 (by decide) (by decide) (by decide) (by decide) (by decide)
          have run : ∀ f w, f < 4 → w < 12 → ru Y nl f w = pk Mu f w := fun f w x1 x2 => by
            unfold ru pk
            rw [gyl f w (by omega) x2, gyl 4 w (by decide) x2, ← hk f w (by omega) x2, ← hk 4 w (by decide) x2]
          refine ⟨fun q hq => by rw [gy q (by omega) (by omega) (by omega), gx q (by omega) (by omega) (by omega) (by omega) (by omega)], fun j x1 x2 x3 x4 x5 => ?_, ⟨0, ?_, ?_, by omega, fun j hj => absurd hj (by omega)⟩, ⟨nl + 1, ?_, gy43, by omega, ?_, ?_, ?_, ?_⟩, fun f day w x y z => ?_⟩
          · rw [← hY, st_eq, ud_ne x5, st_ne (by decide), g81, st_eq, ud_ne x1, q5 j x2 x3 x4, gx81]
          · rw [gy 50 (by decide) (by decide) (by omega)]; exact gx50
          · rw [← hY, st_eq, ud_ne (by decide), st_ne (by decide), g81, st_eq, ud_eq]; rfl
          · rw [gy 45 (by decide) (by decide) (by omega), gx45]; omega
          · intro l hl
            rw [gy 46 (by decide) (by decide) (by omega), gx46, gy154, gx154]
            by_cases c : l = nl
            · subst c; rw [ud_eq, ud_eq]; exact ⟨rfl, ⟨by omega, by omega⟩⟩
            · rw [ud_ne c, ud_ne c, b2 46 (by decide), st_ne (by decide), a3.1.2.2 46 (by decide) (by decide)]
              exact l4 l (by omega)
          · intro w hw
            rw [gy 155 (by decide) (by decide) (by omega), gx 155 (by decide) (by decide) (by decide) (by decide) (by decide)]; exact l5 w hw
          · intro l f w x1 x2 x3
            by_cases c : l = nl
            · subst c; rw [gyl f w x2 x3]; exact vok_r x3 (q6 f w x2 x3)
            · rw [gyo l f (by omega) x2]; exact l6 l f w (by omega) x2 x3
          · intro l f w x1 x2 x3
            rw [gy 47 (by decide) (by decide) (by omega), gx47]
            by_cases c : l = nl
            · subst c
              rw [b3 f w (by omega) x2 x3, pk_c (st_ne (by decide)), run f w x2 x3]
              refine ⟨rfl, ?_⟩
              unfold pk
              have v1 := q6 f w (by omega) x3
              have v2 := q6 4 w (by decide) x3
              rw [← hk f w (by omega) x3] at v1
              rw [← hk 4 w (by decide) x3] at v2
              by_cases z1 : Mu 52 (f * 12 + w) = -2147483648
              · rw [if_pos z1]
                by_cases z2 : Mu 52 (48 + w) = -2147483648
                · rw [if_pos z2]; exact wo_ok w x3
                · rw [if_neg z2]; exact v2.resolve_left z2
              · rw [if_neg z1]; exact v1.resolve_left z1
            · rw [b4 _ (by omega), st_ne (by decide), a3.1.2.2 47 (by decide) (by decide), ru_c (gyo l f (by omega) (by omega)) (gyo l 4 (by omega) (by decide))]
              exact l7 l f w (by omega) x2 x3
          · unfold rv
            have e1 : (Y 81 43).toNat = nl + 1 := by rw [gy43]; omega
            have e2 : (M 81 43).toNat = nl := by rw [l2]; omega
            have e3 : lw (Y 154) day (nl + 1) = lw (M 154) day nl := by
              rw [lw_S, gy154, ud_eq, if_neg (by omega)]
              exact lw_c nl (fun l hl => by rw [ud_ne (by omega), gx154])
            rw [e1, e2, e3]
            have := lw_r (M 154) day nl
            by_cases c : lw (M 154) day nl = -1
            · rw [if_pos c, if_pos c]
            · rw [if_neg c, if_neg c]
              exact ru_c (gyo _ f (by omega) (by omega)) (gyo _ 4 (by omega) (by decide))
      · have c4 : ¬ w32 (Mu 50 7) = -1 := by
          rw [w32_f (by rw [a3.2.2.1]; exact a3.2.1.2.2.1)]; exact c3
        rw [if_neg c4]
        refine ⟨-1, Mu, Mm, rfl, ?_, TK.read hT0 hL0 a3⟩
        unfold fM_take
        rw [f81, l2, en, w32_id (x := (nl : Int)) (by omega) (by omega), w32_id (x := M 1 13) (by omega) (by omega), if_neg (by omega), if_neg (by omega), a2, cl_s, ← a3.2.2.1, if_neg c4]
    · rw [if_neg (by omega)]
      refine ⟨-1, M, M, rfl, ?_, TK.rf hT0 hL0⟩
      unfold fM_take
      rw [l2, w32_id (x := (nl : Int)) (by omega) (by omega), if_pos (by omega)]
  · rw [if_neg c1]
    refine ⟨-1, M, M, rfl, ?_, TK.rf hT0 hL0⟩
    unfold fM_take
    rw [en, w32_id (x := M 1 13) (by omega) (by omega), if_pos (c := M 1 13 = 260) (by omega)]
    split <;> rfl
