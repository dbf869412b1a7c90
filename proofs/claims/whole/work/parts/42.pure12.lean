/-! deal in the reference -/
def dlM (M : bz_Mm) (n : Nat) (p f m d : Int) : bz_Mm := st_ (st_ (st_ (st_ (st_ M 103 n p) 104 n f) 105 n m) 106 n d) 81 35 ((n : Int) + 1)
theorem dlM_w {M : bz_Mm} {n : Nat} {p f m d : Int} (hs : M 81 35 = n) (hc : n < 200) : (wa_ M 103 (M 81 35) 200 p fun m11 =>
  wa_ m11 104 (m11 81 35) 200 f fun m12 =>
  wa_ m12 105 (m12 81 35) 200 m fun m13 =>
  wa_ m13 106 (m13 81 35) 200 d fun m14 =>
  wf_ m14 81 35 ((m14 81 35) + 1) fun m15 =>
  some (((m15 81 35) - 1, m15))) = some ((n : Int), dlM M n p f m d) := by
  rw [hs, wa_s hc (by decide), st_ne (show (81 : Nat) ≠ 103 by decide), hs, wa_s hc (by decide), st_ne (show (81 : Nat) ≠ 104 by decide), st_ne (show (81 : Nat) ≠ 103 by decide), hs, wa_s hc (by decide), st_ne (show (81 : Nat) ≠ 105 by decide), st_ne (show (81 : Nat) ≠ 104 by decide), st_ne (show (81 : Nat) ≠ 103 by decide), hs, wa_s hc (by decide), st_ne (show (81 : Nat) ≠ 106 by decide), st_ne (show (81 : Nat) ≠ 105 by decide), st_ne (show (81 : Nat) ≠ 104 by decide), st_ne (show (81 : Nat) ≠ 103 by decide), hs, wf_s, st_eq, ud_eq, Int.add_sub_cancel]
  unfold dlM
  exact Eq.refl _
theorem uM_deal {F nl n : Nat} {M : bz_Mm} {w f m h r x : Int} (hF : 261 < F) (h1 : r32 w) (h2 : r32 f) (h3 : r32 m) (h4 : r32 h) (hn : 0 ≤ M 81 0 ∧ M 81 0 ≤ 260) (hf : 0 ≤ M 81 19 ∧ M 81 19 ≤ 4) (hh : 0 ≤ M 81 20 ∧ M 81 20 ≤ 16) (hz : ∀ j : Nat, (j : Int) < M 81 20 → -11 ≤ M 94 j ∧ M 94 j ≤ 12) (hH : iv_ho M) (hL : iv_la M nl) (hr : nx (M 82) (M 81 0 + 1) (259 - (M 81 0).toNat) r) (hx : dd M f.toNat (M 81 0) (zn (M 81 20) (M 94) w) h r x) (hs : M 81 35 = n) (hc : n ≤ 200) : (p_dl (M 81 20) (M 81 19) w f m h ∧ n < 200 ∧ x < 260 → fM_deal F M w f m h = some ((n : Int), dlM M n (plc (M 81 20) (M 81 19) w) f m x)) ∧ (¬ (p_dl (M 81 20) (M 81 19) w f m h ∧ n < 200 ∧ x < 260) → fM_deal F M w f m h = some (-1, M)) := by
  have xr := nx_r _ _ _ hr
  have x0 : 0 ≤ x ∧ x ≤ 261 := by
    rcases hx with q | q <;> omega
  have z0 : r32 0 := r32_of (by decide) (by decide)
  have hpl : -1 ≤ plc (M 81 20) (M 81 19) w ∧ plc (M 81 20) (M 81 19) w < 20 ∧ (plc (M 81 20) (M 81 19) w = -1 ↔ ¬ ((0 ≤ w ∧ w < M 81 20) ∨ (20 ≤ w ∧ w - 20 < M 81 19))) ∧ ((0 ≤ w ∧ w < M 81 20) → plc (M 81 20) (M 81 19) w = w) ∧ (¬ (0 ≤ w ∧ w < M 81 20) → (20 ≤ w ∧ w - 20 < M 81 19) → plc (M 81 20) (M 81 19) w = w - 4) := by
    unfold plc
    repeat' split
    all_goals omega
  have hzn : zn (M 81 20) (M 94) w = if 0 ≤ w ∧ w < M 81 20 then M 94 w.toNat else 0 := rfl
  have key : p_dl (M 81 20) (M 81 19) w f m h → (w32 (plc (M 81 20) (M 81 19) w) < 16 ↔ (0 ≤ w ∧ w < M 81 20)) := fun q => by
    rw [w32_id (by omega) (by omega)]
    have := q.1.2
    constructor
    · intro g; by_cases c : 0 ≤ w ∧ w < M 81 20
      · exact c
      · have := hpl.2.2.2.2 c (by omega); omega
    · intro g; have := hpl.2.2.2.1 g; omega
  unfold fM_deal
  rw [uM_placeOf h1 hf hh, lt_x]
  generalize plc (M 81 20) (M 81 19) w = p at hpl key ⊢
  obtain ⟨b1, b2, b3, b4, b5⟩ := hpl
  simp (maxSteps := 4000000) (disch := omega) only [w32_id (x := p), uM_isFund h2 hf, r32_w h4, r32_w h3, r32_w h2, fM_in_0 h4 z0 (r32_of (by decide) (by decide) : r32 23), fM_in_0 h3 (r32_of (by decide) (by decide) : r32 (-10000)) (r32_of (by decide) (by decide) : r32 10000), hs, w32_id (x := (n : Int)), w32_id (x := p - 16)]
  rw [w32_id (x := p) (by omega) (by omega)] at key
  by_cases c1 : p_dl (M 81 20) (M 81 19) w f m h ∧ n < 200
  · obtain ⟨c1, c4⟩ := c1
    obtain ⟨a1, a2, a3⟩ := nx_loop (F := F) (q1 := p) (q2 := f) (q3 := m) hH _ F _ r (by omega) (by omega) (by omega) (by omega) hr
    obtain ⟨o, o1, o2, o3, o4⟩ := open_both (F := F) (d := M 81 0) hH ⟨by omega, by omega⟩
    obtain ⟨l1, l2, l3⟩ := rule_both (F := F) (f := f) (day := M 81 0) (w := 3) (by omega) hL (by have := c1.1.1; omega) ⟨by omega, by omega⟩ ⟨by decide, by decide⟩
    have l4 : rl_ok 3 (rv M f.toNat (M 81 0) 3) := l3
    have l5 : 0 ≤ rv M f.toNat (M 81 0) 3 ∧ rv M f.toNat (M 81 0) 3 ≤ 24 := ⟨l4.2, l4.1⟩
    have l6 : fM_ruleOf F M f (M 81 0) 3 = some (rv M f.toNat (M 81 0) 3) := l2
    have zz : -11 ≤ zn (M 81 20) (M 94) w ∧ zn (M 81 20) (M 94) w ≤ 12 := by
      rw [hzn]
      by_cases c : 0 ≤ w ∧ w < M 81 20
      · rw [if_pos c]; exact hz _ (by omega)
      · rw [if_neg c]; omega
    have zv : (if p < 16 then rd_ M 94 p 16 fun x6 => some x6 else some 0) = some (zn (M 81 20) (M 94) w) := by
      rw [hzn]
      by_cases c : 0 ≤ w ∧ w < M 81 20
      · rw [if_pos ((key c1).mpr c), if_pos c, b4 c, rd_i (by omega) (by omega) (by decide)]
      · rw [if_neg (fun q => c ((key c1).mp q)), if_neg c]
    have iv : ∃ y, (if w32 o = 0 then some 0 else cl1_ (some (zn (M 81 20) (M 94) w)) fun v5 => cl_ (some (rv M f.toNat (M 81 0) 3)) fun x7 => if w32 (h - v5) < w32 x7 then some 1 else some 0) = some y ∧ ((w32 y = 0 ∧ x = r) ∨ (¬ w32 y = 0 ∧ x = M 81 0)) := by
      rw [cl1_s, cl_s, w32_id (x := h - zn (M 81 20) (M 94) w) (by have := c1.2.1; omega) (by have := c1.2.1; omega), w32_id (x := rv M f.toNat (M 81 0) 3) (by omega) (by omega)]
      rcases hx with hx | hx
      · rw [if_neg (fun q => o3.mp q hx.1), if_pos hx.2.1]
        exact ⟨1, rfl, Or.inr ⟨by decide, hx.2.2⟩⟩
      · by_cases c : p_open (M 82) (M 81 0)
        · rw [if_neg (fun q => o3.mp q c), if_neg (fun q => hx.1 ⟨c, q⟩)]
          exact ⟨0, rfl, Or.inl ⟨by decide, hx.2⟩⟩
        · rw [if_pos (o3.mpr c)]
          exact ⟨0, rfl, Or.inl ⟨by decide, hx.2⟩⟩
    obtain ⟨y, y1, y2⟩ := iv
    have lv : (if w32 y = 0 then cl1_ (some r) fun l6 => some l6 else some (M 81 0)) = some x := by
      rcases y2 with y2 | y2
      · rw [if_pos y2.1, cl1_s, y2.2]
      · rw [if_neg y2.1, y2.2]
    have fin : (if w32 x < 260 then (wa_ M 103 (n : Int) 200 p fun m11 =>
      wa_ m11 104 (m11 81 35) 200 f fun m12 =>
      wa_ m12 105 (m12 81 35) 200 m fun m13 =>
      wa_ m13 106 (m13 81 35) 200 x fun m14 =>
      wf_ m14 81 35 ((m14 81 35) + 1) fun m15 =>
      some (((m15 81 35) - 1, m15))) else some (-1, M)) = if x < 260 then some ((n : Int), dlM M n p f m x) else some (-1, M) := by
      have := dlM_w (M := M) (p := p) (f := f) (m := m) (d := x) hs c4
      rw [hs] at this
      rw [this, w32_id (x := x) (by omega) (by omega)]
    have d1 := c1.1; unfold p_who at d1
    have d2 := c1.2
    rw [if_neg (by omega), if_neg (by omega)]
    have res : (p_dl (M 81 20) (M 81 19) w f m h ∧ n < 200 ∧ x < 260 → (if x < 260 then some ((n : Int), dlM M n p f m x) else some (-1, M)) = some ((n : Int), dlM M n p f m x)) ∧ (¬ (p_dl (M 81 20) (M 81 19) w f m h ∧ n < 200 ∧ x < 260) → (if x < 260 then some ((n : Int), dlM M n p f m x) else some (-1, M)) = some (-1, M)) :=
      ⟨fun q => if_pos q.2.2, fun q => if_neg (fun t => q ⟨c1, c4, t⟩)⟩
    by_cases c : 0 ≤ w ∧ w < M 81 20
    · rw [if_pos ((key c1).mpr c), if_neg (by omega), if_neg (by omega), if_neg (by omega), if_neg (by omega), lt_x, o2, cl_s]
      rw [zv, l6, y1, cl1_s, a2, lv, cl1_s, fin]
      exact res
    · have := b5 c (by omega)
      rw [if_neg (fun q => c ((key c1).mp q)), if_pos (by omega), if_neg (by omega), if_neg (by omega), if_neg (by omega), if_neg (by omega), lt_x, o2, cl_s]
      rw [zv, l6, y1, cl1_s, a3, lv, cl1_s, fin]
      exact res
  · refine ⟨fun q => absurd ⟨q.1, q.2.1⟩ c1, fun _ => ?_⟩
    unfold p_dl p_who at c1
    by_cases e1 : p = -1
    · rw [if_pos e1]
    · rw [if_neg e1]
      by_cases e2 : 0 ≤ f ∧ f < M 81 19
      · rw [if_neg (by omega)]
        by_cases e3 : p < 16
        · rw [if_pos e3]
          by_cases e4 : (0 ≤ h ∧ h ≤ 23) ∧ (-10000 ≤ m ∧ m ≤ 10000) ∧ m ≠ 0
          · rw [if_neg (by omega), if_neg (by omega), if_neg (by omega), if_pos (by omega)]
          · repeat' split
            all_goals first | rfl | (exfalso; omega)
        · rw [if_neg e3]
          by_cases e5 : f < p - 16
          · rw [if_pos e5]
            by_cases e4 : (0 ≤ h ∧ h ≤ 23) ∧ (-10000 ≤ m ∧ m ≤ 10000) ∧ m ≠ 0
            · rw [if_neg (by omega), if_neg (by omega), if_neg (by omega), if_pos (by omega)]
            · repeat' split
              all_goals first | rfl | (exfalso; omega)
          · rw [if_neg e5]
      · rw [if_pos (by omega)]
