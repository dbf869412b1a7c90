/-! count, due, alarm -/
theorem eq_count {F n : Nat} {M : bz_Mm} {a : Int} (hF : 200 < F) (h1 : r32 a) (hf : 0 ≤ M 1 14 ∧ M 1 14 ≤ 4) (hh : M 81 20 ≤ 16) (ef : M 81 19 = M 1 14) (e0 : M 81 0 = M 1 13) (e2 : M 81 20 = M 1 15) (e3 : M 81 12 = M 9 2) (e4 : M 81 27 = M 25 2) (e6 : M 81 43 = M 45 2) (e7 : M 81 37 = M 50 2) (e8 : M 81 69 = M 77 3) (e9 : M 81 13 = M 17 2) (e10 : M 81 2 = M 1 16) (hD : iv_de M n) : ∃ x, fU_count F M a = some x ∧ fM_count F M a = some x := by
  have hr := hD.r (by omega) hh
  obtain ⟨d1, d2, d3, d4, d5, d6, d7, d8, d9, d10⟩ := hD
  have e5 : M 81 35 = M 34 2 := by omega
  have z : r32 (20 : Int) := ⟨by decide, by decide⟩
  unfold fU_count fM_count
  rw [ef, e0, e2, e3, e4, e5, e6, e7, e8, e9, e10]
  simp (maxSteps := 1000000) (disch := omega) only [r32_w h1, w32_id (x := 19 + M 1 14), fM_in_0 h1 z (⟨by omega, by omega⟩ : r32 (19 + M 1 14))]
  by_cases c : a < 20
  · rw [if_pos c, if_pos (c := ¬ (20 ≤ a ∧ a ≤ 19 + M 1 14)) (by omega)]
    have g : ∀ X : Option Int, (∃ x, X = some x) → ∃ x, X = some x ∧ X = some x := fun X ⟨x, hx⟩ => ⟨x, hx, hx⟩
    refine g _ ?_
    clear g hr d1 d2 d3 d4 d5 d6 d7 d8 d9 d10
    repeat' split
    all_goals exact ⟨_, rfl⟩
  · have r : r32 (a - 20) := by unfold r32 at h1 ⊢; omega
    rw [if_neg c]
    simp only [uUS_isFund r hf]
    by_cases c2 : a - 20 < M 1 14
    · rw [if_neg (by omega), if_neg (by omega), rd_i (by omega) (by omega) (by decide)]
      have q := d10 (a - 20).toNat (by omega)
      have e : (((a - 20).toNat : Nat) : Int) = a - 20 := by omega
      rw [e] at q
      have k : M_count_L23 F F M a 0 0 = _ := sqa_M (F := F) (M := M) (a := a) (f := a - 20) rfl r d2 d3 hr n F 0 (by omega) (by omega)
      rw [q, k, cl1_s]
      exact ⟨_, rfl, rfl⟩
    · refine ⟨-1, ?_, ?_⟩ <;> rw [if_pos (by omega)] <;> simp (disch := omega) only [if_neg]
/-! k open days behind d: the class by steps of openBehind, the reference day by day -/
theorem due_run {F : Nat} {M : bz_Mm} {k : Nat} (hk : k < 1000) (hH : iv_ho M) : ∀ (n fm : Nat) (d r : Int), 0 ≤ d → d + 1 + n = 260 → nx (M 82) (d + 1) n r → n + 1 < fm → (r < 260 → ∃ fm' : Nat, 260 - r < fm' ∧ M_due_L41 F fm M d ((k + 1 : Nat) : Int) = M_due_L41 F fm' M r (k : Int)) ∧ (¬ r < 260 → M_due_L41 F fm M d ((k + 1 : Nat) : Int) = some 260) := by
  intro n
  induction n with
  | zero =>
    intro fm d r h0 h1 h2 h3
    obtain ⟨fm, rfl⟩ : ∃ j, fm = j + 2 := ⟨fm - 2, by omega⟩
    unfold nx at h2
    refine ⟨fun q => by omega, fun _ => ?_⟩
    obtain ⟨o, o1, o2, o3, o4⟩ := open_both (F := F) (d := d + 1) hH ⟨by omega, by omega⟩
    have no : ¬ p_open (M 82) (d + 1) := fun q => by have := q.2.1; omega
    unfold M_due_L41
    simp (disch := omega) only [w32_id (x := ((k + 1 : Nat) : Int)), w32_id (x := d), o2, cl_s]
    rw [if_pos (by omega), if_pos (by omega), if_pos (o3.mpr no)]
    unfold M_due_L41
    simp (disch := omega) only [w32_id (x := ((k + 1 : Nat) : Int)), w32_id (x := d + 1)]
    rw [if_pos (by omega), if_neg (by omega)]
    congr 1; omega
  | succ n ih =>
    intro fm d r h0 h1 h2 h3
    obtain ⟨fm, rfl⟩ : ∃ j, fm = j + 1 := ⟨fm - 1, by omega⟩
    obtain ⟨o, o1, o2, o3, o4⟩ := open_both (F := F) (d := d + 1) hH ⟨by omega, by omega⟩
    have step : M_due_L41 F (fm + 1) M d ((k + 1 : Nat) : Int) = if w32 o = 0 then M_due_L41 F fm M (d + 1) ((k + 1 : Nat) : Int) else M_due_L41 F fm M (d + 1) (((k + 1 : Nat) : Int) + -1) := by
      rw [M_due_L41]
      simp (disch := omega) only [w32_id (x := ((k + 1 : Nat) : Int)), w32_id (x := d), o2, cl_s]
      rw [if_pos (by omega), if_pos (by omega)]
    rw [step]
    rcases h2 with h2 | h2
    · rw [if_neg (fun q => o3.mp q h2.1), h2.2]
      have e : ((k + 1 : Nat) : Int) + -1 = (k : Int) := by omega
      rw [e]
      exact ⟨fun _ => ⟨fm, by omega, rfl⟩, fun q => by omega⟩
    · rw [if_pos (o3.mpr h2.1)]
      have := ih fm (d + 1) r (by omega) (by omega) h2.2 (by omega)
      exact this
theorem uUS_openBehind {F : Nat} {M : bz_Mm} {d r : Int} (hF : 261 < F) (hH : iv_ho M) (h0 : 0 ≤ d ∧ d ≤ 260) (hr : nx (M 82) (d + 1) (259 - d.toNat) r) : fUS_openBehind F M d = some (if r < 260 then r else -1) := by
  obtain ⟨a1, a2, a3⟩ := nx_loop (F := F) (q1 := 0) (q2 := 0) (q3 := 0) hH _ F _ r (by omega) (by omega) (by omega) (by omega) hr
  unfold fUS_openBehind
  rw [lt_x, a1]
  by_cases c : r < 260
  · rw [if_pos c, if_pos c, cs1_l]
  · rw [if_neg c, if_neg c, cs1_r]
theorem due_loop {F : Nat} {M : bz_Mm} (hF : 261 < F) (hH : iv_ho M) : ∀ (k fu fm : Nat) (d : Int), 0 ≤ d → d < 260 → k < 1000 → k + 1 < fu → 260 - d < fm → ∃ x y : Int, U_due_L54 F fu M (k : Int) d = some x ∧ M_due_L41 F fm M d (k : Int) = some y ∧ ((y < 260 ∧ x = y ∧ 0 ≤ y) ∨ (y = 260 ∧ x = -1)) := by
  intro k
  induction k with
  | zero =>
    intro fu fm d h0 h1 hk h2 h3
    obtain ⟨fu, rfl⟩ : ∃ j, fu = j + 1 := ⟨fu - 1, by omega⟩
    obtain ⟨fm, rfl⟩ : ∃ j, fm = j + 1 := ⟨fm - 1, by omega⟩
    unfold U_due_L54 M_due_L41
    refine ⟨d, d, ?_, ?_, Or.inl ⟨h1, rfl, h0⟩⟩
    · rw [if_neg (by decide)]
    · rw [if_neg (by decide)]
  | succ k ih =>
    intro fu fm d h0 h1 hk h2 h3
    obtain ⟨fu, rfl⟩ : ∃ j, fu = j + 1 := ⟨fu - 1, by omega⟩
    obtain ⟨r, hr⟩ := nx_ex (H := M 82) (259 - d.toNat) (d + 1)
    have rr := nx_r _ _ _ hr
    have ob := uUS_openBehind hF hH (by omega) hr
    obtain ⟨g1, g2⟩ := due_run (F := F) (k := k) (by omega) hH (259 - d.toNat) fm d r h0 (by omega) hr (by omega)
    unfold U_due_L54
    simp (disch := omega) only [w32_id (x := ((k + 1 : Nat) : Int)), w32_id (x := d), ob, cl_s]
    have e : ((k + 1 : Nat) : Int) + -1 = (k : Int) := by omega
    rw [if_pos (by omega), if_neg (by omega), e]
    by_cases c : r < 260
    · obtain ⟨fm', f1, f2⟩ := g1 c
      rw [f2, if_pos c]
      exact ih fu fm' r (by omega) c (by omega) (by omega) f1
    · rw [g2 c, if_neg c]
      refine ⟨-1, 260, ?_, rfl, Or.inr ⟨rfl, rfl⟩⟩
      obtain ⟨fu, rfl⟩ : ∃ j, fu = j + 1 := ⟨fu - 1, by omega⟩
      unfold U_due_L54
      rw [if_pos (show w32 (-1) = -1 by decide)]
      split <;> rfl
theorem eq_due {F nl : Nat} {M : bz_Mm} {a : Int} (hF : 300 < F) (h1 : r32 a) (hf : 0 ≤ M 1 14 ∧ M 1 14 ≤ 4) (ef : M 81 19 = M 1 14) (hH : iv_ho M) (hL : iv_la M nl) (hd : ∀ j : Nat, (j : Int) < M 1 14 → M 3 j = M 96 j ∧ -1 ≤ M 96 j ∧ M 96 j < 260) : ∃ x, fU_due F M a = some x ∧ fM_due F M a = some x := by
  unfold fU_due fM_due
  simp only [uUS_isFund h1 hf, uM_isFund h1 (by omega : 0 ≤ M 81 19 ∧ M 81 19 ≤ 4), ef]
  by_cases c : 0 ≤ a ∧ a < M 1 14
  · obtain ⟨d1, d2, d3⟩ := hd a.toNat (by omega)
    simp (disch := omega) only [rd_i, d1, w32_id (x := M 96 a.toNat)]
    by_cases c2 : M 96 a.toNat = -1
    · refine ⟨-1, ?_, ?_⟩ <;> rw [if_neg (by omega), if_pos c2]
    · obtain ⟨l1, l2, l3⟩ := rule_both (F := F) (f := a) (day := M 96 a.toNat) (w := 11) (by omega) hL (by omega) ⟨by omega, by omega⟩ ⟨by decide, by decide⟩
      have l4 : rl_ok 11 (rv M a.toNat (M 96 a.toNat) 11) := l3
      have l5 : 0 ≤ rv M a.toNat (M 96 a.toNat) 11 ∧ rv M a.toNat (M 96 a.toNat) 11 ≤ 60 := ⟨l4.2, l4.1⟩
      have e11 : (11 : Int).toNat = 11 := rfl
      rw [e11] at l1 l2
      rw [l1, l2, cl_s, cl_s]
      generalize rv M a.toNat (M 96 a.toNat) 11 = q at l5 ⊢
      obtain ⟨q, rfl⟩ : ∃ j : Nat, q = j := ⟨q.toNat, by omega⟩
      obtain ⟨x, y, x1, y1, k⟩ := due_loop (F := F) (M := M) (by omega) hH q F F (M 96 a.toNat) (by omega) d3 (by omega) (by omega) (by omega)
      rw [x1, y1, cl1_s, cl1_s]
      refine ⟨x, ?_, ?_⟩
      · rw [if_neg (by omega), if_neg c2]
      · rw [if_neg (by omega), if_neg c2, w32_id (by omega) (by omega)]
        rcases k with k | k
        · rw [if_pos k.1, k.2.1]
        · rw [if_neg (by omega), k.2]
  · refine ⟨-1, ?_, ?_⟩ <;> rw [if_pos c]
