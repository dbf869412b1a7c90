/-! errors -/
theorem errs_loop {F g N : Nat} {M y : bz_Mm} {k be : Int} (hF : 300 < F) (hg : g < 4) (hN : N ≤ 260) (hk : r32 k) (lU : fUS_lastOver M k = (N : Int) - 1) (lM : fM_lastOver y (fM_known0 y) = (N : Int) - 1) (hbe : 0 ≤ be ∧ be ≤ 5000) (hr : fM_ruleOf F y (g : Int) (fM_known0 y) 4 = some be) (h7 : ∀ j, j < 260 → M 7 j = y 82 j ∧ r32 (y 82 j)) (hp : ∀ e, e < N → opn (y 82) e = true → (M 48 (g * 260 + e) = y (212 + g) e ∧ 0 ≤ M 48 (g * 260 + e) ∧ M 48 (g * 260 + e) ≤ 10000000) ∧ M 56 (g * 260 + e) = y (196 + g) e ∧ 0 ≤ M 56 (g * 260 + e) ∧ M 56 (g * 260 + e) ≤ 10000000) : ∀ (m fuel e : Nat) (acc : Int), e + m = N → m < fuel → ∃ r, U_errors_L53 F fuel M be k (g : Int) (e : Int) acc = some r ∧ M_errors_L31 F fuel y (g : Int) (e : Int) acc = some r := by
  intro m
  induction m with
  | zero =>
    intro fuel e acc h1 h2
    obtain ⟨fuel, rfl⟩ : ∃ q, fuel = q + 1 := ⟨fuel - 1, by omega⟩
    refine ⟨acc, ?_, ?_⟩
    · rw [U_errors_L53, lU, w32_id (x := (N : Int) - 1) (by omega) (by omega), w32_n (by omega), if_pos (by omega)]
    · rw [M_errors_L31, lM, w32_id (x := (N : Int) - 1) (by omega) (by omega), w32_n (by omega), if_pos (by omega)]
  | succ m ih =>
    intro fuel e acc h1 h2
    obtain ⟨fuel, rfl⟩ : ∃ q, fuel = q + 1 := ⟨fuel - 1, by omega⟩
    have e1 : (e : Int) + 1 = ((e + 1 : Nat) : Int) := by omega
    obtain ⟨x, o1, o2⟩ := c_open (F := F) (D := e) (M := M) (K := y) (by omega) h7
    obtain ⟨x', p1, p2⟩ := r_open (F := F) (d := e) (M := y) (by omega) (fun j hj => (h7 j hj).2)
    rw [U_errors_L53, M_errors_L31, lU, lM, w32_id (x := (N : Int) - 1) (by omega) (by omega), w32_n (by omega), if_neg (by omega), if_neg (by omega), o1, cl_s, p1, cl_s, e1]
    by_cases ho : opn (y 82) e = true
    · obtain ⟨⟨q1, q2⟩, q3, q4⟩ := hp e (by omega) ho
      obtain ⟨z, c1, c2⟩ := cn_U (F := F) (s := g * 260 + e) (M := M) (be := be) (by omega) q2 q4 hbe
      obtain ⟨z', d1, d2⟩ := cn_M (F := F) (f := g) (d := e) (M := y) (be := be) hg (by omega) (by rw [← q1]; exact q2) (by rw [← q3]; exact q4) hbe
      rw [← q1, ← q3] at d2
      rw [if_neg (fun q => o2.mp q ho), if_neg (fun q => p2.mp q ho), slot_n, c1, cl_s, hr, cl_s, d1, cl_s]
      by_cases cc : cnX (M 48 (g * 260 + e)) (M 56 (g * 260 + e)) be
      · rw [if_neg (fun q => c2.mp q cc), if_neg (fun q => d2.mp q cc), lt_x]
        exact ih fuel (e + 1) (acc + 1) (by omega) (by omega)
      · rw [if_pos (c2.mpr cc), if_pos (d2.mpr cc), lt_x, Int.add_zero]
        exact ih fuel (e + 1) acc (by omega) (by omega)
    · rw [if_pos (o2.mpr ho), if_pos (p2.mpr ho), lt_x, Int.add_zero]
      exact ih fuel (e + 1) acc (by omega) (by omega)
theorem fund_it {M : bz_Mm} {a1 : Int} {n nf nt nd nl now : Nat} (h1 : r32 a1) (hI : IT M n nf nt nd nl now) : ((w32 (fUS_isFund M a1) = 0) ↔ ¬ (0 ≤ a1 ∧ a1 < (nf : Int))) ∧ ((w32 (fM_isFund M a1) = 0) ↔ ¬ (0 ≤ a1 ∧ a1 < (nf : Int))) := by
  have nf4 := hI.2.1.2.2
  have a := uUS_isFund (M := M) h1 (by rw [hI.2.1.1]; omega)
  have b := uM_isFund (M := M) h1 (by rw [hI.2.1.2.1]; omega)
  rw [hI.2.1.1] at a
  rw [hI.2.1.2.1] at b
  exact ⟨a, b⟩
theorem rl4 {v : Int} (h : rl_ok 4 v) : 0 ≤ v ∧ v ≤ 5000 := by
  unfold rl_ok at h
  simp at h
  omega
theorem eq_errors {F : Nat} {M : bz_Mm} {a1 : Int} {n nf nt nd nl now : Nat} (hF : 500 < F) (h1 : r32 a1) (h : IQ M n nf nt nd nl now) : ∃ x y, fU_errors F M a1 = some x ∧ fM_errors F x.2 a1 = some y ∧ w32 x.1 = w32 y.1 ∧ QY M y.2 n nf nt nd nl now := by
  have hI := h.1
  have nf4 := hI.2.1.2.2
  have n260 := hI.1.2.2
  obtain ⟨k1, k2, k3, k4, k5⟩ := kn_U hI
  obtain ⟨fU, fM⟩ := fund_it h1 hI
  have nF : now < F := by omega
  have kr : r32 (knw now : Int) := ⟨by omega, by omega⟩
  have F3 : 300 < F := by omega
  unfold fU_errors fM_errors
  by_cases c : 0 ≤ a1 ∧ a1 < (nf : Int)
  · obtain ⟨g, rfl⟩ : ∃ g : Nat, a1 = g := ⟨a1.toNat, by omega⟩
    have g4 : g < 4 := by omega
    have gn : g < nf := by omega
    have kb : 0 ≤ (knw now : Int) ∧ (knw now : Int) ≤ 259 := by omega
    obtain ⟨M', X, q1, q2, q3, q4, q5, q6, _, _, q7, q8, q9, q10⟩ := q_all (k := (knw now : Int)) hF h (by omega)
    rw [k5] at q6
    obtain ⟨p1, p2, _, _, _⟩ := kn_U q2
    obtain ⟨lo, lo2⟩ := lo_M (k := (knw now : Int)) q2 (by omega)
    rw [k5] at lo lo2
    obtain ⟨⟨s1, s2, s3, s4, s5, s6, s7, s8, s9, s10, s11⟩, _⟩ := q6
    have yI := (q10 now 0).1.1
    have o := fun q hq => wlk_o (nf := nf) (nt := nt) (nd := nd) (bk := 0) (K := X) nf4 now q hq
    have y81 : ∀ j, j ≠ 61 → wlk nf nt nd 0 now X 81 j = M' 81 j := fun j hj => by rw [o 81 (by omega), q9, ud_ne hj]
    obtain ⟨ru1, ru2, ru3, -⟩ := rule_M (F := F) (M := M') (f := g) (d := knw now) (w := 4) (by omega) q2.2.2.2.2.2.2.1 (by omega) (by omega) (by decide)
    obtain ⟨rv1, -, -, -⟩ := rule_M (F := F) (M := wlk nf nt nd 0 now X) (f := g) (d := knw now) (w := 4) (by omega) yI.2.2.2.2.2.2.1 (by omega) (by omega) (by decide)
    have rve : rv (wlk nf nt nd 0 now X) g (knw now) 4 = rv M' g (knw now) 4 := rv_c (fun q a b => by rw [o q (by omega), q8 q (by omega) (by omega)]) (y81 43 (by decide)) (by have := q2.2.2.2.2.2.2.1.2.1; have := q2.2.2.2.2.2.2.1.2.2.1; omega) g (by omega) _ 4
    have ky := (kn_U yI).2.1
    have e82 : wlk nf nt nd 0 now X 82 = M' 82 := by rw [o 82 (by omega), q8 82 (by decide) (by decide)]
    obtain ⟨r, t1, t2⟩ := errs_loop (F := F) (g := g) (N := now) (M := M') (y := wlk nf nt nd 0 now X) (k := (knw now : Int)) (be := rv M' g (knw now) 4) F3 g4 n260 kr lo2 (by rw [ky, (lo_M (k := (knw now : Int)) yI kb).1, k5]) (rl4 ru3) (by rw [ky, ← rve]; exact rv1) (fun j hj => by rw [e82]; exact q2.2.2.2.2.2.2.2.1 j hj) (fun e he ho => by
      rw [e82] at ho
      have i11 := q2.2.2.2.2.2.2.2.2.2.2.1 g e gn he ho
      obtain ⟨z1, z2, z3, z4⟩ := s9 g e gn (Or.inl he) (by rw [q8 82 (by decide) (by decide)]; exact ho)
      refine ⟨⟨?_, i11.1.2⟩, z1, z3, z4⟩
      rw [o (212 + g) (by omega), q8 (212 + g) (by omega) (by omega)]; exact i11.1.1) now F 0 0 (Nat.zero_add now) nF
    rw [show ((0 : Nat) : Int) = 0 from rfl] at t1 t2
    rw [show ((4 : Nat) : Int) = 4 from rfl] at ru2
    refine ⟨(r, M'), (r, wlk nf nt nd 0 now X), ?_, ?_, rfl, q10 now 0⟩
    · rw [if_neg (fun q => fU.mp q c), lt_x, k1, q1, cl_s, ru2, cl_s, t1, cl1_s]
    · dsimp only
      rw [if_neg (fun q => (fund_it h1 q2).2.mp q c), p2, lo, (q7 now n260).1, cl_s]
      rw [t2, cl1_s]
  · refine ⟨(-1, M), (-1, M), by rw [if_pos (fU.mpr c)], ?_, rfl, QY.r h⟩
    dsimp only
    rw [if_pos (fM.mpr c)]
