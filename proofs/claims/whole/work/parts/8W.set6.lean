/-! payments, payment -/
theorem sB_full (b : Nat → Int) {s : Nat} : ∀ n : Nat, (∀ i, i < n → s.testBit i = true) → sB b n s = sumr b 0 n 0 := by
  intro n
  induction n with
  | zero => intro _; rfl
  | succ n ih =>
    intro h
    rw [sB_S, ih (fun i hi => h i (by omega)), if_pos (h n (by omega)), sumr_R, Nat.zero_add]
def stl (F : Nat) (y : bz_Mm) : Option (Int × bz_Mm) := wf_ y 81 74 0 fun m2 => cs1_ (M_settles_L22 F F 0 m2) (fun b => some b) fun m6 => cl1_ (M_settles_L81 F F 0 m6) fun m14 => cl1_ (M_settles_L151 F F 0 m14) fun m16 => cl_ (fM_picks F m16) fun m17 => some ((1, m17))
theorem set_tail {F : Nat} {m1 y : bz_Mm} (hF : 1100 < F) (hy : ∀ q, q < 22 → m1 68 (nmC q) = y 230 q ∧ -100000000000000000 ≤ y 230 q ∧ y 230 q ≤ 100000000000000000) (hz : ∀ j, j < 42 → (∀ q, q < 22 → j ≠ nmC q) → m1 68 j = 0) (h0 : sumr (y 230) 0 22 0 = 0) : (∃ A B : bz_Mm, fUG_arrange_68 F m1 = some (0, A) ∧ stl F y = some (0, B) ∧ (∀ q, (q < 69 ∨ 76 < q) → A q = m1 q) ∧ (∀ q, q ≠ 81 → (q < 231 ∨ 234 < q) → B q = y q) ∧ ∀ j, j ≠ 74 → j ≠ 78 → B 81 j = y 81 j) ∨ (∃ (n : Nat) (hs : List Nat) (b : Nat → Int) (A B : bz_Mm), fUG_arrange_68 F m1 = some (1, A) ∧ stl F y = some (1, B) ∧ (∀ q, (q < 69 ∨ 76 < q) → A q = m1 q) ∧ (∀ q, q ≠ 81 → (q < 231 ∨ 234 < q) → B q = y q) ∧ (∀ j, j ≠ 74 → j ≠ 78 → B 81 j = y 81 j) ∧ n ≤ 10 ∧ ENC A (PLs b n hs) ∧ (B 81 74 = n ∧ B 81 78 = hs.length) ∧ (∀ j h : Nat, hs[j]? = some h → B 234 j = (h : Int) ∧ h < 2 ^ n) ∧ (PLs b n hs).length + hs.length = n ∧ ∀ i, i < n → ∃ q : Nat, q < 22 ∧ B 231 i = q ∧ A 73 i = (nmC q : Int) ∧ B 230 q = b i ∧ -100000000000000000 ≤ b i ∧ b i ≤ 100000000000000000) := by
  have fb := find_both (F := F) (m1 := st_ m1 69 3 0) (y := y) hF (fun q hq => by rw [st_ne (by decide)]; exact (hy q hq).1) (fun j hj hn => by rw [st_ne (by decide)]; exact hz j hj hn)
  unfold fUG_arrange_68 stl
  rw [wf_s, wf_s]
  rcases fb with ⟨A, B, a1, a2, a3, a4, a5⟩ | ⟨n, A, B, a1, a2, a3⟩
  · left
    refine ⟨A, B, ?_, by rw [a2, cs1_l], fun q hq => ?_, fun q w1 w2 => a4 q w1 (by omega), fun j w1 _ => a5 j w1⟩
    · rw [a1, cl2_s, w32_0, if_pos rfl]
    · rw [a3 q (by omega) (by omega) (by omega), st_ne (by omega)]
  · right
    obtain ⟨⟨p1, p2, p3⟩, ⟨p4, p5⟩, ⟨p6, p7⟩, p8, p9⟩ := a3
    have pn := p10 p3
    have one : 1 ≤ 2 ^ n := Nat.one_le_two_pow
    have bb : ∀ i, i < n → -100000000000000000 ≤ A 74 i ∧ A 74 i ≤ 100000000000000000 := fun i hi => by
      obtain ⟨q, q1, _, _, q4⟩ := p8 i hi
      rw [q4]; exact (hy q q1).2
    obtain ⟨A2, c1, c2, c3, c4⟩ := u_count (F := F) (n := n) (X := A) (b := A 74) hF p3 p1 (fun _ _ => rfl)
    have sd : ∀ i, i < n → 0 ≤ B 231 i ∧ B 231 i < 22 ∧ B 230 (B 231 i).toNat = A 74 i := fun i hi => by
      obtain ⟨q, q1, q2, _, q4⟩ := p8 i hi
      rw [q2, q4, p6 230 (by decide) (by decide), Int.toNat_natCast]; omega
    obtain ⟨B2, d1, d2, d3⟩ := r_sumB (F := F) (n := n) (X := B) (b := A 74) hF p3 p2 sd
    obtain ⟨B3, e1, e2, e3⟩ := r_mostB (F := F) (n := n) (X := B2) (b := A 74) hF p3 (by rw [d2 81 (by decide)]; exact p2) d3
    have fl : ∀ i, i < n → (2 ^ n - 1).testBit i = true := fun i hi => by rw [Nat.testBit_two_pow_sub_one]; exact decide_eq_true hi
    have zf : zS (A 74) n (2 ^ n - 1) := by
      unfold zS
      rw [sB_full (A 74) n fl]
      rw [h0] at p9
      have := w64_sub w64_z p9
      rw [show 0 - (0 - sumr (A 74) 0 n 0) = sumr (A 74) 0 n 0 by omega] at this
      exact this
    have cf := cnB_full n 0 n (by omega)
    obtain ⟨hs, X', Y', f1, f2, f3, f4, f5, f6, f7, f8, f9⟩ := arr_both (F := F) (n := n) (b := A 74) (X0 := A2) (Y0 := st_ B3 81 78 0) hF p3 (by rw [c2 69 (by decide) (by decide)]; exact p1) (fun i hi => ⟨by rw [c2 74 (by decide) (by decide)], bb i hi⟩) c3 c4 (by rw [st_ne (by decide), e2 233 (by decide)]; exact d3) (by rw [st_ne (by decide)]; exact e3) (2 ^ n - 1) [] F F A2 (st_ B3 81 78 0) (by omega) zf (by omega) (by omega) (fun _ _ _ _ _ => rfl) (by rw [c2 69 (by decide) (by decide)]; exact p1) ⟨by rw [c2 69 (by decide) (by decide), p5 3 (by decide), st_eq, ud_eq]; rfl, fun k a i s hk => by simp [PLs] at hk⟩ (fun _ _ _ => rfl) (fun _ _ => rfl) (by rw [st_eq, ud_eq]; rfl) (fun j h hj => by simp at hj) (by rw [cf]; show 0 + 0 + n = n; omega)
    rw [show (([] : List Nat).length : Int) = 0 from rfl] at f1
    have s1 : sl_ 1 (n : Int) - 1 = ((2 ^ n - 1 : Nat) : Int) := by rw [sl_b p3]; omega
    refine ⟨n, hs, A 74, X', Y', ?_, ?_, fun q hq => ?_, fun q w1 w2 => ?_, fun j w1 w2 => ?_, p3, f4, ⟨?_, f7⟩, f8, f9, fun i hi => ?_⟩
    · rw [a1, cl2_s, w32_1p, if_neg (by decide), c1, cl_s, c2 69 (by decide) (by decide), p1, lt_x, s1, f1, cl1_s]
    · have e74 : B3 81 74 = n := by rw [e2 81 (by decide), d2 81 (by decide)]; exact p2
      unfold fM_picks
      rw [a2, cs1_r, d1, cl1_s, e1, cl1_s, wf_s, st_eq, ud_ne (show (74 : Nat) ≠ 78 by decide), e74, lt_x, s1, f2, cl1_s, cl_s]
    · rw [f3 q (by omega) (by omega) (by omega) (by omega), c2 q (by omega) (by omega), p4 q (by omega) (by omega) (by omega), st_ne (by omega)]
    · rw [f5 q w1 (by omega), st_ne w1, e2 q (by omega), d2 q (by omega), p6 q w1 (by omega)]
    · rw [f6 j w2, st_eq, ud_ne w2, e2 81 (by decide), d2 81 (by decide), p7 j w1]
    · rw [f6 74 (by decide), st_eq, ud_ne (by decide), e2 81 (by decide), d2 81 (by decide)]; exact p2
    · obtain ⟨q, q1, q2, q3, q4⟩ := p8 i hi
      refine ⟨q, q1, ?_, ?_, ?_, bb i hi⟩
      · rw [f5 231 (by decide) (by decide), st_ne (by decide), e2 231 (by decide), d2 231 (by decide)]; exact q2
      · rw [f3 73 (by decide) (by decide) (by decide) (by decide), c2 73 (by decide) (by decide)]; exact q3
      · rw [f5 230 (by decide) (by decide), st_ne (by decide), e2 230 (by decide), d2 230 (by decide), p6 230 (by decide) (by decide)]; exact q4.symm
theorem set_both {F : Nat} {M : bz_Mm} {g n nf nt nd nl nh now : Nat} (hF : 1100 < F) (h : IQ M n nf nt nd nl now) (hH : IH M nf nd nh) (hg : g < nf) : ∃ m1, fU_settle F M (g : Int) = some m1 ∧ ((∃ A B : bz_Mm, fUG_arrange_68 F m1 = some (0, A) ∧ fM_settles F A (g : Int) = some (0, B) ∧ QY M B n nf nt nd nl now ∧ QY M A n nf nt nd nl now) ∨ (∃ (c : Nat) (hs : List Nat) (b : Nat → Int) (A B : bz_Mm), fUG_arrange_68 F m1 = some (1, A) ∧ fM_settles F A (g : Int) = some (1, B) ∧ (QY M B n nf nt nd nl now ∧ QY M A n nf nt nd nl now) ∧ c ≤ 10 ∧ ENC A (PLs b c hs) ∧ (B 81 74 = c ∧ B 81 78 = hs.length) ∧ (∀ j h : Nat, hs[j]? = some h → B 234 j = (h : Int) ∧ h < 2 ^ c) ∧ (PLs b c hs).length + hs.length = c ∧ ∀ i, i < c → ∃ q : Nat, q < 22 ∧ B 231 i = q ∧ A 73 i = (nmC q : Int) ∧ B 230 q = b i ∧ -100000000000000000 ≤ b i ∧ b i ≤ 100000000000000000)) := by
  obtain ⟨m1, b1, b2, b3⟩ := bal_both (F := F) (g := g) (by omega) h hH hg
  obtain ⟨_, y0, c1, c2, c3, c4⟩ := b2 m1 (fun _ _ => rfl)
  refine ⟨m1, b1, ?_⟩
  have t0 := set_tail (F := F) (m1 := m1) (y := y0) hF c3 b3 c4
  -- the reference, from where the class ends
  have run : ∀ A : bz_Mm, (∀ q, (q < 69 ∨ 76 < q) → A q = m1 q) → ∃ y, QY M y n nf nt nd nl now ∧ fM_settles F A (g : Int) = stl F y ∧ (∀ q, q < 22 → m1 68 (nmC q) = y 230 q ∧ -100000000000000000 ≤ y 230 q ∧ y 230 q ≤ 100000000000000000) ∧ sumr (y 230) 0 22 0 = 0 := fun A hA => by
    obtain ⟨qA, y, d1, d2, d3, d4⟩ := b2 A (fun q hq => hA q (by omega))
    refine ⟨y, d2, ?_, d3, d4⟩
    have nf4 := h.1.2.1.2.2
    unfold fM_settles stl
    rw [if_neg (fun q => (fund_it (a1 := (g : Int)) ⟨by omega, by omega⟩ qA.1.1).2.mp q (by omega)), d1, cl_s]
  have qB : ∀ y B : bz_Mm, QY M y n nf nt nd nl now → (∀ q, q ≠ 81 → (q < 231 ∨ 234 < q) → B q = y q) → (∀ j, j ≠ 74 → j ≠ 78 → B 81 j = y 81 j) → QY M B n nf nt nd nl now := fun y B hy hB1 hB2 => by
    obtain ⟨⟨c1, c2, c3, c4, c5, c6⟩, d1, d2⟩ := hy
    have fz : FR n y B := ⟨fun q hq => hB1 q (by omega) (by omega), fun q t u v _ => by rw [hB1 q (by omega) (by omega)], fun j hj => hB2 j (by omega) (by omega), by rw [hB2 61 (by decide) (by decide)]; exact c1.2.2.1.2.2.1, fun j _ => by rw [hB1 53 (by decide) (by decide)]⟩
    refine ⟨⟨c1.fr fz, ?_, by rw [hB1 1 (by decide) (by decide)]; exact c3, by rw [hB1 53 (by decide) (by decide), hB1 1 (by decide) (by decide)]; exact c4, by rw [hB1 53 (by decide) (by decide)]; exact c5, by rw [hB1 82 (by decide) (by decide), hB1 106 (by decide) (by decide), hB1 42 (by decide) (by decide)]; exact c6⟩, d1.t fz, by rw [hB1 77 (by decide) (by decide)]; exact d2⟩
    unfold CA at c2 ⊢
    rw [hB1 53 (by decide) (by decide), hB1 1 (by decide) (by decide)]
    rcases c2 with t | t | t
    · exact Or.inl t
    · exact Or.inr (Or.inl t)
    · exact Or.inr (Or.inr ⟨t.1, t.2.1, t.2.2.fr fz (fun q hq => hB1 q (by omega) (by omega))⟩)
  rcases t0 with ⟨A, B, e1, e2, e3, e4, e5⟩ | ⟨c, hs, b, A, B, e1, e2, e3, e4, e5, e6, e7⟩
  · obtain ⟨y, f1, f2, f3, f4⟩ := run A e3
    rcases set_tail (F := F) (m1 := m1) (y := y) hF f3 b3 f4 with ⟨A', B', g1, g2, g3, g4, g5⟩ | ⟨c, hs, b, A', B', g1, _⟩
    · left
      exact ⟨A, B', e1, by rw [f2, g2], qB y B' f1 g4 g5, (b2 A (fun q hq => e3 q (by omega))).1⟩
    · rw [e1] at g1
      have z : (0 : Int) = 1 := congrArg (fun t => t.1) (Option.some.inj g1)
      exact absurd z (by decide)
  · obtain ⟨y, f1, f2, f3, f4⟩ := run A e3
    rcases set_tail (F := F) (m1 := m1) (y := y) hF f3 b3 f4 with ⟨A', B', g1, _⟩ | ⟨c', hs', b', A', B', g1, g2, g3, g4, g5, g6⟩
    · rw [e1] at g1
      have z : (1 : Int) = 0 := congrArg (fun t => t.1) (Option.some.inj g1)
      exact absurd z (by decide)
    · right
      have eA : A = A' := by
        rw [e1] at g1
        exact congrArg (fun t => t.2) (Option.some.inj g1)
      rw [← eA] at g6
      exact ⟨c', hs', b', A, B', e1, by rw [f2, g2], ⟨qB y B' f1 g4 g5, (b2 A (fun q hq => e3 q (by omega))).1⟩, g6⟩
theorem eq_payments {F : Nat} {M : bz_Mm} {a1 : Int} {n nf nt nd nl nh now : Nat} (hF : 1100 < F) (h1 : r32 a1) (h : IQ M n nf nt nd nl now) (hH : IH M nf nd nh) : ∃ x y, fU_payments F M a1 = some x ∧ fM_payments F x.2 a1 = some y ∧ w32 x.1 = w32 y.1 ∧ QY M y.2 n nf nt nd nl now := by
  obtain ⟨fU, fM⟩ := fund_it h1 h.1
  unfold fU_payments fM_payments
  by_cases c : 0 ≤ a1 ∧ a1 < (nf : Int)
  · obtain ⟨g, rfl⟩ : ∃ g : Nat, a1 = g := ⟨a1.toNat, by omega⟩
    obtain ⟨m1, b1, b2⟩ := set_both (g := g) hF h hH (by omega)
    rw [if_neg (fun q => fU.mp q c), b1, cl_s]
    rcases b2 with ⟨A, B, c1, c2, c3, _⟩ | ⟨k, hs, b, A, B, c1, c2, ⟨c3, _⟩, c4, c5, c6, c7, c8, c9⟩
    · refine ⟨(-1, A), (-1, B), by rw [c1, cl2_s, w32_0, if_pos rfl], ?_, rfl, c3⟩
      dsimp only
      rw [c2, cl2_s, w32_0, if_pos rfl]
    · refine ⟨(A 69 3, A), (B 81 74 - B 81 78, B), by rw [c1, cl2_s, w32_1p, if_neg (by decide)], ?_, ?_, c3⟩
      · dsimp only
        rw [c2, cl2_s, w32_1p, if_neg (by decide)]
      · dsimp only
        rw [c5.1, c6.1, c6.2, show ((k : Nat) : Int) - (hs.length : Int) = ((PLs b k hs).length : Int) by omega]
  · refine ⟨(-1, M), (-1, M), by rw [if_pos (fU.mpr c)], ?_, rfl, QY.r h⟩
    dsimp only
    unfold fM_settles
    rw [if_pos (fM.mpr c), cl2_s, w32_0, if_pos rfl]
theorem py_ok {b : Nat → Int} {h n : Nat} : ∀ (m i : Nat) (last : Option Nat) (sum : Int), i + m = n → (∀ a, last = some a → a < n) → ∀ (k a j : Nat) (s : Int), (pyI b h m i last sum)[k]? = some (a, j, s) → a < n ∧ j < n ∧ ((∀ t, t < n → -100000000000000000 ≤ b t ∧ b t ≤ 100000000000000000) → (-(100000000000000000 * (i : Int)) ≤ sum ∧ sum ≤ 100000000000000000 * (i : Int)) → -(100000000000000000 * (n : Int)) ≤ s ∧ s ≤ 100000000000000000 * (n : Int)) := by
  intro m
  induction m with
  | zero => intro i last sum _ _ k a j s hk; rw [py_0] at hk; simp at hk
  | succ m ih =>
    intro i last sum e1 e2 k a j s hk
    by_cases c : h.testBit i = true
    · have step : ∀ (k : Nat), (pyI b h m (i + 1) (some i) (sum + b i))[k]? = some (a, j, s) → a < n ∧ j < n ∧ ((∀ t, t < n → -100000000000000000 ≤ b t ∧ b t ≤ 100000000000000000) → (-(100000000000000000 * (i : Int)) ≤ sum ∧ sum ≤ 100000000000000000 * (i : Int)) → -(100000000000000000 * (n : Int)) ≤ s ∧ s ≤ 100000000000000000 * (n : Int)) := fun k hk => by
        obtain ⟨r1, r2, r3⟩ := ih (i + 1) (some i) (sum + b i) (by omega) (fun a ha => by have := Option.some.inj ha; omega) k a j s hk
        refine ⟨r1, r2, fun hb hs => r3 hb ?_⟩
        have := hb i (by omega)
        omega
      match last, e2 with
      | none, e2 => rw [py_n b sum c] at hk; exact step k hk
      | some a0, e2 =>
        rw [py_s b sum c] at hk
        match k, hk with
        | 0, hk =>
          have he : (a0, i, sum) = (a, j, s) := Option.some.inj hk
          have q1 : a0 = a := congrArg (fun t => t.1) he
          have q2 : i = j := congrArg (fun t => t.2.1) he
          have q3 : sum = s := congrArg (fun t => t.2.2) he
          have := e2 a0 rfl
          refine ⟨by omega, by omega, fun hb hs => by omega⟩
        | k + 1, hk => rw [List.getElem?_cons_succ] at hk; exact step k hk
    · rw [py_f b last sum c] at hk
      obtain ⟨r1, r2, r3⟩ := ih (i + 1) last sum (by omega) e2 k a j s hk
      exact ⟨r1, r2, fun hb hs => r3 hb (by omega)⟩
theorem pl_ok {b : Nat → Int} {n : Nat} : ∀ (hs : List Nat), (∀ h, h ∈ hs → h < 2 ^ n) → ∀ (k a j : Nat) (s : Int), (PLs b n hs)[k]? = some (a, j, s) → a < n ∧ j < n ∧ ((∀ t, t < n → -100000000000000000 ≤ b t ∧ b t ≤ 100000000000000000) → n ≤ 10 → -1000000000000000000 ≤ s ∧ s ≤ 1000000000000000000) := by
  intro hs
  induction hs with
  | nil => intro _ k a j s hk; simp [PLs] at hk
  | cons h t ih =>
    intro hm k a j s hk
    rw [show PLs b n (h :: t) = pyI b h n 0 none 0 ++ PLs b n t from rfl] at hk
    by_cases c : k < (pyI b h n 0 none 0).length
    · rw [List.getElem?_append_left c] at hk
      obtain ⟨r1, r2, r3⟩ := py_ok (n := n) n 0 none 0 (by omega) (fun a ha => by simp at ha) k a j s hk
      exact ⟨r1, r2, fun hb hn => by have := r3 hb (by omega); omega⟩
    · rw [List.getElem?_append_right (by omega)] at hk
      exact ih (fun h' hh => hm h' (List.mem_cons_of_mem h hh)) _ a j s hk
theorem nm_ok {q : Nat} (h : q < 22) : fM_nameOf (q : Int) = (nmC q : Int) := by
  unfold fM_nameOf nmC
  rw [w32_n (show q ≤ 2147483647 by omega)]
  by_cases c1 : q = 20
  · subst c1; rfl
  by_cases c2 : q = 21
  · subst c2; rfl
  rw [if_neg (by omega), if_neg (by omega)]
  by_cases c3 : q < 16
  · rw [if_pos (by omega), if_pos c3]
  · rw [if_neg (by omega), if_neg c3, if_pos (by omega)]; omega
theorem eq_payment {F : Nat} {M : bz_Mm} {a1 a2 a3 : Int} {n nf nt nd nl nh now : Nat} (hF : 1100 < F) (h1 : r32 a1) (h2 : r32 a2) (h3 : r32 a3) (h : IQ M n nf nt nd nl now) (hH : IH M nf nd nh) : ∃ x y, fU_payment F M a1 a2 a3 = some x ∧ fM_payment F x.2 a1 a2 a3 = some y ∧ w32 x.1 = w32 y.1 ∧ QY M y.2 n nf nt nd nl now := by
  obtain ⟨fU, fM⟩ := fund_it h1 h.1
  have i02 : (w32 (fM_in (w32 a3) 0 2) = 0) ↔ ¬ (0 ≤ a3 ∧ a3 ≤ 2) := by
    rw [r32_w h3]; exact fM_in_0 h3 ⟨by decide, by decide⟩ ⟨by decide, by decide⟩
  unfold fU_payment
  by_cases c : 0 ≤ a1 ∧ a1 < (nf : Int)
  · obtain ⟨g, rfl⟩ : ∃ g : Nat, a1 = g := ⟨a1.toNat, by omega⟩
    obtain ⟨m1, b1, b2⟩ := set_both (g := g) hF h hH (by omega)
    rw [if_neg (fun q => fU.mp q c), b1, cl_s]
    rcases b2 with ⟨A, B, c1, c2, c3, cA⟩ | ⟨k, hs, b, A, B, c1, c2, ⟨c3, cA⟩, c4, c5, c6, c7, c8, c9⟩
    · rw [c1, cl2_s, w32_0, if_pos rfl]
      unfold fM_payment
      by_cases d1 : a2 < 0
      · refine ⟨_, (-2147483648, A), rfl, ?_, rfl, cA⟩
        dsimp only
        rw [r32_w h2, if_pos d1]
      · by_cases d2 : 0 ≤ a3 ∧ a3 ≤ 2
        · refine ⟨_, (-2147483648, B), rfl, ?_, rfl, c3⟩
          dsimp only
          rw [r32_w h2, if_neg d1, if_neg (fun q => i02.mp q d2), c2, cl2_s, w32_0, if_pos rfl]
        · refine ⟨_, (-2147483648, A), rfl, ?_, rfl, cA⟩
          dsimp only
          rw [r32_w h2, if_neg d1, if_pos (i02.mpr d2)]
    · rw [c1, cl2_s, w32_1p, if_neg (by decide), r32_w h2, r32_w h3]
      obtain ⟨l1, l2⟩ := c5
      have len : (PLs b k hs).length ≤ 10 := by omega
      rw [l1, w32_n (show (PLs b k hs).length ≤ 2147483647 by omega)]
      unfold fM_payment
      by_cases d1 : a2 < 0
      · refine ⟨(-2147483648, A), (-2147483648, A), by rw [if_pos d1], ?_, rfl, cA⟩
        dsimp only
        rw [r32_w h2, if_pos d1]
      · rw [if_neg d1]
        by_cases d2 : 0 ≤ a3 ∧ a3 ≤ 2
        · obtain ⟨kk, rfl⟩ : ∃ kk : Nat, a2 = kk := ⟨a2.toNat, by omega⟩
          have k32 : kk ≤ 2147483647 := by have := h2.2; omega
          have p := r_pay34 (F := F) (n := k) (k := kk) (b := b) (Y := B) (what := a3) hF c4 c6.1 k32 (fun i hi => by
            obtain ⟨q, q1, q2, q3, q4⟩ := c9 i hi
            rw [q2, Int.toNat_natCast, q4.1]; exact ⟨⟨by omega, by omega⟩, rfl⟩) (hs := hs) c6.2 (by omega) c7 hs 0 F 0 (by omega) rfl (by omega) (by omega)
          rw [show ((0 : Nat) : Int) = 0 from rfl, Nat.sub_zero] at p
          by_cases d3 : kk < (PLs b k hs).length
          · obtain ⟨e, he⟩ : ∃ e, (PLs b k hs)[kk]? = some e := ⟨_, List.getElem?_eq_getElem d3⟩
            obtain ⟨a, i, sm⟩ := e
            rw [he] at p
            dsimp only at p
            obtain ⟨r1, r2, r3⟩ := l2 kk a i sm he
            have ms := pl_ok (b := b) (n := k) hs (fun h hh => by
              obtain ⟨j, hj⟩ := List.getElem?_of_mem hh
              exact (c7 j h hj).2) kk a i sm he
            obtain ⟨qa, qa1, qa2, qa3, _⟩ := c9 a ms.1
            obtain ⟨qi, qi1, qi2, qi3, _⟩ := c9 i ms.2.1
            have sb : -1000000000000000000 ≤ sm ∧ sm ≤ 1000000000000000000 := ms.2.2 (fun j hj => (c9 j hj).elim (fun _ t => t.2.2.2.2)) c4
            rw [qa3, qi3] at r1 r2
            rw [qa2, qi2] at p
            have w64s : w64 sm = sm := w64_id (by omega) (by omega)
            have paid : fM_paid (qa : Int) (qi : Int) sm a3 = (if a3 = 2 then fM_told (if sm < 0 then -sm else sm) else if a3 = 0 then (if sm < 0 then (nmC qa : Int) else (nmC qi : Int)) else (if sm < 0 then (nmC qi : Int) else (nmC qa : Int))) := by
              unfold fM_paid
              rw [r32_w h3, w64s, nm_ok qa1, nm_ok qi1]
              by_cases z2 : a3 = 2
              · rw [if_pos z2, if_pos z2]
                by_cases z : sm < 0
                · rw [if_pos z, if_pos z]
                · rw [if_neg z, if_neg z]
              · rw [if_neg z2, if_neg z2]
                by_cases z : sm < 0
                · rw [if_pos z, if_pos z, if_pos z]
                · rw [if_neg z, if_neg z, if_neg z]
            have ref : fM_payment F A (g : Int) (kk : Int) a3 = some (fM_paid (qa : Int) (qi : Int) sm a3, B) := by
              unfold fM_payment
              rw [r32_w h2, if_neg d1, if_neg (fun q => i02.mp q d2), c2, cl2_s, w32_1p, if_neg (by decide), p, cs1_l]
            unfold fM_payment at ref
            rw [if_pos (show (kk : Int) < ((PLs b k hs).length : Int) by omega)]
            by_cases z0 : a3 = 0
            · refine ⟨(A 70 kk, A), _, by rw [if_pos z0, rd_s (by omega) (by decide)], ref, ?_, c3⟩
              dsimp only
              rw [paid, if_neg (by omega), if_pos z0, r1]
            · by_cases z1 : a3 = 1
              · refine ⟨(A 71 kk, A), _, by rw [if_neg z0, if_pos z1, rd_s (by omega) (by decide)], ref, ?_, c3⟩
                dsimp only
                rw [paid, if_neg (by omega), if_neg z0, r2]
              · refine ⟨(fU_told (A 72 kk), A), _, by rw [if_neg z0, if_neg z1, if_pos (by omega), rd_s (by omega) (by decide)], ref, ?_, c3⟩
                dsimp only
                rw [paid, if_pos (by omega), told_eq, r3]
          · have no : (PLs b k hs)[kk]? = none := List.getElem?_eq_none (by omega)
            rw [no] at p
            dsimp only at p
            rw [if_neg (show ¬ (kk : Int) < ((PLs b k hs).length : Int) by omega)]
            refine ⟨_, (-2147483648, B), rfl, ?_, rfl, c3⟩
            dsimp only
            rw [r32_w h2, if_neg d1, if_neg (fun q => i02.mp q d2), c2, cl2_s, w32_1p, if_neg (by decide), p, cs1_r]
        · refine ⟨(-2147483648, A), (-2147483648, A), ?_, ?_, rfl, cA⟩
          · rw [if_neg (show ¬ a3 = 0 by omega), if_neg (show ¬ a3 = 1 by omega), if_neg (show ¬ a3 = 2 by omega)]
            split <;> rfl
          · dsimp only
            rw [r32_w h2, if_neg d1, if_pos (i02.mpr d2)]
  · refine ⟨(-2147483648, M), (-2147483648, M), by rw [if_pos (fU.mpr c)], ?_, rfl, QY.r h⟩
    dsimp only
    unfold fM_payment fM_settles
    rw [if_pos (fM.mpr c), cl2_s, w32_0, if_pos rfl]
    split
    · rfl
    · split <;> rfl
