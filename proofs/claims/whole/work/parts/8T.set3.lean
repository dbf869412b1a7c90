/-! the first heap, the payments within heaps -/
theorem nd_zero {z s : Nat} : ndX z s = 0 ↔ subX z s := by
  constructor
  · intro h i hi
    have := nd_t z s i
    rw [h, Nat.zero_testBit, hi] at this
    cases e : s.testBit i
    · rw [e] at this; exact absurd this (by decide)
    · rfl
  · intro h
    apply Nat.eq_of_testBit_eq
    intro i
    rw [nd_t, Nat.zero_testBit]
    cases e : z.testBit i
    · rfl
    · rw [h i e]; rfl
theorem least_ex {P : Nat → Prop} {x : Nat} (h : P x) : ∃ y, P y ∧ ∀ z, z < y → ¬ P z := by
  have : ∀ x, P x → ∃ y, P y ∧ ∀ z, z < y → ¬ P z := by
    intro x
    induction x using Nat.strongRecOn with
    | ind x ih =>
      intro h
      by_cases c : ∃ z, z < x ∧ P z
      · obtain ⟨z, z1, z2⟩ := c; exact ih z z1 z2
      · exact ⟨x, h, fun z hz q => c ⟨z, hz, q⟩⟩
  exact this x h
theorem heap_both {F n s : Nat} {X Y : bz_Mm} {b : Nat → Int} (hF : 1100 < F) (hn : n ≤ 10) (h75 : ∀ t, t < 2 ^ n → X 75 t = sB b n t) (h76 : MOp b n (2 ^ n) (X 76)) (h233 : ∀ t, t < 2 ^ n → Y 233 t = sB b n t) (h232 : BEp b n (2 ^ n) (Y 232)) (hs : s < 2 ^ n) (s0 : s ≠ 0) (zs : zS b n s) : ∃ g k : Nat, fUG_firstHeap F X (s : Int) = some (g : Int) ∧ ia_ (s : Int) (-(s : Int)) = ((2 ^ k : Nat) : Int) ∧ M_picks_L25 F F Y ((2 ^ k : Nat) : Int) (s : Int) ((2 ^ k : Nat) : Int) = some (g : Int) ∧ subX g s ∧ g.testBit k = true ∧ zS b n g := by
  have pn := p10 hn
  obtain ⟨k, k1, k2, k3, k4⟩ := low_b (show s < 1024 by omega) s0
  have hm := h76.mo
  have hb := h232.be
  have p1 := be_pos hb hs zs s0
  have rs := BEp.r h232 hs
  have mb := mo_be hm hb
  -- good ones
  have ex : ∃ g, subX g s ∧ g.testBit k = true ∧ zS b n g ∧ Y 232 (ndX s g) = Y 232 s - 1 := by
    rcases (hb.2 s k hs k2 k3).2 with f | ⟨g, g1, g2, g3, g4, g5⟩
    · omega
    · exact ⟨g, g1, g2, g3, by omega⟩
  obtain ⟨gx, hx⟩ := ex
  obtain ⟨g, ⟨g1, g2, g3, g4⟩, g5⟩ := least_ex (P := fun g => subX g s ∧ g.testBit k = true ∧ zS b n g ∧ Y 232 (ndX s g) = Y 232 s - 1) hx
  have gs := sub_le g1
  have kg : 2 ^ k ≤ g := sub_le (one_sub g2)
  have k1024 : 2 ^ k < 1024 := by omega
  have sl := Nat.sub_le g (2 ^ k)
  have sl2 : 2 ^ k + (g - 2 ^ k) = g := Nat.add_sub_cancel' kg
  have sl3 : g - 2 ^ k < F := by omega
  have lowz : ∀ z, z ≤ s → (w32 (ia_ (z : Int) ((2 ^ k : Nat) : Int)) = 0 ↔ z.testBit k = false) := fun z hz => by
    rw [ia_n (by omega) (by omega), w32_n (Nat.le_trans Nat.and_le_left (by omega)), ← and_one]
    omega
  have ndz : ∀ z, z ≤ s → (w32 (ia_ (z : Int) (ix_ (s : Int) (-1))) = 0 ↔ subX z s) := fun z hz => by
    have : ndX z s ≤ z := sub_le (nd_sub z s)
    rw [ian_n (by omega) (by omega), w32_n (by omega), ← nd_zero]
    omega
  refine ⟨g, k, ?_, k4, ?_, g1, g2, g3⟩
  · -- the class
    have lp : ∀ (m fuel x : Nat), x + m = g → m < fuel → UG_firstHeap_L7 F fuel X ((2 ^ k : Nat) : Int) (s : Int) (x : Int) = some (if g < s then Sum.inl (g : Int) else Sum.inr 0) := by
      intro m
      induction m with
      | zero =>
        intro fuel x e1 e2
        obtain ⟨fuel, rfl⟩ : ∃ j, fuel = j + 1 := ⟨fuel - 1, by omega⟩
        have e : x = g := by omega
        subst e
        rw [UG_firstHeap_L7, w32_n (show x ≤ 2147483647 by omega), w32_n (show s ≤ 2147483647 by omega)]
        by_cases c : x < s
        · have lt := nd_lt g1 g2
          have xr : ix_ (s : Int) (x : Int) = ((ndX s x : Nat) : Int) := by rw [ix_n (by omega) (by omega), nd_xor g1]
          have e1 := mb s hs zs
          have e2 := mb _ (show ndX s x < 2 ^ n by omega) (zS_nd g1 zs g3)
          have r2 := BEp.r h232 (show ndX s x < 2 ^ n by omega)
          rw [if_pos (by omega), if_neg (fun q => by rw [(lowz x gs).mp q] at g2; exact absurd g2 (by decide)), if_pos ((ndz x gs).mpr g1), cl1_s, w32_1p, if_neg (by decide), rd_s (by omega) (by decide), h75 x (by omega), if_pos (show w64 (sB b n x) = 0 from g3), xr, rd_s (by omega) (by decide), rd_s (by omega) (by decide), ← e1, ← e2, w32_id (x := Y 232 (ndX s x) + 1) (by omega) (by omega), w32_id (x := Y 232 s) (by omega) (by omega), if_pos (by omega), if_pos c]
        · rw [if_neg (by omega), if_neg c]
      | succ m ih =>
        intro fuel x e1 e2
        obtain ⟨fuel, rfl⟩ : ∃ j, fuel = j + 1 := ⟨fuel - 1, by omega⟩
        have e : (x : Int) + 1 = ((x + 1 : Nat) : Int) := by omega
        have nx := ih fuel (x + 1) (by omega) (by omega)
        rw [UG_firstHeap_L7, w32_n (show x ≤ 2147483647 by omega), w32_n (show s ≤ 2147483647 by omega), if_pos (by omega), e]
        by_cases c1 : x.testBit k = true
        · rw [if_neg (fun q => by rw [(lowz x (by omega)).mp q] at c1; exact absurd c1 (by decide))]
          by_cases c2 : subX x s
          · have lt := nd_lt c2 c1
            rw [if_pos ((ndz x (by omega)).mpr c2), cl1_s, w32_1p, if_neg (by decide), rd_s (by omega) (by decide), h75 x (by omega)]
            by_cases c3 : w64 (sB b n x) = 0
            · have xr : ix_ (s : Int) (x : Int) = ((ndX s x : Nat) : Int) := by rw [ix_n (by omega) (by omega), nd_xor c2]
              have e1 := mb s hs zs
              have e2 := mb _ (show ndX s x < 2 ^ n by omega) (zS_nd c2 zs c3)
              have r2 := BEp.r h232 (show ndX s x < 2 ^ n by omega)
              have ng := g5 x (by omega)
              rw [if_pos c3, xr, rd_s (by omega) (by decide), rd_s (by omega) (by decide), ← e1, ← e2, w32_id (x := Y 232 (ndX s x) + 1) (by omega) (by omega), w32_id (x := Y 232 s) (by omega) (by omega), if_neg (fun q => ng ⟨c2, c1, c3, by omega⟩)]
              exact nx
            · rw [if_neg c3]; exact nx
          · rw [if_neg (fun q => c2 ((ndz x (by omega)).mp q)), cl1_s, w32_0, if_pos rfl]; exact nx
        · have c1' : x.testBit k = false := by cases e : x.testBit k
                                               · rfl
                                               · exact absurd e c1
          rw [if_pos ((lowz x (by omega)).mpr c1'), cl1_s, w32_0, if_pos rfl]; exact nx
    unfold fUG_firstHeap
    rw [lt_x, k4, lp (g - 2 ^ k) F (2 ^ k) sl2 sl3]
    by_cases c : g < s
    · rw [if_pos c, cs1_l]
    · rw [if_neg c, cs1_r, show s = g by omega]
  · -- the reference
    have lp : ∀ (m fuel x : Nat), x + m = g → m < fuel → M_picks_L25 F fuel Y ((2 ^ k : Nat) : Int) (s : Int) (x : Int) = some (g : Int) := by
      intro m
      induction m with
      | zero =>
        intro fuel x e1 e2
        obtain ⟨fuel, rfl⟩ : ∃ j, fuel = j + 1 := ⟨fuel - 1, by omega⟩
        have e : x = g := by omega
        subst e
        have lt := nd_lt g1 g2
        have r2 := BEp.r h232 (show ndX s x < 2 ^ n by omega)
        rw [M_picks_L25, if_pos ((ndz x gs).mpr g1), if_neg (fun q => by rw [(lowz x gs).mp q] at g2; exact absurd g2 (by decide)), rd_s (by omega) (by decide), h233 x (by omega), if_pos (show w64 (sB b n x) = 0 from g3), ian_n (by omega) (by omega), rd_s (by omega) (by decide), rd_s (by omega) (by decide), w32_id (x := Y 232 (ndX s x)) (by omega) (by omega), w32_id (x := Y 232 s - 1) (by omega) (by omega), if_pos g4]
      | succ m ih =>
        intro fuel x e1 e2
        obtain ⟨fuel, rfl⟩ : ∃ j, fuel = j + 1 := ⟨fuel - 1, by omega⟩
        have e : (x : Int) + 1 = ((x + 1 : Nat) : Int) := by omega
        have nx := ih fuel (x + 1) (by omega) (by omega)
        rw [M_picks_L25, e]
        by_cases c2 : subX x s
        · rw [if_pos ((ndz x (by omega)).mpr c2)]
          by_cases c1 : x.testBit k = true
          · have lt := nd_lt c2 c1
            rw [if_neg (fun q => by rw [(lowz x (by omega)).mp q] at c1; exact absurd c1 (by decide)), rd_s (by omega) (by decide), h233 x (by omega)]
            by_cases c3 : w64 (sB b n x) = 0
            · have r2 := BEp.r h232 (show ndX s x < 2 ^ n by omega)
              have ng := g5 x (by omega)
              rw [if_pos c3, ian_n (by omega) (by omega), rd_s (by omega) (by decide), rd_s (by omega) (by decide), w32_id (x := Y 232 (ndX s x)) (by omega) (by omega), w32_id (x := Y 232 s - 1) (by omega) (by omega), if_neg (fun q => ng ⟨c2, c1, c3, q⟩)]
              exact nx
            · rw [if_neg c3]; exact nx
          · have c1' : x.testBit k = false := by cases e : x.testBit k
                                                 · rfl
                                                 · exact absurd e c1
            rw [if_pos ((lowz x (by omega)).mpr c1')]; exact nx
        · rw [if_neg (fun q => c2 ((ndz x (by omega)).mp q))]; exact nx
    exact lp (g - 2 ^ k) F (2 ^ k) sl2 sl3
/-! payments within a heap -/
def pyI (b : Nat → Int) (h : Nat) : Nat → Nat → Option Nat → Int → List (Nat × Nat × Int)
  | 0, _, _, _ => []
  | m + 1, i, last, sum => if h.testBit i = true then (match last with
    | none => pyI b h m (i + 1) (some i) (sum + b i)
    | some a => (a, i, sum) :: pyI b h m (i + 1) (some i) (sum + b i)) else pyI b h m (i + 1) last sum
def cnB (h : Nat) : Nat → Nat → Nat
  | 0, _ => 0
  | m + 1, i => (if h.testBit i = true then 1 else 0) + cnB h m (i + 1)
theorem cnB_S (h m i : Nat) : cnB h (m + 1) i = (if h.testBit i = true then 1 else 0) + cnB h m (i + 1) := rfl
theorem py_0 (b : Nat → Int) (h i : Nat) (last : Option Nat) (sum : Int) : pyI b h 0 i last sum = [] := rfl
theorem py_n (b : Nat → Int) {h m i : Nat} (sum : Int) (c : h.testBit i = true) : pyI b h (m + 1) i none sum = pyI b h m (i + 1) (some i) (sum + b i) := by
  rw [pyI, if_pos c]
theorem py_s (b : Nat → Int) {h m i a : Nat} (sum : Int) (c : h.testBit i = true) : pyI b h (m + 1) i (some a) sum = (a, i, sum) :: pyI b h m (i + 1) (some i) (sum + b i) := by
  rw [pyI, if_pos c]
theorem py_f (b : Nat → Int) {h m i : Nat} (last : Option Nat) (sum : Int) (c : ¬ h.testBit i = true) : pyI b h (m + 1) i last sum = pyI b h m (i + 1) last sum := by
  show (if h.testBit i = true then (match last with
    | none => pyI b h m (i + 1) (some i) (sum + b i)
    | some a => (a, i, sum) :: pyI b h m (i + 1) (some i) (sum + b i)) else pyI b h m (i + 1) last sum) = _
  rw [if_neg c]
theorem py_len (b : Nat → Int) {h : Nat} : ∀ (m i : Nat) (sum : Int), (∀ a, (pyI b h m i (some a) sum).length = cnB h m i) ∧ (pyI b h m i none sum).length + (if cnB h m i = 0 then 0 else 1) = cnB h m i := by
  intro m
  induction m with
  | zero => intro i sum; exact ⟨fun _ => rfl, rfl⟩
  | succ m ih =>
    intro i sum
    rw [cnB_S]
    by_cases c : h.testBit i = true
    · rw [if_pos c, py_n b sum c]
      refine ⟨fun a => ?_, ?_⟩
      · rw [py_s b sum c, List.length_cons, (ih (i + 1) _).1 i]; omega
      · rw [(ih (i + 1) _).1 i, if_neg (by omega)]; omega
    · rw [if_neg c, py_f b none sum c]
      refine ⟨fun a => ?_, ?_⟩
      · rw [py_f b (some a) sum c, (ih (i + 1) _).1 a]; omega
      · have := (ih (i + 1) sum).2
        rw [show 0 + cnB h m (i + 1) = cnB h m (i + 1) by omega]; exact this
/-- the class's rows tell the list of payments -/
def ENC (X : bz_Mm) (L : List (Nat × Nat × Int)) : Prop := X 69 3 = L.length ∧ ∀ (k a i : Nat) (s : Int), L[k]? = some (a, i, s) → X 70 k = (if s < 0 then X 73 a else X 73 i) ∧ X 71 k = (if s < 0 then X 73 i else X 73 a) ∧ X 72 k = (if s < 0 then -s else s)
def lsI (last : Option Nat) : Int := match last with
  | none => -1
  | some a => a
theorem u_pay {F n h : Nat} {b : Nat → Int} {X0 : bz_Mm} (hF : 1100 < F) (hn : n ≤ 10) (hh : h < 2 ^ n) (h8 : X0 69 8 = n) (hb : ∀ i, i < n → X0 74 i = b i ∧ -100000000000000000 ≤ b i ∧ b i ≤ 100000000000000000) : ∀ (m fuel i : Nat) (last : Option Nat) (sum : Int) (L : List (Nat × Nat × Int)) (X : bz_Mm), i + m = n → m < fuel → (∀ a, last = some a → a < n) → (-(100000000000000000 * (i : Int)) ≤ sum ∧ sum ≤ 100000000000000000 * (i : Int)) → (∀ q, q ≠ 69 → q ≠ 70 → q ≠ 71 → q ≠ 72 → X q = X0 q) → X 69 8 = n → L.length + cnB h m i ≤ 10 → ENC X L → ∃ X', UG_payWithin_L8 F fuel (h : Int) (i : Int) (lsI last) (-sum) X = some X' ∧ (∀ q, q ≠ 69 → q ≠ 70 → q ≠ 71 → q ≠ 72 → X' q = X0 q) ∧ X' 69 8 = n ∧ ENC X' (L ++ pyI b h m i last sum) := by
  have pn := p10 hn
  intro m
  induction m with
  | zero =>
    intro fuel i last sum L X e1 e2 e3 e4 e5 e6 e7 e8
    obtain ⟨fuel, rfl⟩ : ∃ j, fuel = j + 1 := ⟨fuel - 1, by omega⟩
    refine ⟨X, ?_, e5, e6, by rw [py_0, List.append_nil]; exact e8⟩
    rw [UG_payWithin_L8, e6, w32_n (show i ≤ 2147483647 by omega), w32_n (show n ≤ 2147483647 by omega), if_neg (by omega)]
  | succ m ih =>
    intro fuel i last sum L X e1 e2 e3 e4 e5 e6 e7 e8
    obtain ⟨fuel, rfl⟩ : ∃ j, fuel = j + 1 := ⟨fuel - 1, by omega⟩
    have e : (i : Int) + 1 = ((i + 1 : Nat) : Int) := by omega
    obtain ⟨b1, b2⟩ := hb i (by omega)
    rw [cnB_S] at e7
    rw [UG_payWithin_L8, e6, w32_n (show i ≤ 2147483647 by omega), w32_n (show n ≤ 2147483647 by omega), if_pos (by omega), sr_b (by omega) (by omega), e]
    by_cases c : h.testBit i = true
    · rw [if_pos c] at e7
      rw [if_pos c, w32_1p, if_neg (by decide)]
      have sg : -sum - b i = -(sum + b i) := by omega
      have bd : -(100000000000000000 * ((i + 1 : Nat) : Int)) ≤ sum + b i ∧ sum + b i ≤ 100000000000000000 * ((i + 1 : Nat) : Int) := by omega
      match last, e3 with
      | none, e3 =>
        rw [show lsI none = -1 from rfl, show w32 (-1) = -1 from by decide, if_pos rfl, cl1_s, rd_s (by omega) (by decide), e5 74 (by decide) (by decide) (by decide) (by decide), b1, lt_x, sg, py_n b sum c]
        exact ih fuel (i + 1) (some i) _ L X (by omega) (by omega) (fun a ha => by have := Option.some.inj ha; omega) bd e5 e6 (by omega) e8
      | some a, e3 =>
        have an := e3 a rfl
        obtain ⟨l1, l2⟩ := e8
        have sgn : (0 < w64 (-sum)) ↔ sum < 0 := by rw [w64_id (x := -sum) (by omega) (by omega)]; omega
        have av : fJM_abs1 (-sum) = if sum < 0 then -sum else sum := by
          unfold fJM_abs1
          rw [w64_id (x := -sum) (by omega) (by omega)]
          by_cases q : sum < 0
          · rw [if_pos q, if_neg (by omega)]
          · rw [if_neg q]
            by_cases q2 : -sum < 0
            · rw [if_pos q2]; omega
            · rw [if_neg q2]; omega
        have x73 : X 73 = X0 73 := e5 73 (by decide) (by decide) (by decide) (by decide)
        -- the class's step
        have st1 : (cl1_ (if w32 (lsI (some a)) = -1 then some X else if w32 (X 69 3) < 10 then cl1_ (if 0 < w64 (-sum) then rd_ X 73 (lsI (some a)) 10 fun x5 => some x5 else rd_ X 73 (i : Int) 10 fun x4 => some x4) fun v3 => wa_ X 70 (X 69 3) 10 v3 fun m6 => cl1_ (if 0 < w64 (-sum) then rd_ m6 73 (i : Int) 10 fun x10 => some x10 else rd_ m6 73 (lsI (some a)) 10 fun x9 => some x9) fun v8 => wa_ m6 71 (m6 69 3) 10 v8 fun m11 => wa_ m11 72 (m11 69 3) 10 (fJM_abs1 (-sum)) fun m12 => wf_ m12 69 3 (m12 69 3 + 1) fun m13 => some m13 else some X) fun m14 => rd_ m14 74 (i : Int) 10 fun x15 => lt_ (-sum - x15) fun l2 => UG_payWithin_L8 F fuel (h : Int) ((i + 1 : Nat) : Int) (i : Int) l2 m14) = UG_payWithin_L8 F fuel (h : Int) ((i + 1 : Nat) : Int) (i : Int) (-(sum + b i)) (st_ (st_ (st_ (st_ X 70 L.length (if sum < 0 then X0 73 a else X0 73 i)) 71 L.length (if sum < 0 then X0 73 i else X0 73 a)) 72 L.length (if sum < 0 then -sum else sum)) 69 3 ((L.length : Int) + 1)) := by
          rw [show lsI (some a) = (a : Int) from rfl, w32_n (show a ≤ 2147483647 by omega), if_neg (by omega), l1, w32_n (show L.length ≤ 2147483647 by omega), if_pos (by omega), rd_s (by omega) (by decide), rd_s (by omega) (by decide), x73]
          by_cases q : sum < 0
          · rw [if_pos (sgn.mpr q), cl1_s, wa_s (by omega) (by decide), if_pos (sgn.mpr q), rd_s (by omega) (by decide), st_ne (show (73 : Nat) ≠ 70 by decide), x73, cl1_s, st_ne (show (69 : Nat) ≠ 70 by decide), l1, wa_s (by omega) (by decide), st_ne (show (69 : Nat) ≠ 71 by decide), st_ne (show (69 : Nat) ≠ 70 by decide), l1, wa_s (by omega) (by decide), st_ne (show (69 : Nat) ≠ 72 by decide), st_ne (show (69 : Nat) ≠ 71 by decide), st_ne (show (69 : Nat) ≠ 70 by decide), l1, wf_s, cl1_s, rd_s (by omega) (by decide), st_ne (show (74 : Nat) ≠ 69 by decide), st_ne (show (74 : Nat) ≠ 72 by decide), st_ne (show (74 : Nat) ≠ 71 by decide), st_ne (show (74 : Nat) ≠ 70 by decide), e5 74 (by decide) (by decide) (by decide) (by decide), b1, lt_x, sg, av, if_pos q, if_pos q, if_pos q]
          · rw [if_neg (fun z => q (sgn.mp z)), cl1_s, wa_s (by omega) (by decide), if_neg (fun z => q (sgn.mp z)), rd_s (by omega) (by decide), st_ne (show (73 : Nat) ≠ 70 by decide), x73, cl1_s, st_ne (show (69 : Nat) ≠ 70 by decide), l1, wa_s (by omega) (by decide), st_ne (show (69 : Nat) ≠ 71 by decide), st_ne (show (69 : Nat) ≠ 70 by decide), l1, wa_s (by omega) (by decide), st_ne (show (69 : Nat) ≠ 72 by decide), st_ne (show (69 : Nat) ≠ 71 by decide), st_ne (show (69 : Nat) ≠ 70 by decide), l1, wf_s, cl1_s, rd_s (by omega) (by decide), st_ne (show (74 : Nat) ≠ 69 by decide), st_ne (show (74 : Nat) ≠ 72 by decide), st_ne (show (74 : Nat) ≠ 71 by decide), st_ne (show (74 : Nat) ≠ 70 by decide), e5 74 (by decide) (by decide) (by decide) (by decide), b1, lt_x, sg, av, if_neg q, if_neg q, if_neg q]
        rw [st1, py_s b sum c]
        have enc : ENC (st_ (st_ (st_ (st_ X 70 L.length (if sum < 0 then X0 73 a else X0 73 i)) 71 L.length (if sum < 0 then X0 73 i else X0 73 a)) 72 L.length (if sum < 0 then -sum else sum)) 69 3 ((L.length : Int) + 1)) (L ++ [(a, i, sum)]) := by
          refine ⟨by rw [st_eq, ud_eq, List.length_append]; rfl, fun k a' i' s' hk => ?_⟩
          rw [st_ne (show (70 : Nat) ≠ 69 by decide), st_ne (show (70 : Nat) ≠ 72 by decide), st_ne (show (70 : Nat) ≠ 71 by decide), st_eq, st_ne (show (71 : Nat) ≠ 69 by decide), st_ne (show (71 : Nat) ≠ 72 by decide), st_eq, st_ne (show (71 : Nat) ≠ 70 by decide), st_ne (show (72 : Nat) ≠ 69 by decide), st_eq, st_ne (show (72 : Nat) ≠ 71 by decide), st_ne (show (72 : Nat) ≠ 70 by decide), st_ne (show (73 : Nat) ≠ 69 by decide), st_ne (show (73 : Nat) ≠ 72 by decide), st_ne (show (73 : Nat) ≠ 71 by decide), st_ne (show (73 : Nat) ≠ 70 by decide), x73]
          by_cases q : k < L.length
          · rw [List.getElem?_append_left q] at hk
            rw [ud_ne (by omega), ud_ne (by omega), ud_ne (by omega), ← x73]
            exact l2 k a' i' s' hk
          · rw [List.getElem?_append_right (by omega)] at hk
            by_cases q2 : k = L.length
            · rw [q2, Nat.sub_self] at hk
              have he : (a, i, sum) = (a', i', s') := Option.some.inj hk
              have h1 : a = a' := congrArg (fun t => t.1) he
              have h2 : i = i' := congrArg (fun t => t.2.1) he
              have h3 : sum = s' := congrArg (fun t => t.2.2) he
              rw [q2, ud_eq, ud_eq, ud_eq, h1, h2, h3]; exact ⟨rfl, rfl, rfl⟩
            · rw [List.getElem?_eq_none (by show 1 ≤ k - L.length; omega)] at hk
              exact absurd hk (by simp)
        have r := ih fuel (i + 1) (some i) (sum + b i) (L ++ [(a, i, sum)]) _ (by omega) (by omega) (fun a' ha => by have := Option.some.inj ha; omega) bd (fun q w1 w2 w3 w4 => by rw [st_ne w1, st_ne w4, st_ne w3, st_ne w2]; exact e5 q w1 w2 w3 w4) (by rw [st_eq, ud_ne (by decide), st_ne (by decide), st_ne (by decide), st_ne (by decide)]; exact e6) (by rw [List.length_append]; show L.length + 1 + _ ≤ 10; omega) enc
        rw [List.append_assoc] at r
        exact r
    · rw [if_neg c] at e7
      rw [if_neg c, w32_0, if_pos rfl, py_f b last sum c]
      exact ih fuel (i + 1) last sum L X (by omega) (by omega) e3 (by omega) e5 e6 (by omega) e8
