/-! the reference counts heaps -/
def BEp (b : Nat → Int) (n lim : Nat) (be : Nat → Int) : Prop := be 0 = 0 ∧ ∀ s k, s < lim → s.testBit k = true → (∀ j, j < k → s.testBit j = false) → (-1 ≤ be s ∧ be s ≤ s) ∧ (∀ g, subX g s → g.testBit k = true → zS b n g → be (ndX s g) ≠ -1 → be (ndX s g) + 1 ≤ be s) ∧ (be s = -1 ∨ ∃ g, subX g s ∧ g.testBit k = true ∧ zS b n g ∧ be (ndX s g) ≠ -1 ∧ be s = be (ndX s g) + 1)
theorem BEp.be {b : Nat → Int} {n : Nat} {be : Nat → Int} (h : BEp b n (2 ^ n) be) : BE b n be := ⟨h.1, fun s k hs h1 h2 => (h.2 s k hs h1 h2).2⟩
theorem BEp.r {b : Nat → Int} {n lim : Nat} {be : Nat → Int} (h : BEp b n lim be) {s : Nat} (hs : s < lim) : -1 ≤ be s ∧ be s ≤ s := by
  by_cases c : s = 0
  · rw [c, h.1]; omega
  · obtain ⟨k, k1, k2⟩ := bit_le c
    exact (h.2 s k hs k1 k2).1
theorem r_sumB {F n : Nat} {X : bz_Mm} {b : Nat → Int} (hF : 1100 < F) (hn : n ≤ 10) (h74 : X 81 74 = n) (hb : ∀ i, i < n → 0 ≤ X 231 i ∧ X 231 i < 22 ∧ X 230 (X 231 i).toNat = b i) : ∃ X', M_settles_L81 F F 0 X = some X' ∧ (∀ q, q ≠ 233 → X' q = X q) ∧ ∀ s, s < 2 ^ n → X' 233 s = sB b n s := by
  have pn := p10 hn
  have inner : ∀ (s : Nat), s < 2 ^ n → ∀ (m fuel i : Nat) (V : bz_Mm), i + m = n → m < fuel → (∀ q, q ≠ 233 → V q = X q) → (∀ t, t < s → V 233 t = sB b n t) → V 233 s = sB b i s → ∃ V', M_settles_L100 F fuel (s : Int) (i : Int) V = some V' ∧ (∀ q, q ≠ 233 → V' q = X q) ∧ (∀ t, t < s + 1 → V' 233 t = sB b n t) := by
    intro s hs m
    induction m with
    | zero =>
      intro fuel i V e1 e2 e3 e4 e5
      obtain ⟨fuel, rfl⟩ : ∃ j, fuel = j + 1 := ⟨fuel - 1, by omega⟩
      have e : i = n := by omega
      subst e
      refine ⟨V, ?_, e3, fun t ht => ?_⟩
      · rw [M_settles_L100, e3 81 (by decide), h74, w32_n (show i ≤ 2147483647 by omega), if_neg (by omega)]
      · by_cases q : t = s
        · rw [q]; exact e5
        · exact e4 t (by omega)
    | succ m ih =>
      intro fuel i V e1 e2 e3 e4 e5
      obtain ⟨fuel, rfl⟩ : ∃ j, fuel = j + 1 := ⟨fuel - 1, by omega⟩
      have e : (i : Int) + 1 = ((i + 1 : Nat) : Int) := by omega
      obtain ⟨b1, b2, b3⟩ := hb i (by omega)
      rw [M_settles_L100, e3 81 (by decide), h74, w32_n (show i ≤ 2147483647 by omega), w32_n (show n ≤ 2147483647 by omega), if_pos (by omega), sr_b (by omega) (by omega), e]
      by_cases c : s.testBit i = true
      · rw [if_pos c, w32_1p, if_pos rfl, rd_s (by omega) (by decide), rd_s (by omega) (by decide), e3 231 (by decide), rd_i (by omega) (by omega) (by decide), e3 230 (by decide), b3, wa_s (by omega) (by decide), e5]
        exact ih fuel (i + 1) _ (by omega) (by omega) (fun q hq => by rw [st_ne hq]; exact e3 q hq) (fun t ht => by rw [st_eq, ud_ne (by omega)]; exact e4 t ht) (by rw [st_eq, ud_eq, sB_S, if_pos c])
      · rw [if_neg c, w32_0, if_neg (by decide)]
        exact ih fuel (i + 1) _ (by omega) (by omega) e3 e4 (by rw [sB_S, if_neg c, Int.add_zero]; exact e5)
  have outer : ∀ (m fuel s : Nat) (W : bz_Mm), s + m = 2 ^ n → m < fuel → (∀ q, q ≠ 233 → W q = X q) → (∀ t, t < s → W 233 t = sB b n t) → ∃ W', M_settles_L81 F fuel (s : Int) W = some W' ∧ (∀ q, q ≠ 233 → W' q = X q) ∧ ∀ t, t < 2 ^ n → W' 233 t = sB b n t := by
    intro m
    induction m with
    | zero =>
      intro fuel s W e1 e2 e3 e4
      obtain ⟨fuel, rfl⟩ : ∃ j, fuel = j + 1 := ⟨fuel - 1, by omega⟩
      have e : s = 2 ^ n := by omega
      refine ⟨W, ?_, e3, by rw [← e]; exact e4⟩
      rw [M_settles_L81, e3 81 (by decide), h74, sl_b hn, w32_n (show s ≤ 2147483647 by omega), w32_n (show 2 ^ n ≤ 2147483647 by omega), if_neg (by omega)]
    | succ m ih =>
      intro fuel s W e1 e2 e3 e4
      obtain ⟨fuel, rfl⟩ : ∃ j, fuel = j + 1 := ⟨fuel - 1, by omega⟩
      have e : (s : Int) + 1 = ((s + 1 : Nat) : Int) := by omega
      obtain ⟨V', k1, k2, k3⟩ := inner s (by omega) n F 0 (st_ W 233 s 0) (by omega) (by omega) (fun q hq => by rw [st_ne hq]; exact e3 q hq) (fun t ht => by rw [st_eq, ud_ne (by omega)]; exact e4 t ht) (by rw [st_eq, ud_eq]; rfl)
      rw [show ((0 : Nat) : Int) = 0 from rfl] at k1
      rw [M_settles_L81, e3 81 (by decide), h74, sl_b hn, w32_n (show s ≤ 2147483647 by omega), w32_n (show 2 ^ n ≤ 2147483647 by omega), if_pos (by omega), wa_s (by omega) (by decide), k1, cl1_s, e]
      exact ih fuel (s + 1) V' (by omega) (by omega) k2 k3
  exact outer (2 ^ n) F 0 X (by omega) (by omega) (fun _ _ => rfl) (fun t ht => by omega)
theorem and_one {g k : Nat} : (g &&& 2 ^ k = 0) ↔ g.testBit k = false := by
  constructor
  · intro h
    have : (g &&& 2 ^ k).testBit k = false := by rw [h, Nat.zero_testBit]
    rw [Nat.testBit_and, one_t, decide_eq_true (show k = k from rfl), Bool.and_true] at this
    exact this
  · intro h
    apply Nat.eq_of_testBit_eq
    intro i
    rw [Nat.testBit_and, one_t, Nat.zero_testBit]
    by_cases e : k = i
    · rw [← e, h]; rfl
    · rw [decide_eq_false e, Bool.and_false]
theorem r_mostB {F n : Nat} {X : bz_Mm} {b : Nat → Int} (hF : 1100 < F) (hn : n ≤ 10) (h74 : X 81 74 = n) (hs : ∀ s, s < 2 ^ n → X 233 s = sB b n s) : ∃ X', M_settles_L151 F F 0 X = some X' ∧ (∀ q, q ≠ 232 → X' q = X q) ∧ BEp b n (2 ^ n) (X' 232) := by
  have pn := p10 hn
  -- one set
  have inner : ∀ (h k : Nat), h < 2 ^ n → h.testBit k = true → (∀ j, j < k → h.testBit j = false) → ∀ W : bz_Mm, (∀ q, q ≠ 232 → W q = X q) → BEp b n h (W 232) → ∀ (fuel g : Nat) (V : bz_Mm), g < fuel → subX g h → (∀ q, q ≠ 232 → V q = X q) → (∀ t, t < h → V 232 t = W 232 t) → (-1 ≤ V 232 h ∧ V 232 h ≤ h) → (∀ g', subX g' h → g < g' → g'.testBit k = true → zS b n g' → W 232 (ndX h g') ≠ -1 → W 232 (ndX h g') + 1 ≤ V 232 h) → (V 232 h = -1 ∨ ∃ g', subX g' h ∧ g'.testBit k = true ∧ zS b n g' ∧ W 232 (ndX h g') ≠ -1 ∧ V 232 h = W 232 (ndX h g') + 1) → ∃ V', M_mosts_L22 F fuel ((2 ^ k : Nat) : Int) (h : Int) (g : Int) V = some V' ∧ (∀ q, q ≠ 232 → V' q = X q) ∧ (∀ t, t < h → V' 232 t = W 232 t) ∧ (-1 ≤ V' 232 h ∧ V' 232 h ≤ h) ∧ (∀ g', subX g' h → g'.testBit k = true → zS b n g' → W 232 (ndX h g') ≠ -1 → W 232 (ndX h g') + 1 ≤ V' 232 h) ∧ (V' 232 h = -1 ∨ ∃ g', subX g' h ∧ g'.testBit k = true ∧ zS b n g' ∧ W 232 (ndX h g') ≠ -1 ∧ V' 232 h = W 232 (ndX h g') + 1) := by
    intro h k hh hk hl W w1 w2 fuel
    have kn := bit_n hh hk
    have k2 : 2 ^ k < 1024 := Nat.lt_of_le_of_lt (sub_le (one_sub hk)) (by omega)
    induction fuel with
    | zero => intro g V e1; omega
    | succ fuel ih =>
      intro g V e1 e2 e3 e4 e5 e6 e7
      have gh := sub_le e2
      rw [M_mosts_L22, w32_n (show g ≤ 2147483647 by omega)]
      by_cases g0 : g = 0
      · subst g0
        rw [if_neg (by omega)]
        refine ⟨V, rfl, e3, e4, e5, fun g' a c d f => ?_, e7⟩
        refine e6 g' a ?_ c d f
        by_cases z : g' = 0
        · rw [z, Nat.zero_testBit] at c; exact absurd c (by decide)
        · omega
      · rw [if_pos (by omega)]
        -- next
        have nb : ia_ ((g : Int) - 1) (h : Int) = (((g - 1) &&& h : Nat) : Int) := by
          rw [show (g : Int) - 1 = ((g - 1 : Nat) : Int) by omega]
          exact ia_n (by omega) (by omega)
        have nsub : subX ((g - 1) &&& h) h := fun i hi => by
          rw [Nat.testBit_and] at hi
          cases e : h.testBit i
          · rw [e, Bool.and_false] at hi; exact absurd hi (by decide)
          · rfl
        have nlt : (g - 1) &&& h < g := Nat.lt_of_le_of_lt Nat.and_le_left (by omega)
        have cover : ∀ g', subX g' h → (g - 1) &&& h < g' → g' = g ∨ g < g' := fun g' a c => by
          by_cases z : g' < g
          · have := sub_next h g g' (sub_and e2) (sub_and a) z
            omega
          · omega
        -- with the new value
        have go : ∀ U : bz_Mm, (∀ q, q ≠ 232 → U q = X q) → (∀ t, t < h → U 232 t = W 232 t) → (-1 ≤ U 232 h ∧ U 232 h ≤ h) → V 232 h ≤ U 232 h → (g.testBit k = true → zS b n g → W 232 (ndX h g) ≠ -1 → W 232 (ndX h g) + 1 ≤ U 232 h) → (U 232 h = V 232 h ∨ (g.testBit k = true ∧ zS b n g ∧ W 232 (ndX h g) ≠ -1 ∧ U 232 h = W 232 (ndX h g) + 1)) → ∃ V', (cl1_ (some U) fun m11 => lt_ (ia_ ((g : Int) - 1) (h : Int)) fun l3 => M_mosts_L22 F fuel ((2 ^ k : Nat) : Int) (h : Int) l3 m11) = some V' ∧ (∀ q, q ≠ 232 → V' q = X q) ∧ (∀ t, t < h → V' 232 t = W 232 t) ∧ (-1 ≤ V' 232 h ∧ V' 232 h ≤ h) ∧ (∀ g', subX g' h → g'.testBit k = true → zS b n g' → W 232 (ndX h g') ≠ -1 → W 232 (ndX h g') + 1 ≤ V' 232 h) ∧ (V' 232 h = -1 ∨ ∃ g', subX g' h ∧ g'.testBit k = true ∧ zS b n g' ∧ W 232 (ndX h g') ≠ -1 ∧ V' 232 h = W 232 (ndX h g') + 1) := fun U u1 u2 u3 u4 u5 u6 => by
          rw [cl1_s, lt_x, nb]
          refine ih _ U (by omega) nsub u1 u2 u3 (fun g' a c d f l => ?_) ?_
          · rcases cover g' a c with z | z
            · subst z; exact u5 d f l
            · exact Int.le_trans (e6 g' a z d f l) u4
          · rcases u6 with z | ⟨z1, z2, z3, z4⟩
            · rw [z]; exact e7
            · exact Or.inr ⟨g, e2, z1, z2, z3, z4⟩
        have lowg : w32 (ia_ (g : Int) ((2 ^ k : Nat) : Int)) = 0 ↔ g.testBit k = false := by
          rw [ia_n (by omega) (by omega), w32_n (Nat.le_trans Nat.and_le_left (by omega))]
          rw [← and_one]
          omega
        by_cases c1 : g.testBit k = true
        · rw [if_neg (fun q => by rw [lowg.mp q] at c1; exact absurd c1 (by decide)), rd_s (by omega) (by decide), e3 233 (by decide), hs g (by omega)]
          have lt := nd_lt e2 c1
          have ndn : ia_ (h : Int) (ix_ (g : Int) (-1)) = ((ndX h g : Nat) : Int) := ian_n (by omega) (by omega)
          have rg := BEp.r w2 lt
          by_cases c2 : w64 (sB b n g) = 0
          · rw [if_pos c2, ndn, rd_s (by omega) (by decide), e4 _ lt, w32_id (x := W 232 (ndX h g)) (by omega) (by omega)]
            by_cases c3 : W 232 (ndX h g) = -1
            · rw [if_pos c3]
              exact go V e3 e4 e5 (Int.le_refl _) (fun _ _ z => absurd c3 z) (Or.inl rfl)
            · rw [if_neg c3, rd_s (by omega) (by decide), rd_s (by omega) (by decide), e4 _ lt, w32_id (x := V 232 h) (by omega) (by omega), w32_id (x := W 232 (ndX h g) + 1) (by omega) (by omega)]
              by_cases c4 : V 232 h < W 232 (ndX h g) + 1
              · rw [if_pos c4, rd_s (by omega) (by decide), e4 _ lt, wa_s (by omega) (by decide)]
                have sv : st_ V 232 h (W 232 (ndX h g) + 1) 232 h = W 232 (ndX h g) + 1 := by rw [st_eq, ud_eq]
                refine go _ (fun q hq => by rw [st_ne hq]; exact e3 q hq) (fun t ht => by rw [st_eq, ud_ne (by omega)]; exact e4 t ht) ?_ ?_ ?_ ?_
                · rw [sv]; omega
                · rw [sv]; omega
                · rw [sv]; exact fun _ _ _ => Int.le_refl _
                · rw [sv]; exact Or.inr ⟨c1, c2, c3, rfl⟩
              · rw [if_neg c4]
                exact go V e3 e4 e5 (Int.le_refl _) (fun _ _ _ => by omega) (Or.inl rfl)
          · rw [if_neg c2]
            exact go V e3 e4 e5 (Int.le_refl _) (fun _ z _ => absurd z c2) (Or.inl rfl)
        · have c1' : g.testBit k = false := by cases e : g.testBit k
                                               · rfl
                                               · exact absurd e c1
          rw [if_pos (lowg.mpr c1')]
          exact go V e3 e4 e5 (Int.le_refl _) (fun z => absurd z c1) (Or.inl rfl)
  have outer : ∀ (m fuel h : Nat) (W : bz_Mm), h + m = 2 ^ n → m < fuel → (∀ q, q ≠ 232 → W q = X q) → (h = 0 ∨ BEp b n h (W 232)) → ∃ W', M_settles_L151 F fuel (h : Int) W = some W' ∧ (∀ q, q ≠ 232 → W' q = X q) ∧ BEp b n (2 ^ n) (W' 232) := by
    intro m
    induction m with
    | zero =>
      intro fuel h W e1 e2 e3 e4
      obtain ⟨fuel, rfl⟩ : ∃ j, fuel = j + 1 := ⟨fuel - 1, by omega⟩
      have e : h = 2 ^ n := by omega
      have one : 1 ≤ 2 ^ n := Nat.one_le_two_pow
      refine ⟨W, ?_, e3, ?_⟩
      · rw [M_settles_L151, e3 81 (by decide), h74, sl_b hn, w32_n (show h ≤ 2147483647 by omega), w32_n (show 2 ^ n ≤ 2147483647 by omega), if_neg (by omega)]
      · rcases e4 with z | z
        · omega
        · rw [← e]; exact z
    | succ m ih =>
      intro fuel h W e1 e2 e3 e4
      obtain ⟨fuel, rfl⟩ : ∃ j, fuel = j + 1 := ⟨fuel - 1, by omega⟩
      have e : (h : Int) + 1 = ((h + 1 : Nat) : Int) := by omega
      rw [M_settles_L151, e3 81 (by decide), h74, sl_b hn, w32_n (show h ≤ 2147483647 by omega), w32_n (show 2 ^ n ≤ 2147483647 by omega), if_pos (by omega), e]
      by_cases h0 : h = 0
      · subst h0
        have ms : fM_mosts F W ((0 : Nat) : Int) = some (st_ W 232 0 0) := by
          obtain ⟨F', rfl⟩ : ∃ j, F = j + 1 := ⟨F - 1, by omega⟩
          unfold fM_mosts
          rw [show w32 ((0 : Nat) : Int) = 0 from by decide, if_pos rfl, cl1_s, wa_s (by decide) (by decide), lt_x, M_mosts_L22, show w32 ((0 : Nat) : Int) = 0 from by decide, if_neg (by decide), cl1_s]
        rw [ms, cl_s]
        refine ih fuel 1 _ (by omega) (by omega) (fun q hq => by rw [st_ne hq]; exact e3 q hq) (Or.inr ⟨by rw [st_eq, ud_eq], fun s k hs' hk => ?_⟩)
        rw [show s = 0 by omega, Nat.zero_testBit] at hk
        exact absurd hk (by decide)
      · have hB : BEp b n h (W 232) := by
          rcases e4 with z | z
          · exact absurd z h0
          · exact z
        obtain ⟨k, k1, k2, k3, k4⟩ := low_b (show h < 1024 by omega) h0
        have sv : st_ W 232 h (-1) 232 h = -1 := by rw [st_eq, ud_eq]
        obtain ⟨V', i1, i2, i3, i4, i5, i6⟩ := inner h k (by omega) k2 k3 W e3 hB F h (st_ W 232 h (-1)) (by omega) (fun _ z => z) (fun q hq => by rw [st_ne hq]; exact e3 q hq) (fun t ht => by rw [st_eq, ud_ne (by omega)]) (by rw [sv]; omega) (fun g' a c => by have := sub_le a; omega) (Or.inl sv)
        have ms : fM_mosts F W (h : Int) = some V' := by
          unfold fM_mosts
          rw [w32_n (show h ≤ 2147483647 by omega), if_neg (by omega), cl1_s, wa_s (by omega) (by decide), lt_x, k4, i1, cl1_s]
        rw [ms, cl_s]
        refine ih fuel (h + 1) _ (by omega) (by omega) i2 (Or.inr ⟨by rw [i3 0 (by omega)]; exact hB.1, fun s j hs' hj hl => ?_⟩)
        by_cases q : s = h
        · subst q
          have ej : j = k := by
            rcases Nat.lt_trichotomy j k with z | z | z
            · rw [k3 j z] at hj; exact absurd hj (by decide)
            · exact z
            · rw [hl k z] at k2; exact absurd k2 (by decide)
          subst ej
          refine ⟨i4, fun g a c d f => ?_, ?_⟩
          · rw [i3 _ (nd_lt a c)] at f ⊢
            exact i5 g a c d f
          · rcases i6 with z | ⟨g, a, c, d, f, l⟩
            · exact Or.inl z
            · exact Or.inr ⟨g, a, c, d, by rw [i3 _ (nd_lt a c)]; exact f, by rw [i3 _ (nd_lt a c)]; exact l⟩
        · have sl : s < h := by omega
          obtain ⟨f1, f2, f3⟩ := hB.2 s j sl hj hl
          rw [i3 s sl]
          refine ⟨f1, fun g a c d f => ?_, ?_⟩
          · rw [i3 _ (Nat.lt_trans (nd_lt a c) sl)] at f ⊢
            exact f2 g a c d f
          · rcases f3 with z | ⟨g, a, c, d, f, l⟩
            · exact Or.inl z
            · exact Or.inr ⟨g, a, c, d, by rw [i3 _ (Nat.lt_trans (nd_lt a c) sl)]; exact f, by rw [i3 _ (Nat.lt_trans (nd_lt a c) sl)]; exact l⟩
  exact outer (2 ^ n) F 0 X (by omega) (by omega) (fun _ _ => rfl) (Or.inl rfl)
