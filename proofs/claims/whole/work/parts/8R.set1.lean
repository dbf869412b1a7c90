/-! the class counts heaps -/
def MOp (b : Nat → Int) (n lim : Nat) (mo : Nat → Int) : Prop := mo 0 = 0 ∧ ∀ s, s ≠ 0 → s < lim → (0 ≤ mo s ∧ mo s ≤ s) ∧ (∀ i, s.testBit i = true → mo (ndX s (2 ^ i)) ≤ mo s ∧ (zS b n s → mo (ndX s (2 ^ i)) + 1 ≤ mo s)) ∧ ∃ i, s.testBit i = true ∧ (zS b n s → mo s = mo (ndX s (2 ^ i)) + 1) ∧ (¬ zS b n s → mo s = mo (ndX s (2 ^ i)))
theorem MOp.mo {b : Nat → Int} {n : Nat} {mo : Nat → Int} (h : MOp b n (2 ^ n) mo) : MO b n mo := ⟨h.1, fun s s0 hs => (h.2 s s0 hs).2⟩
theorem p10 {n : Nat} (h : n ≤ 10) : 2 ^ n ≤ 1024 := Nat.pow_le_pow_right (by decide) h
theorem u_count {F n : Nat} {X : bz_Mm} {b : Nat → Int} (hF : 1100 < F) (hn : n ≤ 10) (h8 : X 69 8 = n) (hb : ∀ i, i < n → X 74 i = b i) : ∃ X', fUG_countHeaps F X = some X' ∧ (∀ q, q ≠ 75 → q ≠ 76 → X' q = X q) ∧ (∀ s, s < 2 ^ n → X' 75 s = sB b n s) ∧ MOp b n (2 ^ n) (X' 76) := by
  have pn := p10 hn
  -- one set
  have inner : ∀ (s : Nat), s ≠ 0 → s < 2 ^ n → ∀ W : bz_Mm, (∀ q, q ≠ 75 → q ≠ 76 → W q = X q) → (∀ t, t < s → W 75 t = sB b n t) → MOp b n s (W 76) → ∃ (W' : bz_Mm) (best : Int), UG_countHeaps_L30 F F (s : Int) 0 0 W = some (best, W') ∧ (∀ q, q ≠ 75 → W' q = W q) ∧ (∀ t, t < s → W' 75 t = sB b n t) ∧ W' 75 s = sB b n s ∧ (0 ≤ best ∧ best < s) ∧ (∀ i, s.testBit i = true → W 76 (ndX s (2 ^ i)) ≤ best) ∧ ∃ i, s.testBit i = true ∧ best = W 76 (ndX s (2 ^ i)) := by
    intro s s0 hs W w1 w2 w3
    have key : ∀ (m fuel i : Nat) (best : Int) (V : bz_Mm), i + m = n → m < fuel → (∀ q, q ≠ 75 → V q = W q) → (∀ t, t < s → V 75 t = sB b n t) → (0 ≤ best ∧ best < s) → (∀ j, j < i → s.testBit j = true → W 76 (ndX s (2 ^ j)) ≤ best ∧ V 75 s = sB b n s) → (best = 0 ∨ ∃ j, j < i ∧ s.testBit j = true ∧ best = W 76 (ndX s (2 ^ j))) → ∃ (W' : bz_Mm) (best' : Int), UG_countHeaps_L30 F fuel (s : Int) (i : Int) best V = some (best', W') ∧ (∀ q, q ≠ 75 → W' q = W q) ∧ (∀ t, t < s → W' 75 t = sB b n t) ∧ (0 ≤ best' ∧ best' < s) ∧ (∀ j, j < n → s.testBit j = true → W 76 (ndX s (2 ^ j)) ≤ best' ∧ W' 75 s = sB b n s) ∧ (best' = 0 ∨ ∃ j, j < n ∧ s.testBit j = true ∧ best' = W 76 (ndX s (2 ^ j))) := by
      intro m
      induction m with
      | zero =>
        intro fuel i best V e1 e2 e3 e4 e5 e6 e7
        obtain ⟨fuel, rfl⟩ : ∃ j, fuel = j + 1 := ⟨fuel - 1, by omega⟩
        have e : i = n := by omega
        subst e
        refine ⟨V, best, ?_, e3, e4, e5, e6, e7⟩
        rw [UG_countHeaps_L30, e3 69 (by decide), w1 69 (by decide) (by decide), h8, w32_n (show i ≤ 2147483647 by omega), if_neg (by omega)]
      | succ m ih =>
        intro fuel i best V e1 e2 e3 e4 e5 e6 e7
        obtain ⟨fuel, rfl⟩ : ∃ j, fuel = j + 1 := ⟨fuel - 1, by omega⟩
        have e : (i : Int) + 1 = ((i + 1 : Nat) : Int) := by omega
        rw [UG_countHeaps_L30, e3 69 (by decide), w1 69 (by decide) (by decide), h8, w32_n (show i ≤ 2147483647 by omega), w32_n (show n ≤ 2147483647 by omega), if_pos (by omega), sr_b (by omega) (by omega), e]
        by_cases c : s.testBit i = true
        · have os := one_sub c
          have ot : (2 ^ i).testBit i = true := by rw [one_t]; exact decide_eq_true rfl
          have lt := nd_lt os ot
          have p2 : 2 ^ i < 1024 := Nat.lt_of_le_of_lt (sub_le os) (by omega)
          have xr : ix_ (s : Int) (sl_ 1 (i : Int)) = ((ndX s (2 ^ i) : Nat) : Int) := by
            rw [sl_b (by omega), ix_n (by omega) p2, nd_xor os]
          have mr : 0 ≤ W 76 (ndX s (2 ^ i)) ∧ W 76 (ndX s (2 ^ i)) < s := by
            by_cases z : ndX s (2 ^ i) = 0
            · rw [z, w3.1]; omega
            · have := (w3.2 _ z lt).1; omega
          rw [if_pos c, w32_1p, if_neg (by decide), xr, rd_s (by omega) (by decide), e3 76 (by decide), lt_x, rd_s (by omega) (by decide), rd_s (by omega) (by decide), e3 74 (by decide), w1 74 (by decide) (by decide), hb i (by omega), wa_s (by omega) (by decide), e4 _ lt, uJM_max0 ⟨by omega, by omega⟩ ⟨by omega, by omega⟩]
          have sm : sB b n (ndX s (2 ^ i)) + b i = sB b n s := by
            rw [sB_nd b os, sB_1, if_pos (by omega)]; omega
          rw [sm]
          refine ih fuel (i + 1) _ _ (by omega) (by omega) (fun q hq => by rw [st_ne hq]; exact e3 q hq) (fun t ht => by rw [st_eq, ud_ne (by omega)]; exact e4 t ht) (by split <;> omega) (fun j hj hs' => ?_) ?_
          · refine ⟨?_, by rw [st_eq, ud_eq]⟩
            by_cases q : j = i
            · subst q; split <;> omega
            · have := (e6 j (by omega) hs').1
              split <;> omega
          · by_cases q : best < W 76 (ndX s (2 ^ i))
            · rw [if_pos q]; exact Or.inr ⟨i, by omega, c, rfl⟩
            · rw [if_neg q]
              rcases e7 with t | ⟨j, j1, j2, j3⟩
              · exact Or.inl t
              · exact Or.inr ⟨j, by omega, j2, j3⟩
        · rw [if_neg c, w32_0, if_pos rfl]
          refine ih fuel (i + 1) _ _ (by omega) (by omega) e3 e4 e5 (fun j hj hs' => ?_) ?_
          · by_cases q : j = i
            · subst q; exact absurd hs' c
            · exact e6 j (by omega) hs'
          · rcases e7 with t | ⟨j, j1, j2, j3⟩
            · exact Or.inl t
            · exact Or.inr ⟨j, by omega, j2, j3⟩
    obtain ⟨W', best, k1, k2, k3, k4, k5, k6⟩ := key n F 0 0 W (by omega) (by omega) (fun _ _ => rfl) w2 (by omega) (fun j hj => by omega) (Or.inl rfl)
    rw [show ((0 : Nat) : Int) = 0 from rfl] at k1
    obtain ⟨i0, i1⟩ := bit_ex s0
    have i2 := bit_n hs i1
    refine ⟨W', best, k1, k2, k3, (k5 i0 i2 i1).2, k4, fun i hi => (k5 i (bit_n hs hi) hi).1, ?_⟩
    rcases k6 with z | ⟨j, _, j2, j3⟩
    · refine ⟨i0, i1, ?_⟩
      have := (k5 i0 i2 i1).1
      have lt := nd_lt (one_sub i1) (show (2 ^ i0).testBit i0 = true by rw [one_t]; exact decide_eq_true rfl)
      have mr : 0 ≤ W 76 (ndX s (2 ^ i0)) := by
        by_cases q : ndX s (2 ^ i0) = 0
        · rw [q, w3.1]; exact Int.le_refl 0
        · exact (w3.2 _ q lt).1.1
      omega
    · exact ⟨j, j2, j3⟩
  -- all sets
  have outer : ∀ (m fuel s : Nat) (W : bz_Mm), 1 ≤ s → s + m = 2 ^ n → m < fuel → (∀ q, q ≠ 75 → q ≠ 76 → W q = X q) → (∀ t, t < s → W 75 t = sB b n t) → MOp b n s (W 76) → ∃ W', UG_countHeaps_L16 F fuel (s : Int) W = some W' ∧ (∀ q, q ≠ 75 → q ≠ 76 → W' q = X q) ∧ (∀ t, t < 2 ^ n → W' 75 t = sB b n t) ∧ MOp b n (2 ^ n) (W' 76) := by
    intro m
    induction m with
    | zero =>
      intro fuel s W e0 e1 e2 e3 e4 e5
      obtain ⟨fuel, rfl⟩ : ∃ j, fuel = j + 1 := ⟨fuel - 1, by omega⟩
      have e : s = 2 ^ n := by omega
      refine ⟨W, ?_, e3, by rw [← e]; exact e4, by rw [← e]; exact e5⟩
      rw [UG_countHeaps_L16, e3 69 (by decide) (by decide), h8, sl_b hn, w32_n (show s ≤ 2147483647 by omega), w32_n (show 2 ^ n ≤ 2147483647 by omega), if_neg (by omega)]
    | succ m ih =>
      intro fuel s W e0 e1 e2 e3 e4 e5
      obtain ⟨fuel, rfl⟩ : ∃ j, fuel = j + 1 := ⟨fuel - 1, by omega⟩
      have e : (s : Int) + 1 = ((s + 1 : Nat) : Int) := by omega
      obtain ⟨W', best, k1, k2, k3, k4, k5, k6, i0, i1, i2⟩ := inner s (by omega) (by omega) W e3 e4 e5
      have nx : ∀ v : Int, (zS b n s → v = best + 1) → (¬ zS b n s → v = best) → ∃ W'', UG_countHeaps_L16 F fuel ((s + 1 : Nat) : Int) (st_ W' 76 s v) = some W'' ∧ (∀ q, q ≠ 75 → q ≠ 76 → W'' q = X q) ∧ (∀ t, t < 2 ^ n → W'' 75 t = sB b n t) ∧ MOp b n (2 ^ n) (W'' 76) := fun v v1 v2 => by
        have oth : ∀ t, t < s → st_ W' 76 s v 76 t = W 76 t := fun t ht => by rw [st_eq, ud_ne (by omega), k2 76 (by decide)]
        have slf : st_ W' 76 s v 76 s = v := by rw [st_eq, ud_eq]
        refine ih fuel (s + 1) _ (by omega) (by omega) (by omega) (fun q a c => by rw [st_ne c, k2 q a]; exact e3 q a c) (fun t ht => ?_) ⟨by rw [oth 0 (by omega)]; exact e5.1, fun t t0 ht => ?_⟩
        · rw [st_ne (by decide)]
          by_cases q : t = s
          · rw [q]; exact k4
          · exact k3 t (by omega)
        · by_cases q : t = s
          · subst q
            rw [slf]
            have lo : ∀ i, t.testBit i = true → st_ W' 76 t v 76 (ndX t (2 ^ i)) = W 76 (ndX t (2 ^ i)) := fun i hi => oth _ (nd_lt (one_sub hi) (show (2 ^ i).testBit i = true by rw [one_t]; exact decide_eq_true rfl))
            refine ⟨?_, fun i hi => ?_, i0, i1, fun z => ?_, fun z => ?_⟩
            · by_cases z : zS b n t
              · rw [v1 z]; omega
              · rw [v2 z]; omega
            · rw [lo i hi]
              have := k6 i hi
              refine ⟨?_, fun z => by rw [v1 z]; omega⟩
              by_cases z : zS b n t
              · rw [v1 z]; omega
              · rw [v2 z]; omega
            · rw [lo i0 i1, v1 z, i2]
            · rw [lo i0 i1, v2 z, i2]
          · have tl : t < s := by omega
            obtain ⟨f1, f2, j0, f3, f4, f5⟩ := e5.2 t t0 tl
            have lo : ∀ i, t.testBit i = true → st_ W' 76 s v 76 (ndX t (2 ^ i)) = W 76 (ndX t (2 ^ i)) := fun i hi => oth _ (Nat.lt_trans (nd_lt (one_sub hi) (show (2 ^ i).testBit i = true by rw [one_t]; exact decide_eq_true rfl)) tl)
            rw [oth t tl]
            refine ⟨f1, fun i hi => by rw [lo i hi]; exact f2 i hi, j0, f3, ?_, ?_⟩
            · rw [lo j0 f3]; exact f4
            · rw [lo j0 f3]; exact f5
      rw [UG_countHeaps_L16, e3 69 (by decide) (by decide), h8, sl_b hn, w32_n (show s ≤ 2147483647 by omega), w32_n (show 2 ^ n ≤ 2147483647 by omega), if_pos (by omega), k1, cl2_s, rd_s (by omega) (by decide), k4, e]
      by_cases z : w64 (sB b n s) = 0
      · rw [if_pos z, wa_s (by omega) (by decide)]
        exact nx _ (fun _ => rfl) (fun q => absurd z q)
      · rw [if_neg z, wa_s (by omega) (by decide)]
        exact nx _ (fun q => absurd q z) (fun _ => rfl)
  have one : 1 ≤ 2 ^ n := Nat.one_le_two_pow
  obtain ⟨W', o1, o2, o3, o4⟩ := outer (2 ^ n - 1) F 1 (st_ (st_ X 75 0 0) 76 0 0) (Nat.le_refl 1) (by omega) (by omega) (fun q a c => by rw [st_ne c, st_ne a]) (fun t ht => by
    rw [st_ne (by decide), st_eq, show t = 0 by omega, ud_eq, sB_0]) ⟨by rw [st_eq, ud_eq], fun s s0 hs => by omega⟩
  rw [show ((1 : Nat) : Int) = 1 from rfl] at o1
  refine ⟨W', ?_, o2, o3, o4⟩
  unfold fUG_countHeaps
  rw [show (0 : Int) = ((0 : Nat) : Int) from rfl, wa_s (by decide) (by decide), wa_s (by decide) (by decide), show ((0 : Nat) : Int) = 0 from rfl, o1, cl1_s]
