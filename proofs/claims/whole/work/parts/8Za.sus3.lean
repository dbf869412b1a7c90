/-! whether a heap explains, both sides -/
def b2i (e : Bool) : Int := if e = true then 1 else 0
theorem u_agrees {F D nf now na : Nat} {M Mu : bz_Mm} {val : Nat → Int} (hF : 500 < F) (hA : IAu M nf now na) (hnf : nf ≤ 4) (hD : D < 260) (h77 : Mu 77 3 = na) (hr : ∀ q, 77 < q → q < 81 → Mu q = M q) (hv : ∀ a, a < na → M 228 a = D → Mu 56 ((M 227 a).toNat * 260 + D) = val a ∧ 0 ≤ val a ∧ val a ≤ 10000000) : ∃ e : Bool, fUA_agrees F Mu (D : Int) = some (b2i e) ∧ (e = true ↔ ∀ a, a < na → M 228 a = D → val a = M 229 a) := by
  obtain ⟨⟨a0, a1⟩, a2⟩ := hA
  have lp : ∀ (m fuel a : Nat), a + m = na → m < fuel → (∀ j, j < a → M 228 j = D → val j = M 229 j) → ∃ e : Bool, UA_agrees_L2 F fuel Mu (D : Int) (a : Int) = some (if e = true then .inr 0 else .inl 0) ∧ (e = true ↔ ∀ a, a < na → M 228 a = D → val a = M 229 a) := by
    intro m
    induction m with
    | zero =>
      intro fuel a e1 e2 e3
      obtain ⟨fuel, rfl⟩ : ∃ j, fuel = j + 1 := ⟨fuel - 1, by omega⟩
      have e : a = na := by omega
      subst e
      exact ⟨true, by rw [UA_agrees_L2, h77, w32_n (show a ≤ 2147483647 by omega), if_neg (by omega), if_pos rfl], ⟨fun _ => e3, fun _ => rfl⟩⟩
    | succ m ih =>
      intro fuel a e1 e2 e3
      obtain ⟨fuel, rfl⟩ : ∃ j, fuel = j + 1 := ⟨fuel - 1, by omega⟩
      have e : (a : Int) + 1 = ((a + 1 : Nat) : Int) := by omega
      obtain ⟨⟨b1, b2, b3⟩, b4, b5, b6⟩ := a2 a (by omega)
      rw [UA_agrees_L2, h77, w32_n (show a ≤ 2147483647 by omega), w32_n (show na ≤ 2147483647 by omega), if_pos (by omega), rd_s (by omega) (by decide), hr 79 (by decide) (by decide), b2, w32_id (x := M 228 a) (by omega) (by omega), w32_n (show D ≤ 2147483647 by omega), e]
      by_cases c : M 228 a = (D : Int)
      · obtain ⟨v1, v2⟩ := hv a (by omega) c
        have sl : fU_slot (M 227 a) (D : Int) = (((M 227 a).toNat * 260 + D : Nat) : Int) := by unfold fU_slot; omega
        rw [if_pos c, rd_s (by omega) (by decide), hr 78 (by decide) (by decide), b1, sl, rd_s (by omega) (by decide), v1, rd_s (by omega) (by decide), hr 80 (by decide) (by decide), b3, w32_id (x := val a) (by omega) (by omega), w32_id (x := M 229 a) (by omega) (by omega)]
        by_cases d : val a = M 229 a
        · rw [if_pos d]
          exact ih fuel (a + 1) (by omega) (by omega) (fun j hj q => by
            by_cases z : j = a
            · subst z; exact d
            · exact e3 j (by omega) q)
        · rw [if_neg d]
          exact ⟨false, by rw [if_neg (by decide)], ⟨fun q => absurd q (by decide), fun q => absurd (q a (by omega) c) d⟩⟩
      · rw [if_neg c]
        exact ih fuel (a + 1) (by omega) (by omega) (fun j hj q => by
          by_cases z : j = a
          · subst z; exact absurd q c
          · exact e3 j (by omega) q)
  obtain ⟨e, t1, t2⟩ := lp na F 0 (by omega) (by omega) (fun j hj => by omega)
  rw [show ((0 : Nat) : Int) = 0 from rfl] at t1
  refine ⟨e, ?_, t2⟩
  unfold fUA_agrees
  rw [t1]
  cases e
  · rw [if_neg (by decide), cs1_l]; rfl
  · rw [if_pos rfl, cs1_r]; rfl
theorem u_last {F nf now na : Nat} {M V : bz_Mm} {h : Int} (hF : 500 < F) (hA : IAu M nf now na) (h77 : V 77 3 = na) (hr : V 79 = M 79) : ∃ L : Nat, UA_explains_L6 F F V h 0 (-1) = some ((L : Int) - 1) ∧ (∀ a, a < na → M 228 a < L) ∧ L ≤ now ∧ L ≤ 260 := by
  obtain ⟨⟨a0, a1⟩, a2⟩ := hA
  have lq : ∀ (m fuel a L : Nat), a + m = na → m < fuel → (∀ j, j < a → M 228 j < L) → L ≤ now → L ≤ 260 → ∃ L' : Nat, UA_explains_L6 F fuel V h (a : Int) ((L : Int) - 1) = some ((L' : Int) - 1) ∧ (∀ a, a < na → M 228 a < L') ∧ L' ≤ now ∧ L' ≤ 260 := by
    intro m
    induction m with
    | zero =>
      intro fuel a L e1 e2 e3 e4 e5
      obtain ⟨fuel, rfl⟩ : ∃ j, fuel = j + 1 := ⟨fuel - 1, by omega⟩
      have e : a = na := by omega
      subst e
      exact ⟨L, by rw [UA_explains_L6, h77, w32_n (show a ≤ 2147483647 by omega), if_neg (by omega)], e3, e4, e5⟩
    | succ m ih =>
      intro fuel a L e1 e2 e3 e4 e5
      obtain ⟨fuel, rfl⟩ : ∃ j, fuel = j + 1 := ⟨fuel - 1, by omega⟩
      obtain ⟨⟨b1, b2, b3⟩, b4, b5, b6⟩ := a2 a (by omega)
      rw [UA_explains_L6, h77, w32_n (show a ≤ 2147483647 by omega), w32_n (show na ≤ 2147483647 by omega), if_pos (by omega), rd_s (by omega) (by decide), hr, b2, lt_x, uJM_max0 ⟨by omega, by omega⟩ ⟨by omega, by omega⟩, show (a : Int) + 1 = ((a + 1 : Nat) : Int) by omega]
      by_cases c : (L : Int) - 1 < M 228 a
      · rw [if_pos c]
        obtain ⟨d, hd⟩ : ∃ d : Nat, M 228 a = (d : Int) := ⟨(M 228 a).toNat, by omega⟩
        rw [hd, show (d : Int) = ((d + 1 : Nat) : Int) - 1 by omega]
        exact ih fuel (a + 1) (d + 1) (by omega) (by omega) (fun j hj => by
          by_cases z : j = a
          · subst z; omega
          · have := e3 j (by omega); omega) (by omega) (by omega)
      · rw [if_neg c]
        exact ih fuel (a + 1) L (by omega) (by omega) (fun j hj => by
          by_cases z : j = a
          · subst z; omega
          · exact e3 j (by omega)) e4 e5
  have := lq na F 0 0 (by omega) (by omega) (fun j hj => by omega) (by omega) (by omega)
  exact this
theorem ex_both {F : Nat} {M V Y : bz_Mm} {h n nf nt nd nl now ns na : Nat} (hF : 500 < F) (hI : IT M n nf nt nd nl now) (fV : FR n M V) (fY : FR n M Y) (h77 : V 77 3 = na) (hS : ISu M ns) (hA : IAu M nf now na) (hh : h < 2 ^ ns) : ∃ (e : Bool) (V' Y' : bz_Mm), fUA_explains F V (h : Int) = some (b2i e, V') ∧ fM_explains F Y (h : Int) = some (b2i e, Y') ∧ FR n M V' ∧ FR n M Y' ∧ (∀ q, 64 < q → V' q = V q) ∧ (∀ i, (i < nd → ¬ (opn (M 82) (M 106 i).toNat = true ∧ M 106 i < (now : Int))) → V' 42 i = V 42 i) ∧ (V' 53 18 = V 53 18 ∧ V' 53 17 = -1) ∧ (∀ j, j ≠ 61 → Y' 81 j = Y 81 j) ∧ (∀ q, (q < 81 ∨ 222 < q) → Y' q = Y q) ∧ (∃ X, KX M X h n ns now) ∧ ∀ X, KX M X h n ns now → (e = true ↔ EXP M X nf nt nd now na) := by
  have n260 := hI.1.2.2
  have nf4 := hI.2.1.2.2
  have ns7 := hS.1.2.2
  have hh2 : h < 1024 := Nat.lt_of_lt_of_le hh (Nat.le_trans (Nat.pow_le_pow_right (by decide) ns7) (by decide))
  obtain ⟨k1, k2, k3, k4, k5⟩ := kn_U hI
  have kr : r32 (knw now : Int) := ⟨by omega, by omega⟩
  have IV := hI.fr fV
  have IY := hI.fr fY
  have SY := hS.fr fY
  have SV := hS.fr fV
  have n400 : n ≤ 400 := hI.2.2.1.1.1.2
  obtain ⟨Y1, l1, l2, l3, l4, l5, l6⟩ := r_lays (F := F) (h := h) (l2 := Y 81 12) hF SY hh2 IY.2.2.1.2.1.1 n400 IY.1.2.1 n260
  have cl := cnB_le h ns 0
  -- what the reference walks over
  have rtY := IY.rt
  have y1r : ∀ q, q ≠ 81 → (q < 83 ∨ 87 < q) → Y1 q = Y q := l2
  have RT1 : RT nl nt nd Y1 := by
    obtain ⟨z1, z2, z3, z4, z5, z6, z7, z8, z9⟩ := rtY
    refine ⟨by rw [l3 19 (by decide)]; exact z1, by rw [l3 27 (by decide)]; exact z2, by rw [l3 35 (by decide)]; exact z3, by rw [l3 61 (by decide)]; exact z4, ?_, ?_, ?_, iv_la.c (fun q hq => y1r q (by omega) (by omega)) (l3 43 (by decide)) z8, ?_⟩
    · rw [y1r 97 (by decide) (by decide), y1r 98 (by decide) (by decide), y1r 99 (by decide) (by decide), y1r 102 (by decide) (by decide)]; exact z5
    · rw [y1r 103 (by decide) (by decide), y1r 104 (by decide) (by decide), y1r 105 (by decide) (by decide), y1r 106 (by decide) (by decide)]; exact z6
    · rw [y1r 92 (by decide) (by decide)]; exact z7
    · rw [y1r 82 (by decide) (by decide)]; exact z9
  have TE1 : TE (n + cnB h ns 0) Y1 := by
    obtain ⟨z1, z2, z3⟩ := IY.2.2.1.2
    refine ⟨⟨l4, by omega⟩, by rw [l3 61 (by decide)]; exact z2, fun t ht => ?_⟩
    by_cases c : t < n
    · rw [l5 83 t (by decide) (by decide) c, l5 84 t (by decide) (by decide) c, l5 85 t (by decide) (by decide) c, l5 87 t (by decide) (by decide) c]; exact z3 t c
    · obtain ⟨i, i1, i2, i3⟩ := cnB_ex h ns (t - n) (by omega)
      have et : n + cnB h i 0 = t := by omega
      obtain ⟨p1, p2, p3, p4, p5⟩ := l6 i i1 i2
      obtain ⟨_, q2, q3, q4⟩ := SY.2 i i1
      rw [et] at p1 p2 p3 p4 p5
      rw [p1, p2, p3, p5]
      unfold p_subj at q2
      exact ⟨⟨by omega, by omega⟩, ⟨by omega, by omega⟩, kr, q3⟩
  obtain ⟨X, x1, x2, x3, x4, x5, x6⟩ := r_through (F := F) (how := 0) (N := now) (k := (knw now : Int)) hF kr n260 (by decide) RT1 TE1 (show Y1 81 19 = nf by rw [l3 19 (by decide)]; exact IY.2.1.2.1)
  rw [wlk_0] at x6
  have lo : fM_lastOver Y1 (knw now : Int) = (now : Int) - 1 := by
    have e0 : Y1 81 0 = now := by rw [l3 0 (by decide)]; exact IY.1.2.1
    rw [lastN_M (by rw [e0]; omega) (by omega), e0, k5]
  have kn1 : fM_known0 Y1 = (knw now : Int) := by
    have : fM_known0 Y1 = fM_known0 Y := by unfold fM_known0; rw [l3 0 (by decide)]
    rw [this]; exact (kn_U IY).2.1
  have hKX : KX M X h n ns now := by
    refine ⟨fun q hq => by rw [x3 q (by omega) (by omega), y1r q (by omega) (by omega)]; exact fY.1 q (by omega), ⟨by rw [x4, ud_eq], by rw [x4, ud_ne (by decide), l3 43 (by decide)]; exact fY.2.2.1 43 (by decide)⟩, fun q t a b c => by rw [x3 q (by omega) (by omega), l5 q t a b c]; exact fY.2.1 q t a b c, fun i i1 i2 => ?_, x2.s (fun q t a b _ => by rw [x3 q (by omega) (by omega)])⟩
    obtain ⟨p1, p2, p3, p4, p5⟩ := l6 i i1 i2
    rw [x3 83 (by decide) (by decide), x3 84 (by decide) (by decide), x3 85 (by decide) (by decide), x3 86 (by decide) (by decide), x3 87 (by decide) (by decide), p1, p2, p3, p4, p5, fY.1 88 (by decide), fY.1 89 (by decide), fY.1 90 (by decide), fY.1 91 (by decide)]
    exact ⟨rfl, rfl, rfl, rfl, rfl⟩
  -- the class
  have stg := hKX.stg hI fV
  obtain ⟨L, la1, la2, la3, la4⟩ := u_last (F := F) (h := (h : Int)) (V := V) hF hA h77 (fV.1 79 (by decide))
  obtain ⟨Ms, m1, m2, m3, m4, m5, m6⟩ := sd_start_h (F := F) (by omega) stg (fun g hg => by rw [hKX.1 93 (by decide), ← fV.1 93 (by decide)]; exact IV.2.2.2.2.2.2.2.2.2.2.2.1 g hg)
  have suM : SU Ms X n (knw now : Int) h ns := by
    refine ⟨⟨by rw [m2 17 (by decide)]; exact SV.1.1, ns7⟩, fun i i1 i2 => ?_⟩
    obtain ⟨p1, p2, p3, p4, p5⟩ := hKX.2.2.2.1 i i1 i2
    obtain ⟨⟨q1, q2, q3, q4⟩, q5, q6, q7⟩ := hS.2 i i1
    rw [m2 20 (by decide), m2 21 (by decide), m2 18 (by decide), m2 22 (by decide), fV.1 20 (by decide), fV.1 21 (by decide), fV.1 18 (by decide), fV.1 22 (by decide), p1, p2, p3, p4, p5]
    exact ⟨⟨q1, q2, q3, q4⟩, q5, Int.le_refl _, q6⟩
  have hsj : ∀ t, t < n + cnB h ns 0 → p_subj (X 83 t) (X 84 t) := fun t ht => by
    by_cases c : t < n
    · rw [hKX.2.2.1 83 t (by decide) (by decide) c, hKX.2.2.1 84 t (by decide) (by decide) c]; exact (hI.2.2.1.1.2.2 t c).2.1
    · obtain ⟨i, i1, i2, i3⟩ := cnB_ex h ns (t - n) (by omega)
      have et : n + cnB h i 0 = t := by omega
      obtain ⟨p1, p2, _⟩ := hKX.2.2.2.1 i i1 i2
      rw [et] at p1 p2
      rw [p1, p2]; exact (hS.2 i i1).2.1
  have lpU : ∀ (m fuel D : Nat) (Mu : bz_Mm), D + m = L → m < fuel → SDh X Ms (knw now : Int) (n + cnB h ns 0) n nf nt nd D Mu (wlk nf nt nd 0 D X) (wlk nf nt nd 1 D X) → (∀ a, a < na → M 228 a < (D : Int) → (wlk nf nt nd 0 now X (196 + (M 227 a).toNat) (M 228 a).toNat = M 229 a)) → (∀ a, a < na → M 228 a < (D : Int) → 0 ≤ wlk nf nt nd 0 now X (196 + (M 227 a).toNat) (M 228 a).toNat ∧ wlk nf nt nd 0 now X (196 + (M 227 a).toNat) (M 228 a).toNat ≤ 10000000) → ∃ (e : Bool) (V' : bz_Mm), UA_explains_L43 F fuel ((L : Int) - 1) (h : Int) (D : Int) Mu = some (if e = true then .inr V' else .inl (0, V')) ∧ (e = true → EXP M X nf nt nd now na) ∧ (e = false → ∃ a, a < na ∧ (0 ≤ wlk nf nt nd 0 now X (196 + (M 227 a).toNat) (M 228 a).toNat ∧ wlk nf nt nd 0 now X (196 + (M 227 a).toNat) (M 228 a).toNat ≤ 10000000) ∧ wlk nf nt nd 0 now X (196 + (M 227 a).toNat) (M 228 a).toNat ≠ M 229 a) ∧ (∀ q, q ≠ 42 → (q < 53 ∨ 64 < q) → V' q = Ms q) ∧ (∀ j, (j < 11 ∨ 16 < j) → V' 53 j = Ms 53 j) ∧ ∀ i, (i < nd → ¬ (opn (M 82) (M 106 i).toNat = true ∧ M 106 i < (now : Int))) → V' 42 i = Ms 42 i := by
    clear l1 lo kn1 k1 k2 la1 m1 x1 x6
    intro m
    induction m with
    | zero =>
      intro fuel D Mu e1 e2 e3 e4 e5
      obtain ⟨fuel, rfl⟩ : ∃ j, fuel = j + 1 := ⟨fuel - 1, by omega⟩
      refine ⟨true, Mu, ?_, fun _ a ha => e4 a ha (by have := la2 a ha; omega), fun q => absurd q (by decide), e3.1.1, e3.2.2.2.2.2, fun i hz0 => ?_⟩
      · rw [UA_explains_L43, w32_id (x := (L : Int) - 1) (by omega) (by omega), w32_n (show D ≤ 2147483647 by omega), if_pos (by omega), if_pos rfl]
      · by_cases hi : i < nd
        case neg => exact e3.1.2.2.2.2.2.2.2.2.2.2 i (Nat.le_of_not_lt hi)
        have hz := hz0 hi
        refine ((e3.1.2.2.2.2.2.2.2.2.2.1 i hi).2 (fun q => hz ?_)).2.2
        obtain ⟨q1, q2⟩ := q
        rw [hKX.1 82 (by decide), hKX.1 106 (by decide)] at q1
        rw [hKX.1 106 (by decide), hKX.1 104 (by decide)] at q2
        have := (hI.2.2.2.2.1.1.2.2 i hi).2.2.1.1
        exact ⟨q1, by omega⟩
    | succ m ih =>
      intro fuel D Mu e1 e2 e3 e4 e5
      obtain ⟨fuel, rfl⟩ : ∃ j, fuel = j + 1 := ⟨fuel - 1, by omega⟩
      obtain ⟨Mu', p1, p2⟩ := uUC_passDay_h (F := F) hF (show D < 260 by omega) (show D < now by omega) m5 hh2 suM rfl hsj e3
      rw [← wlk_S, ← wlk_S] at p2
      have lk : fUS_latestKnown Mu = (knw now : Int) := by
        have : Mu 1 = V 1 := by rw [e3.1.1 1 (by decide) (by decide), m2 1 (by decide)]
        have q : fUS_latestKnown Mu = fUS_latestKnown V := by unfold fUS_latestKnown; rw [this]
        rw [q]; exact (kn_U IV).1
      have p0 := p2
      obtain ⟨⟨s1, s2, s3, s4, s5, s6, s7, s8, s9, s10, s11⟩, _, _, _, _, sj⟩ := p2
      have v' : ∀ a, a < na → M 228 a = D → Mu' 56 ((M 227 a).toNat * 260 + D) = wlk nf nt nd 0 now X (196 + (M 227 a).toNat) (M 228 a).toNat ∧ 0 ≤ wlk nf nt nd 0 now X (196 + (M 227 a).toNat) (M 228 a).toNat ∧ wlk nf nt nd 0 now X (196 + (M 227 a).toNat) (M 228 a).toNat ≤ 10000000 := fun a ha q => by
        obtain ⟨_, b2, b3, _⟩ := hA.2 a ha
        have ed : (M 228 a).toNat = D := by omega
        obtain ⟨z1, z2, z3, z4⟩ := s9 (M 227 a).toNat D (by omega) (Or.inl (by omega)) (by rw [hKX.1 82 (by decide), ← ed]; exact b3.2.2.2)
        obtain ⟨c, hc⟩ : ∃ c, now = (D + 1) + c := ⟨now - (D + 1), by omega⟩
        have pr := (wlk_pre (nf := nf) (nt := nt) (nd := nd) (bk := 0) (K := X) nf4 (g := (M 227 a).toNat) (d := D) (N := D + 1) (by omega) (by omega) c).1
        rw [← hc] at pr
        rw [ed, pr]
        exact ⟨z1, by rw [← z1]; exact z3, by rw [← z1]; exact z4⟩
      obtain ⟨e, g1, g2⟩ := u_agrees (F := F) (D := D) (M := M) (Mu := Mu') (val := fun a => wlk nf nt nd 0 now X (196 + (M 227 a).toNat) (M 228 a).toNat) hF hA nf4 (by omega) (by rw [s1 77 (by decide) (by decide), m2 77 (by decide)]; exact h77) (fun q a b => by rw [s1 q (by omega) (by omega), m2 q (by omega)]; exact fV.1 q (by omega)) v'
      rw [UA_explains_L43, w32_id (x := (L : Int) - 1) (by omega) (by omega), w32_n (show D ≤ 2147483647 by omega), if_neg (by omega), lk, p1, cl_s, g1, cl_s, show (D : Int) + 1 = ((D + 1 : Nat) : Int) by omega]
      cases e
      · rw [show b2i false = 0 from rfl, w32_0, if_pos rfl]
        refine ⟨false, Mu', by rw [if_neg (by decide)], fun q => absurd q (by decide), fun _ => ?_, s1, sj, fun i hz0 => ?_⟩
        · by_cases all : ∀ a, a < na → M 228 a = D → wlk nf nt nd 0 now X (196 + (M 227 a).toNat) (M 228 a).toNat = M 229 a
          · exact absurd (g2.mpr all) (by decide)
          · obtain ⟨a, ha⟩ := Classical.not_forall.mp all
            have h1 : a < na := Classical.byContradiction (fun q => ha (fun w => absurd w q))
            have h2 : M 228 a = D := Classical.byContradiction (fun q => ha (fun _ w => absurd w q))
            exact ⟨a, h1, (v' a h1 h2).2, fun q => ha (fun _ _ => q)⟩
        · by_cases hi : i < nd
          case neg => exact s11 i (Nat.le_of_not_lt hi)
          have hz := hz0 hi
          refine ((s10 i hi).2 (fun q => hz ?_)).2.2
          obtain ⟨q1, q2⟩ := q
          rw [hKX.1 82 (by decide), hKX.1 106 (by decide)] at q1
          rw [hKX.1 106 (by decide), hKX.1 104 (by decide)] at q2
          have := (hI.2.2.2.2.1.1.2.2 i hi).2.2.1.1
          exact ⟨q1, by omega⟩
      · rw [show b2i true = 1 from rfl, w32_1p, if_neg (by decide)]
        have ag := g2.mp rfl
        refine ih fuel (D + 1) Mu' (by omega) (by omega) p0 (fun a ha q => ?_) (fun a ha q => ?_)
        · by_cases z : M 228 a = D
          · exact ag a ha z
          · exact e4 a ha (by omega)
        · by_cases z : M 228 a = D
          · exact (v' a ha z).2
          · exact e5 a ha (by omega)
  obtain ⟨e, V', t1, t2, t3, t4, t5, t6⟩ := lpU L F 0 Ms (by omega) (by omega) m6 (fun a ha q => by have := (hA.2 a ha).2.2.1.1; omega) (fun a ha q => by have := (hA.2 a ha).2.2.1.1; omega)
  rw [show ((0 : Nat) : Int) = 0 from rfl] at t1
  -- the reference compares
  have wlo := fun q hq => wlk_o (nf := nf) (nt := nt) (nd := nd) (bk := 0) (K := X) nf4 now q hq
  have m8r : ∀ q, q ≠ 81 → st_ (wlk nf nt nd 0 now X) 81 12 (Y 81 12) q = wlk nf nt nd 0 now X q := fun q hq => st_ne hq
  have m81 : ∀ j, j ≠ 61 → st_ (wlk nf nt nd 0 now X) 81 12 (Y 81 12) 81 j = Y 81 j := fun j hj => by
    rw [st_eq]
    by_cases c : j = 12
    · rw [c, ud_eq]
    · rw [ud_ne c, wlo 81 (by omega), x4, ud_ne hj, l3 j c]
  have m8Y : ∀ q, q ≠ 81 → (q < 83 ∨ (87 < q ∧ q < 158) ∨ (210 < q ∧ q < 221) ∨ 222 < q) → st_ (wlk nf nt nd 0 now X) 81 12 (Y 81 12) q = Y q := fun q h1 h2 => by rw [m8r q h1, wlo q (by omega), x3 q h1 (by omega), y1r q h1 (by omega)]
  have rv85 : ∃ r : Bool, M_explains_L85 F F (st_ (wlk nf nt nd 0 now X) 81 12 (Y 81 12)) 0 1 = some (b2i r) ∧ (r = true ↔ ∀ a, a < na → w64 (wlk nf nt nd 0 now X (196 + (M 227 a).toNat) (M 228 a).toNat) = M 229 a) := by
    obtain ⟨⟨a0, a1⟩, a2⟩ := hA
    have e69 : st_ (wlk nf nt nd 0 now X) 81 12 (Y 81 12) 81 69 = na := by rw [m81 69 (by decide), fY.2.2.1 69 (by decide)]; exact a0
    have lp : ∀ (m fuel a : Nat) (r0 : Bool), a + m = na → m < fuel → (r0 = true ↔ ∀ j, j < a → w64 (wlk nf nt nd 0 now X (196 + (M 227 j).toNat) (M 228 j).toNat) = M 229 j) → ∃ r : Bool, M_explains_L85 F fuel (st_ (wlk nf nt nd 0 now X) 81 12 (Y 81 12)) (a : Int) (b2i r0) = some (b2i r) ∧ (r = true ↔ ∀ a, a < na → w64 (wlk nf nt nd 0 now X (196 + (M 227 a).toNat) (M 228 a).toNat) = M 229 a) := by
      intro m
      induction m with
      | zero =>
        intro fuel a r0 e1 e2 e3
        obtain ⟨fuel, rfl⟩ : ∃ j, fuel = j + 1 := ⟨fuel - 1, by omega⟩
        have e : a = na := by omega
        subst e
        exact ⟨r0, by rw [M_explains_L85, e69, w32_n (show a ≤ 2147483647 by omega), if_neg (by omega)], e3⟩
      | succ m ih =>
        intro fuel a r0 e1 e2 e3
        obtain ⟨fuel, rfl⟩ : ∃ j, fuel = j + 1 := ⟨fuel - 1, by omega⟩
        obtain ⟨⟨b1, b2, b3⟩, b4, b5, b6⟩ := a2 a (by omega)
        have ee : (a : Int) + 1 = ((a + 1 : Nat) : Int) := by omega
        rw [M_explains_L85, e69, w32_n (show a ≤ 2147483647 by omega), w32_n (show na ≤ 2147483647 by omega), if_pos (by omega), ee]
        cases r0
        · rw [show w32 (b2i false) = 0 from by decide, if_pos rfl, show (0 : Int) = b2i false from rfl]
          refine ih fuel (a + 1) false (by omega) (by omega) ⟨fun q => absurd q (by decide), fun q => e3.mpr (fun j hj => q j (by omega))⟩
        · rw [show w32 (b2i true) = 1 from by decide, if_neg (by decide), rd_s (by omega) (by decide), m8Y 227 (by decide) (by omega), fY.1 227 (by decide), ra_i b4.1 (by omega) (by decide), rd_s (by omega) (by decide), m8Y 228 (by decide) (by omega), fY.1 228 (by decide), rd_i b5.1 (by omega) (by decide), rd_s (by omega) (by decide), m8Y 229 (by decide) (by omega), fY.1 229 (by decide), m8r (196 + (M 227 a).toNat) (by omega), w32_id (x := M 229 a) (by omega) (by omega), w64_id (x := M 229 a) (by omega) (by omega)]
          have al := e3.mp rfl
          by_cases c : w64 (wlk nf nt nd 0 now X (196 + (M 227 a).toNat) (M 228 a).toNat) = M 229 a
          · rw [if_pos c, show (1 : Int) = b2i true from rfl]
            refine ih fuel (a + 1) true (by omega) (by omega) ⟨fun _ j hj => ?_, fun _ => rfl⟩
            by_cases z : j = a
            · subst z; exact c
            · exact al j (by omega)
          · rw [if_neg c, show (0 : Int) = b2i false from rfl]
            exact ih fuel (a + 1) false (by omega) (by omega) ⟨fun q => absurd q (by decide), fun q => absurd (q a (by omega)) c⟩
    exact lp na F 0 true (by omega) (by omega) ⟨fun _ j hj => by omega, fun _ => rfl⟩
  obtain ⟨r, r1, r2⟩ := rv85
  have er : r = e := by
    cases e
    · obtain ⟨a, a1, a2, a3⟩ := t3 rfl
      cases hr : r
      · rfl
      · have := (r2.mp hr) a a1
        rw [w64_id (by omega) (by omega)] at this
        exact absurd this a3
    · have := t2 rfl
      refine r2.mpr (fun a ha => ?_)
      rw [this a ha]
      have := (hA.2 a ha).2.2.2
      exact w64_id (by omega) (by omega)
  have eE : e = true ↔ EXP M X nf nt nd now na := ⟨t2, fun q => by
    cases he : e
    · obtain ⟨a, a1, _, a3⟩ := t3 he
      exact absurd (q a a1) a3
    · rfl⟩
  refine ⟨e, V', st_ (wlk nf nt nd 0 now X) 81 12 (Y 81 12), ?_, ?_, ?_, ?_, fun q hq => by rw [t4 q (by omega) (by omega)]; exact m2 q (by omega), fun i hz => by rw [t6 i hz, m2 42 (by decide)], ⟨by rw [t5 18 (by decide)]; exact m3 18 (by decide), by rw [t5 17 (by decide)]; exact m4⟩, m81, fun q hq => ?_, ⟨X, hKX⟩, fun X' hX' => eE.trans (KX.det hI hA hKX hX')⟩
  · unfold fUA_explains
    rw [la1, cl1_s, m1, cl_s, t1]
    cases e
    · rw [if_neg (by decide), cs1_l]; rfl
    · rw [if_pos rfl, cs1_r]; rfl
  · have bo : ∀ x : bz_Mm, bo_ (b2i e) (some (b2i e, x)) = some (b2i e, x) := fun x => by
      unfold bo_
      cases e
      · exact if_pos (show b2i false = 0 ∨ b2i false = 1 from Or.inl rfl)
      · exact if_pos (show b2i true = 0 ∨ b2i true = 1 from Or.inr rfl)
    unfold fM_explains
    rw [lt_x, l1, cl1_s, kn1, lo, show (0 : Int) = ((0 : Nat) : Int) from rfl, x6, cl_s, wf_s, show ((0 : Nat) : Int) = 0 from rfl, r1, cl1_s, er, bo]
  · -- the class's memory
    have fq : FR n V V' := ⟨fun q hq => by rw [t4 q (by omega) (by omega)]; exact m2 q (by omega), fun q t a b _ => by rw [t4 q (by omega) (by omega), m2 q (by omega)], fun j _ => by rw [t4 81 (by decide) (by decide), m2 81 (by decide)], by rw [t4 81 (by decide) (by decide), m2 81 (by decide)]; exact fV.2.2.2.1, fun j hj => by rw [t5 j (by omega)]; exact m3 j (by omega)⟩
    exact fV.t fq
  · have fq : FR n Y (st_ (wlk nf nt nd 0 now X) 81 12 (Y 81 12)) := ⟨fun q hq => m8Y q (by omega) (by omega), fun q t a b c => by rw [m8r q (by omega), wlo q (by omega), x3 q (by omega) (by omega)]; exact l5 q t a b c, fun j hj => m81 j (by omega), by rw [st_eq, ud_ne (by decide), wlo 81 (by omega), x4, ud_eq]; exact kr, fun j _ => by rw [m8Y 53 (by decide) (by decide)]⟩
    exact fY.t fq
  · exact m8Y q (by omega) (by omega)
