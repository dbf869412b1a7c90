/-! suspects and audits, class and reference -/
def ISu (M : bz_Mm) (ns : Nat) : Prop := (M 17 2 = ns ∧ M 81 13 = ns ∧ ns ≤ 7) ∧ ∀ i, i < ns → (M 20 i = M 88 i ∧ M 21 i = M 89 i ∧ M 18 i = M 90 i ∧ M 22 i = M 91 i) ∧ p_subj (M 88 i) (M 89 i) ∧ (0 ≤ M 90 i ∧ M 90 i < 260) ∧ r32 (M 91 i)
def IAu (M : bz_Mm) (nf now na : Nat) : Prop := (M 81 69 = na ∧ na ≤ 8) ∧ ∀ a, a < na → (M 78 a = M 227 a ∧ M 79 a = M 228 a ∧ M 80 a = M 229 a) ∧ (0 ≤ M 227 a ∧ M 227 a < nf) ∧ (0 ≤ M 228 a ∧ M 228 a < now ∧ M 228 a < 260 ∧ opn (M 82) (M 228 a).toNat = true) ∧ 0 ≤ M 229 a ∧ M 229 a ≤ 10000000
theorem ISu.fr {M y : bz_Mm} {n ns : Nat} (h : ISu M ns) (f : FR n M y) : ISu y ns := by
  obtain ⟨fe, _, f81, _⟩ := f
  unfold ISu at h ⊢
  rw [fe 17 (by decide), fe 18 (by decide), fe 20 (by decide), fe 21 (by decide), fe 22 (by decide), fe 88 (by decide), fe 89 (by decide), fe 90 (by decide), fe 91 (by decide), f81 13 (by decide)]; exact h
theorem IAu.fr {M y : bz_Mm} {n nf now na : Nat} (h : IAu M nf now na) (f : FR n M y) : IAu y nf now na := by
  obtain ⟨fe, _, f81, _⟩ := f
  unfold IAu at h ⊢
  rw [fe 78 (by decide), fe 79 (by decide), fe 80 (by decide), fe 227 (by decide), fe 228 (by decide), fe 229 (by decide), fe 82 (by decide), f81 69 (by decide)]; exact h
theorem cnB_le (h : Nat) : ∀ m i : Nat, cnB h m i ≤ m := by
  intro m
  induction m with
  | zero => intro i; exact Nat.le_refl 0
  | succ m ih => intro i; rw [cnB_S]; have := ih (i + 1); split <;> omega
theorem cnB_ex (h : Nat) : ∀ m c : Nat, c < cnB h m 0 → ∃ i, i < m ∧ h.testBit i = true ∧ cnB h i 0 = c := by
  intro m
  induction m with
  | zero => intro c hc; exact absurd hc (Nat.not_lt_zero c)
  | succ m ih =>
    intro c hc
    have r := cnB_R h m 0
    rw [Nat.zero_add] at r
    by_cases q : c < cnB h m 0
    · obtain ⟨i, a, b, d⟩ := ih c q; exact ⟨i, by omega, b, d⟩
    · by_cases b : h.testBit m = true
      · rw [if_pos b] at r; exact ⟨m, by omega, b, by omega⟩
      · rw [if_neg b] at r; omega
/-- X is M after the suspects of h were laid, and after knows -/
def KX (M X : bz_Mm) (h n ns now : Nat) : Prop := (∀ q, ((44 < q ∧ q < 48) ∨ q = 82 ∨ (87 < q ∧ q < 158) ∨ (210 < q ∧ q < 221)) → X q = M q) ∧ (X 81 61 = (knw now : Int) ∧ X 81 43 = M 81 43) ∧ (∀ q t, 83 ≤ q → q ≤ 87 → t < n → X q t = M q t) ∧ (∀ i, i < ns → h.testBit i = true → X 83 (n + cnB h i 0) = M 88 i ∧ X 84 (n + cnB h i 0) = M 89 i ∧ X 85 (n + cnB h i 0) = M 90 i ∧ X 86 (n + cnB h i 0) = M 91 i ∧ X 87 (n + cnB h i 0) = (knw now : Int)) ∧ KN X X (knw now : Int) (n + cnB h ns 0)
def EXP (M X : bz_Mm) (nf nt nd now na : Nat) : Prop := ∀ a, a < na → wlk nf nt nd 0 now X (196 + (M 227 a).toNat) (M 228 a).toNat = M 229 a
theorem KX.stg {M X V : bz_Mm} {h n nf nt nd nl now ns : Nat} (hI : IT M n nf nt nd nl now) (hV : FR n M V) (hX : KX M X h n ns now) : STg X V (knw now : Int) (n + cnB h ns 0) n nf nt nd nl now := by
  have hIV := hI.fr hV
  have hrt := hIV.rt
  obtain ⟨k1, k2, k3, k4, k5⟩ := kn_U hI
  obtain ⟨fe, ft, f81, _, _⟩ := hV
  obtain ⟨x1, x2, x3, x4, x5⟩ := hX
  obtain ⟨i1, i2, ⟨i3, i3b⟩, ⟨i4, i4b⟩, ⟨i5, i5b, i5c⟩, i6, i7, i8, i9, i10, i11, i12, i13, i14⟩ := hIV
  have e : ∀ q, (q = 82 ∨ 87 < q) → q < 158 → X q = V q := fun q a b => by rw [x1 q (by omega), fe q (by omega)]
  have h3 : ∀ i, i < nd → 0 ≤ V 103 i ∧ V 103 i < 20 := fun i hi => (hrt.2.2.2.2.2.1 i hi).1
  refine ⟨i3.p (fun _ _ _ => rfl) (fun q t a b c => by rw [x3 q t a b c, ft q t a b c]), ?_, ?_, ⟨i2.1, i2.2.2⟩, fun p hp => by rw [e 92 (by decide) (by decide)]; exact i6 p hp, ⟨x5, x2.1, ⟨by omega, by omega⟩⟩, ⟨i7, fun q hq => by rw [x1 q (by omega), fe q (by omega)]⟩, by rw [x2.2, f81 43 (by decide)], fun j hj => by rw [e 82 (by decide) (by decide)]; exact i8 j hj, fun i hi => ?_, fun g D hg => ?_, fun g d hg hd hop => ?_⟩
  · unfold TA at i4 ⊢
    rw [e 97 (by decide) (by decide), e 98 (by decide) (by decide), e 99 (by decide) (by decide), e 100 (by decide) (by decide), e 101 (by decide) (by decide), e 102 (by decide) (by decide)]; exact i4
  · unfold DA at i5 ⊢
    rw [e 103 (by decide) (by decide), e 104 (by decide) (by decide), e 105 (by decide) (by decide), e 106 (by decide) (by decide), e 107 (by decide) (by decide), e 109 (by decide) (by decide)]; exact i5
  · rw [e 82 (by decide) (by decide), e 106 (by decide) (by decide), e 107 (by decide) (by decide), e 109 (by decide) (by decide)]
    exact ⟨(i9 i hi).1, (i9 i hi).2.1⟩
  · have : usm X g D nd = usm V g D nd := usm_e nd (fun i hi => by rw [e 104 (by decide) (by decide), e 106 (by decide) (by decide), e 107 (by decide) (by decide)]; exact ⟨rfl, rfl, fun _ _ => rfl⟩)
    rw [this]; exact usm_w h3 i10.1 g D hg
  · rw [e 82 (by decide) (by decide)] at hop
    rw [x1 (217 + g) (by omega), ← fe (217 + g) (by omega)]; exact (i11 g d hg hd hop).2.1
/-- it does not matter which -/
theorem KX.det {M X X' : bz_Mm} {h n nf nt nd nl now ns na : Nat} (hI : IT M n nf nt nd nl now) (hA : IAu M nf now na) (h1 : KX M X h n ns now) (h2 : KX M X' h n ns now) : EXP M X nf nt nd now na ↔ EXP M X' nf nt nd now na := by
  have n260 := hI.1.2.2
  have s1 := h1.stg hI (FR.r hI.2.2.1.2.2.1)
  have s2 := h2.stg hI (FR.r hI.2.2.1.2.2.1)
  have w1 := STg.wok s1 (W := X) (fun _ _ => rfl)
  have w2 := STg.wok s2 (W := X') (fun _ _ => rfl)
  have d1 := STg.day s1
  obtain ⟨_, _, hDA, ⟨h14, hnf⟩, _, _, _, _, _, hz, hal, _⟩ := s1
  obtain ⟨_, _, hDA2, _⟩ := s2
  obtain ⟨x1, x2, x3, x4, x5⟩ := h1
  obtain ⟨y1, y2, y3, y4, y5⟩ := h2
  have f104 : ∀ i, i < nd → 0 ≤ X 104 i ∧ X 104 i < nf := fun i hi => (hDA.2.2 i hi).2.2.1
  have rows : ∀ q t, 83 ≤ q → q ≤ 87 → t < n + cnB h ns 0 → X' q t = X q t := fun q t a b c => by
    by_cases z : t < n
    · rw [x3 q t a b z, y3 q t a b z]
    · obtain ⟨i, i1, i2, i3⟩ := cnB_ex h ns (t - n) (by omega)
      have et : n + cnB h i 0 = t := by omega
      obtain ⟨p1, p2, p3, p4, p5⟩ := x4 i i1 i2
      obtain ⟨r1, r2, r3, r4, r5⟩ := y4 i i1 i2
      rw [et] at p1 p2 p3 p4 p5 r1 r2 r3 r4 r5
      have : q = 83 ∨ q = 84 ∨ q = 85 ∨ q = 86 ∨ q = 87 := by omega
      rcases this with e | e | e | e | e
      · rw [e, p1, r1]
      · rw [e, p2, r2]
      · rw [e, p3, r3]
      · rw [e, p4, r4]
      · rw [e, p5, r5]
  have kk := fun s nr d => kv_p rows s nr (knw now : Int) d
  have kn : ∀ q d, 158 ≤ q → q < 188 → (q ≠ 166 ∧ q ≠ 170 ∧ q ≠ 179) → d < 260 → X' q d = X q d := fun q d a b c hd => by
    by_cases q1 : q < 166
    · have x := x5.1 (q - 158) d (by omega) hd
      have y := y5.1 (q - 158) d (by omega) hd
      rw [show 158 + (q - 158) = q by omega] at x y
      rw [y.1, x.1, kk]
    · by_cases q2 : q < 170
      · obtain ⟨z1, z2, z3⟩ := x5.2 d hd
        obtain ⟨v1, v2, v3⟩ := y5.2 d hd
        by_cases e1 : q = 167
        · rw [e1, z1, v1]
        · by_cases e2 : q = 168
          · rw [e2, z2, v2, kk]
          · rw [show q = 169 by omega, z3, v3, kk]
      · by_cases q3 : q < 179
        · have x := x5.1 (q - 171) d (by omega) hd
          have y := y5.1 (q - 171) d (by omega) hd
          rw [show 171 + (q - 171) = q by omega] at x y
          rw [y.2.1, x.2.1, kk]
        · have x := x5.1 (q - 180) d (by omega) hd
          have y := y5.1 (q - 180) d (by omega) hd
          rw [show 180 + (q - 180) = q by omega] at x y
          rw [y.2.2, x.2.2, kk]
  have eX : ∀ q, ((44 < q ∧ q < 48) ∨ q = 82 ∨ (87 < q ∧ q < 158) ∨ (210 < q ∧ q < 221)) → X' q = X q := fun q hq => by rw [x1 q hq, y1 q hq]
  have cg : CG X X' nt nd nd now := ⟨fun q hq => eX q (by omega), fun q d a b c hd => kn q d a b c (by omega), Or.inl (by rw [x2.1, y2.1]), Nat.le_refl nd, fun i hi => by rw [eX 103 (by decide), eX 104 (by decide), eX 105 (by decide), eX 106 (by decide)]; exact ⟨rfl, rfl, rfl, rfl⟩, fun i hi _ => by rw [eX 107 (by decide), eX 109 (by decide)]; exact ⟨rfl, rfl⟩, fun i a b => by omega, fun d _ => by rw [eX 82 (by decide)], fun f d w hf _ _ => rv_c (fun q u v => eX q (by omega)) (by rw [x2.2, y2.2]) (by have := w1.2.2.2.2.1; have := w1.2.2.2.2.2.1; omega) f hf d w, fun g d hg _ => by rw [eX (217 + g) (by omega)]⟩
  have ww := cg_walk (bk := 0) (m := now) (Or.inl rfl) cg ⟨w1, hDA.1.2, hnf, fun i hi => ⟨(hDA.2.2 i hi).2.2.2.1, (d1 i hi).1, (hz i hi).1⟩, hal⟩ f104 w2 hDA.1.2 (fun i hi => (hDA2.2.2 i hi).2.2.2.1) n260 (Nat.le_refl now)
  obtain ⟨_, _, ww3, _⟩ := ww
  unfold EXP
  have pt : ∀ a, a < na → wlk nf nt nd 0 now X' (196 + (M 227 a).toNat) (M 228 a).toNat = wlk nf nt nd 0 now X (196 + (M 227 a).toNat) (M 228 a).toNat := fun a ha => by
    obtain ⟨_, a2, a3, _⟩ := hA.2 a ha
    exact (ww3 rfl (M 227 a).toNat (M 228 a).toNat (by omega) (Or.inl (by omega)) (by rw [x1 82 (by decide)]; exact a3.2.2.2)).1
  exact ⟨fun t a ha => by rw [pt a ha]; exact t a ha, fun t a ha => by rw [← pt a ha]; exact t a ha⟩
/-! the reference lays suspects -/
theorem r_lays {F n ns h now : Nat} {Y : bz_Mm} {l2 : Int} (hF : 500 < F) (hS : ISu Y ns) (hh : h < 1024) (h12 : Y 81 12 = n) (hn : n ≤ 400) (h0 : Y 81 0 = now) (hnow : now ≤ 260) : ∃ Y1, M_explains_L7 F F l2 (h : Int) 0 Y = some Y1 ∧ (∀ q, q ≠ 81 → (q < 83 ∨ 87 < q) → Y1 q = Y q) ∧ (∀ j, j ≠ 12 → Y1 81 j = Y 81 j) ∧ Y1 81 12 = ((n + cnB h ns 0 : Nat) : Int) ∧ (∀ q t, 83 ≤ q → q ≤ 87 → t < n → Y1 q t = Y q t) ∧ ∀ i, i < ns → h.testBit i = true → Y1 83 (n + cnB h i 0) = Y 88 i ∧ Y1 84 (n + cnB h i 0) = Y 89 i ∧ Y1 85 (n + cnB h i 0) = Y 90 i ∧ Y1 86 (n + cnB h i 0) = Y 91 i ∧ Y1 87 (n + cnB h i 0) = (knw now : Int) := by
  obtain ⟨⟨s1, s2, s3⟩, s4⟩ := hS
  have lp : ∀ (m fuel i : Nat) (V : bz_Mm), i + m = ns → m < fuel → (∀ q, q ≠ 81 → (q < 83 ∨ 87 < q) → V q = Y q) → (∀ j, j ≠ 12 → V 81 j = Y 81 j) → V 81 12 = ((n + cnB h i 0 : Nat) : Int) → (∀ q t, 83 ≤ q → q ≤ 87 → t < n → V q t = Y q t) → (∀ j, j < i → h.testBit j = true → V 83 (n + cnB h j 0) = Y 88 j ∧ V 84 (n + cnB h j 0) = Y 89 j ∧ V 85 (n + cnB h j 0) = Y 90 j ∧ V 86 (n + cnB h j 0) = Y 91 j ∧ V 87 (n + cnB h j 0) = (knw now : Int)) → ∃ Y1, M_explains_L7 F fuel l2 (h : Int) (i : Int) V = some Y1 ∧ (∀ q, q ≠ 81 → (q < 83 ∨ 87 < q) → Y1 q = Y q) ∧ (∀ j, j ≠ 12 → Y1 81 j = Y 81 j) ∧ Y1 81 12 = ((n + cnB h ns 0 : Nat) : Int) ∧ (∀ q t, 83 ≤ q → q ≤ 87 → t < n → Y1 q t = Y q t) ∧ ∀ i, i < ns → h.testBit i = true → Y1 83 (n + cnB h i 0) = Y 88 i ∧ Y1 84 (n + cnB h i 0) = Y 89 i ∧ Y1 85 (n + cnB h i 0) = Y 90 i ∧ Y1 86 (n + cnB h i 0) = Y 91 i ∧ Y1 87 (n + cnB h i 0) = (knw now : Int) := by
    intro m
    induction m with
    | zero =>
      intro fuel i V e1 e2 e3 e4 e5 e6 e7
      obtain ⟨fuel, rfl⟩ : ∃ j, fuel = j + 1 := ⟨fuel - 1, by omega⟩
      have e : i = ns := by omega
      subst e
      exact ⟨V, by rw [M_explains_L7, e4 13 (by decide), s2, w32_n (show i ≤ 2147483647 by omega), if_neg (by omega)], e3, e4, e5, e6, e7⟩
    | succ m ih =>
      intro fuel i V e1 e2 e3 e4 e5 e6 e7
      obtain ⟨fuel, rfl⟩ : ∃ j, fuel = j + 1 := ⟨fuel - 1, by omega⟩
      have e : (i : Int) + 1 = ((i + 1 : Nat) : Int) := by omega
      have cr := cnB_R h i 0
      rw [Nat.zero_add] at cr
      have cl := cnB_le h i 0
      rw [M_explains_L7, e4 13 (by decide), s2, w32_n (show i ≤ 2147483647 by omega), w32_n (show ns ≤ 2147483647 by omega), if_pos (by omega), sr_b hh (by omega), e]
      by_cases c : h.testBit i = true
      · rw [if_pos c] at cr
        have tl : n + cnB h i 0 < 407 := by omega
        generalize htt : n + cnB h i 0 = tt at tl e5
        have kn0 : ∀ Z : bz_Mm, Z 81 0 = now → fM_known0 Z = (knw now : Int) := fun Z hZ => by
          unfold fM_known0 knw
          rw [hZ, w32_n (show now ≤ 2147483647 by omega)]
          by_cases q : now < 260
          · rw [if_pos q, if_pos (by omega)]
          · rw [if_neg q, if_neg (by omega)]; rfl
        have ly : fM_lays F V (Y 88 i) (Y 89 i) (Y 90 i) (Y 91 i) = some (st_ (st_ (st_ (st_ (st_ (st_ V 83 tt (Y 88 i)) 84 tt (Y 89 i)) 85 tt (Y 90 i)) 86 tt (Y 91 i)) 87 tt (knw now : Int)) 81 12 ((tt : Int) + 1)) := by
          unfold fM_lays
          rw [e5, wa_s tl (by decide), st_ne (show (81 : Nat) ≠ 83 by decide), e5, wa_s tl (by decide), st_ne (show (81 : Nat) ≠ 84 by decide), st_ne (show (81 : Nat) ≠ 83 by decide), e5, wa_s tl (by decide), st_ne (show (81 : Nat) ≠ 85 by decide), st_ne (show (81 : Nat) ≠ 84 by decide), st_ne (show (81 : Nat) ≠ 83 by decide), e5, wa_s tl (by decide), st_ne (show (81 : Nat) ≠ 86 by decide), st_ne (show (81 : Nat) ≠ 85 by decide), st_ne (show (81 : Nat) ≠ 84 by decide), st_ne (show (81 : Nat) ≠ 83 by decide), e5, kn0 _ (by rw [st_ne (by decide), st_ne (by decide), st_ne (by decide), st_ne (by decide), e4 0 (by decide)]; exact h0), wa_s tl (by decide), st_ne (show (81 : Nat) ≠ 87 by decide), st_ne (show (81 : Nat) ≠ 86 by decide), st_ne (show (81 : Nat) ≠ 85 by decide), st_ne (show (81 : Nat) ≠ 84 by decide), st_ne (show (81 : Nat) ≠ 83 by decide), e5, wf_s]
        rw [if_pos c, w32_1p, if_pos rfl, rd_s (by omega) (by decide), rd_s (by omega) (by decide), rd_s (by omega) (by decide), rd_s (by omega) (by decide), e3 88 (by decide) (by decide), e3 89 (by decide) (by decide), e3 90 (by decide) (by decide), e3 91 (by decide) (by decide), ly, cl_s]
        have rw5 : ∀ q t, 83 ≤ q → q ≤ 87 → t ≠ tt → st_ (st_ (st_ (st_ (st_ (st_ V 83 tt (Y 88 i)) 84 tt (Y 89 i)) 85 tt (Y 90 i)) 86 tt (Y 91 i)) 87 tt (knw now : Int)) 81 12 ((tt : Int) + 1) q t = V q t := fun q t a b d => by
          have : q = 83 ∨ q = 84 ∨ q = 85 ∨ q = 86 ∨ q = 87 := by omega
          rcases this with e | e | e | e | e <;> subst e <;> simp [st_, ud, d]
        refine ih fuel (i + 1) _ (by omega) (by omega) (fun q a b => by rw [st_ne a, st_ne (by omega), st_ne (by omega), st_ne (by omega), st_ne (by omega), st_ne (by omega)]; exact e3 q a b) (fun j hj => by rw [st_eq, ud_ne hj, st_ne (by decide), st_ne (by decide), st_ne (by decide), st_ne (by decide), st_ne (by decide)]; exact e4 j hj) (by rw [st_eq, ud_eq, cr]; omega) (fun q t a b d => by rw [rw5 q t a b (by omega)]; exact e6 q t a b d) (fun j hj hb => ?_)
        by_cases q : j = i
        · subst q
          rw [htt]
          simp [st_, ud]
        · have jl : cnB h j 0 < cnB h i 0 := by
            have z := cnB_nd (s := h) (g := 0) (sub_0 h) 0 0
            have mono : ∀ d, cnB h (j + 1) 0 ≤ cnB h (j + 1 + d) 0 := by
              intro d
              induction d with
              | zero => exact Nat.le_refl _
              | succ d ihd => have := cnB_R h (j + 1 + d) 0; rw [show j + 1 + (d + 1) = (j + 1 + d) + 1 by omega, this]; omega
            have r := cnB_R h j 0
            rw [Nat.zero_add, if_pos hb] at r
            have := mono (i - (j + 1))
            rw [show j + 1 + (i - (j + 1)) = i by omega] at this
            omega
          rw [rw5 83 _ (by decide) (by decide) (by omega), rw5 84 _ (by decide) (by decide) (by omega), rw5 85 _ (by decide) (by decide) (by omega), rw5 86 _ (by decide) (by decide) (by omega), rw5 87 _ (by decide) (by decide) (by omega)]
          exact e7 j (by omega) hb
      · rw [if_neg c, Nat.add_zero] at cr
        rw [if_neg c, w32_0, if_neg (by decide)]
        refine ih fuel (i + 1) V (by omega) (by omega) e3 e4 (by rw [cr]; exact e5) e6 (fun j hj hb => ?_)
        by_cases q : j = i
        · subst q; exact absurd hb c
        · exact e7 j (by omega) hb
  exact lp ns F 0 Y (by omega) (by omega) (fun _ _ _ => rfl) (fun _ _ => rfl) (by rw [h12]; rfl) (fun _ _ _ _ _ => rfl) (fun j hj => by omega)
