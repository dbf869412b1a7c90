/-! claims, class and reference -/
def IH (M : bz_Mm) (nf nd nh : Nat) : Prop := (M 1 15 = nh ∧ M 81 20 = nh ∧ nh ≤ 16) ∧ (∀ j, j < nh → (M 4 j = M 94 j ∧ -11 ≤ M 4 j ∧ M 4 j ≤ 12) ∧ M 5 j = M 95 j ∧ -1 ≤ M 5 j ∧ M 5 j ≤ 260) ∧ (∀ j, j < 16 → r32 (M 95 j)) ∧ (∀ g, g < nf → M 3 g = M 96 g ∧ -1 ≤ M 3 g ∧ M 3 g < 260) ∧ ∀ i, i < nd → M 37 i < 16 → M 37 i < nh
theorem IH.fr {M y : bz_Mm} {n nf nd nh : Nat} (h : IH M nf nd nh) (hf : FR n M y) : IH y nf nd nh := by
  obtain ⟨a, b, c, d, e⟩ := h
  obtain ⟨fe, _, f81, _⟩ := hf
  refine ⟨by rw [fe 1 (by decide), f81 20 (by decide)]; exact a, by rw [fe 4 (by decide), fe 94 (by decide), fe 5 (by decide), fe 95 (by decide)]; exact b, by rw [fe 95 (by decide)]; exact c, by rw [fe 3 (by decide), fe 96 (by decide)]; exact d, by rw [fe 37 (by decide)]; exact e⟩
theorem sqP_r {P : Nat → Bool} {t : Nat → Int} {B : Int} (hB : 0 ≤ B) : ∀ n : Nat, (∀ i, i < n → P i = true → 0 ≤ t i ∧ t i ≤ B) → 0 ≤ sqP P t n ∧ sqP P t n ≤ B * n := by
  intro n
  induction n with
  | zero => intro _; exact ⟨Int.le_refl 0, by show (0 : Int) ≤ B * 0; omega⟩
  | succ n ih =>
    intro h
    obtain ⟨a, b⟩ := ih (fun i hi => h i (by omega))
    rw [sqP_S]
    have e : B * ((n + 1 : Nat) : Int) = B * n + B := by
      rw [show ((n + 1 : Nat) : Int) = (n : Int) + 1 by omega, Int.mul_add, Int.mul_one]
    rw [e]
    by_cases c : P n = true
    · rw [if_pos c]
      have := h n (by omega) c
      omega
    · rw [if_neg c]; omega
theorem sqP_z {P : Nat → Bool} {t : Nat → Int} : ∀ n : Nat, (∀ i, i < n → P i = true → t i = 0) → sqP P t n = 0 := by
  intro n
  induction n with
  | zero => intro _; rfl
  | succ n ih =>
    intro h
    rw [sqP_S, ih (fun i hi => h i (by omega))]
    by_cases c : P n = true
    · rw [if_pos c, h n (by omega) c]; rfl
    · rw [if_neg c]; rfl
def wc (p : Nat) : Nat := if p < 16 then p else p + 4
theorem wc_r {p : Nat} (h : p < 20) : wc p < 24 := by unfold wc; split <;> omega
theorem r_asksL {F n g : Nat} {k : Int} {M : bz_Mm} (hF : 300 < F) (hI : iv_la M n) (hg : g < 4) (hk : 0 ≤ k ∧ k < 260) (hb : ∀ p, p < 20 → (0 ≤ M 223 p ∧ M 223 p ≤ 1000000000000) ∧ 0 ≤ M 224 p ∧ M 224 p ≤ 1000000000000) (h95 : ∀ p, p < 16 → r32 (M 95 p)) (h96 : -1 ≤ M 96 g ∧ M 96 g < 260) : ∀ (m fuel p : Nat) (X : bz_Mm), p + m = 20 → m < fuel → (∀ q, q ≠ 225 → q ≠ 226 → X q = M q) → (∀ j, j < p → ∃ b : Bool, X 225 j = smX (M 223 j) (M 224 j) (rv M g k 7) ∧ X 226 j = wyX (smX (M 223 j) (M 224 j) (rv M g k 7)) (rv M g k 5) b (M 96 g) k (rv M g k 8) ∧ (b = true ↔ (j < 16 ∧ M 95 j ≠ -1 ∧ M 95 j ≤ k))) → ∃ y, M_asks0_L21 F fuel (g : Int) k (p : Int) X = some y ∧ (∀ q, q ≠ 225 → q ≠ 226 → y q = M q) ∧ ∀ j, j < 20 → ∃ b : Bool, y 225 j = smX (M 223 j) (M 224 j) (rv M g k 7) ∧ y 226 j = wyX (smX (M 223 j) (M 224 j) (rv M g k 7)) (rv M g k 5) b (M 96 g) k (rv M g k 8) ∧ (b = true ↔ (j < 16 ∧ M 95 j ≠ -1 ∧ M 95 j ≤ k)) := by
  intro m
  induction m with
  | zero =>
    intro fuel p X h1 h2 h3 h4
    obtain ⟨fuel, rfl⟩ : ∃ q, fuel = q + 1 := ⟨fuel - 1, by omega⟩
    have e : p = 20 := by omega
    subst e
    refine ⟨X, ?_, h3, h4⟩
    rw [M_asks0_L21, w32_n (by omega), if_neg (by omega)]
  | succ m ih =>
    intro fuel p X h1 h2 h3 h4
    obtain ⟨fuel, rfl⟩ : ∃ q, fuel = q + 1 := ⟨fuel - 1, by omega⟩
    have e : (p : Int) + 1 = ((p + 1 : Nat) : Int) := by omega
    have rvX : ∀ w, rv X g k w = rv M g k w := fun w => rv_c (fun q a b => h3 q (by omega) (by omega)) (by rw [h3 81 (by decide) (by decide)]) (by have := hI.2.1; have := hI.2.2.1; omega) g hg k w
    obtain ⟨b, j1, j2⟩ := r_judges (F := F) (n := n) (f := g) (p := p) (M := X) (k := k) hF (iv_la.c (fun q hq => h3 q (by omega) (by omega)) (by rw [h3 81 (by decide) (by decide)]) hI) hg hk (by omega) (by rw [h3 223 (by decide) (by decide)]; exact (hb p (by omega)).1) (by rw [h3 224 (by decide) (by decide)]; exact (hb p (by omega)).2) (fun hp => by rw [h3 95 (by decide) (by decide)]; exact h95 p hp) (by rw [h3 96 (by decide) (by decide)]; exact h96)
    rw [h3 223 (by decide) (by decide), h3 224 (by decide) (by decide), h3 96 (by decide) (by decide), rvX, rvX, rvX] at j1
    rw [h3 95 (by decide) (by decide)] at j2
    rw [M_asks0_L21, w32_n (show p ≤ 2147483647 by omega), if_pos (by omega), j1, cl_s, e]
    refine ih fuel (p + 1) _ (by omega) (by omega) (fun q a c => by rw [st_ne c, st_ne a]; exact h3 q a c) (fun j hj => ?_)
    rw [st_ne (show (225 : Nat) ≠ 226 by decide), st_eq, st_eq, st_ne (show (226 : Nat) ≠ 225 by decide)]
    by_cases c : j = p
    · subst c; rw [ud_eq, ud_eq]; exact ⟨b, rfl, rfl, j2⟩
    · rw [ud_ne c, ud_ne c]; exact h4 j (by omega)
theorem wyX_0 {s least since k gd : Int} {b : Bool} (h : s ≤ 0) : wyX s least b since k gd = 0 := by
  unfold wyX
  rw [if_neg (by omega)]
theorem wyX_r {s least since k gd : Int} {b : Bool} : 0 ≤ wyX s least b since k gd ∧ wyX s least b since k gd ≤ 3 := by
  unfold wyX
  repeat' split
  all_goals omega
theorem smX_0 {back : Int} : smX 0 0 back = 0 := by
  unfold smX
  repeat' split
  all_goals omega
theorem clm_both {F : Nat} {M : bz_Mm} {k be : Int} {g n nf nt nd nl nh now : Nat} (hF : 500 < F) (h : IQ M n nf nt nd nl now) (hH : IH M nf nd nh) (hk : 0 ≤ k ∧ k ≤ 259) (hg : g < nf) (hbe : 0 ≤ be ∧ be ≤ 5000) : ∃ (M' M2 : bz_Mm), (fUC_walkTo F M k = some M' ∧ fUQ_gatherBeyond F M' (g : Int) k be = some M2) ∧ ((QY M M' n nf nt nd nl now ∧ ((-30000000000000000 ≤ M2 55 g ∧ M2 55 g ≤ 30000000000000000) ∧ -30000000000000000 ≤ M2 54 g ∧ M2 54 g ≤ 30000000000000000)) ∧ ∀ Z, (∀ q, (q < 68 ∨ 76 < q) → Z q = M2 q) → QY M Z n nf nt nd nl now) ∧ (M2 65 3 = g ∧ M2 65 4 = k) ∧ ∀ Zr : bz_Mm, (∀ q, (q < 68 ∨ 76 < q) → Zr q = M2 q) → ∃ (y z : bz_Mm) (sm wy : Nat → Int), (fM_asks0 F Zr (g : Int) k be = some y ∧ ∀ yr : bz_Mm, (∀ q, q ≠ 230 → yr q = y q) → ∃ zr : bz_Mm, fM_through F yr (fM_lastOver yr k) k 2 = some zr ∧ QY M zr n nf nt nd nl now ∧ (∀ p, p < 20 → zr 225 p = sm p ∧ zr 226 p = wy p) ∧ zr 188 g = M2 54 g ∧ zr 230 = yr 230) ∧ QY M y n nf nt nd nl now ∧ (∀ p, p < 20 → M2 66 (wc p) = y 223 p ∧ M2 67 (wc p) = y 224 p ∧ y 225 p = sm p ∧ y 226 p = wy p ∧ (-1000000000000 ≤ sm p ∧ sm p ≤ 1000000000000) ∧ (0 ≤ wy p ∧ wy p ≤ 3) ∧ (sm p ≤ 0 → wy p = 0)) ∧ sm (16 + g) = 0 ∧ (∀ Z : bz_Mm, (∀ q, (q < 68 ∨ 76 < q) → Z q = M2 q) → (∀ p, p < 20 → fUQ_sumOf F Z (wc p : Int) = some (sm p) ∧ fUQ_wayOf F Z (wc p : Int) = some (wy p)) ∧ ∀ x : Nat, 16 ≤ x → x < 20 → fUQ_sumOf F Z (x : Int) = some 0 ∧ fUQ_wayOf F Z (x : Int) = some 0) ∧ y 188 g = M2 55 g := by
  have hI := h.1
  have nf4 := hI.2.1.2.2
  have n260 := hI.1.2.2
  have g4 : g < 4 := by omega
  obtain ⟨M', X, a1, a2, a3, a4, a5, a6, aC, a17, a7, a8, a9, a10⟩ := q_all (k := k) hF h hk
  have hH' := hH.fr a3.2.1
  have hDA := a2.2.2.2.2.1.1
  have nd2 := hDA.1.2
  obtain ⟨lo1, lo2⟩ := lo_M (k := k) a2 hk
  have NL : lastN now k ≤ now := lastN_le rfl
  generalize hN : lastN now k = N at a6 aC lo1 lo2 NL
  obtain ⟨⟨s1, s2, s3, s4, s5, s6, s7, s8, s9, s10, s11⟩, _⟩ := a6
  have o := fun bk q hq => wlk_o (nf := nf) (nt := nt) (nd := nd) (bk := bk) (K := X) nf4 N q hq
  have oM : ∀ bk q, q ≠ 81 → (q < 158 ∨ 222 < q ∨ (210 < q ∧ q < 221)) → wlk nf nt nd bk N X q = M' q := fun bk q hq1 hq2 => by rw [o bk q (by omega)]; exact a8 q hq1 hq2
  have o81 : ∀ bk j, j ≠ 61 → wlk nf nt nd bk N X 81 j = M' 81 j := fun bk j hj => by rw [o bk 81 (by omega), a9, ud_ne hj]
  have laM := a2.2.2.2.2.2.2.1
  have n43 : (M' 81 43).toNat ≤ 6 := by have := laM.2.1; have := laM.2.2.1; omega
  -- deals
  have dl : ∀ i, i < nd → M' 40 i ≠ 0 → M' 108 i = 1 ∧ opn (M' 82) (M' 106 i).toNat = true ∧ M' 106 i < (now : Int) := fun i hi q => by
    obtain ⟨z1, z2, z3, z4⟩ := it_108 a2 i hi
    have e3 := (hDA.2.2 i hi).1.2.2.1
    have : M' 108 i = 1 := by
      rcases z1 with w | w
      · exact absurd (z2 w) (by rw [← e3]; exact q)
      · exact w
    exact ⟨this, z3 this⟩
  have cn42 : ∀ i, i < nd → M' 108 i = 1 → M' 106 i < (N : Int) → M' 42 i = wlk nf nt nd 0 N X 189 i ∧ 0 ≤ M' 42 i ∧ M' 42 i ≤ 1000000000 := fun i hi q1 q2 => by
    obtain ⟨w1, w2⟩ := (it_108 a2 i hi).2.2.1 q1
    obtain ⟨y1, y2, y3⟩ := (s10 i hi).1 ⟨by rw [a8 82 (by decide) (by decide), a8 106 (by decide) (by decide)]; exact w1, by rw [a8 106 (by decide) (by decide)]; exact Or.inl q2⟩
    rw [y1]; exact ⟨rfl, y3⟩
  have pr : ∀ e, e < N → opn (M' 82) e = true → (M' 48 (g * 260 + e) = wlk nf nt nd 0 N X (212 + g) e ∧ 0 ≤ M' 48 (g * 260 + e) ∧ M' 48 (g * 260 + e) ≤ 10000000) ∧ M' 56 (g * 260 + e) = wlk nf nt nd 0 N X (196 + g) e ∧ 0 ≤ M' 56 (g * 260 + e) ∧ M' 56 (g * 260 + e) ≤ 10000000 := fun e he ho => by
    have i11 := a2.2.2.2.2.2.2.2.2.2.2.1 g e hg (by omega) ho
    obtain ⟨z1, z2, z3, z4⟩ := s9 g e hg (Or.inl he) (by rw [a8 82 (by decide) (by decide)]; exact ho)
    refine ⟨⟨?_, i11.1.2⟩, z1, z3, z4⟩
    rw [oM 0 (212 + g) (by omega) (by omega)]; exact i11.1.1
  have day : ∀ i, i < nd → 0 ≤ M' 106 i ∧ M' 106 i < 260 := fun i hi => by
    have := hDA.2.1.2.2.2 i hi
    rw [(hDA.2.2 i hi).1.2.1] at this; exact this
  have b109 : ∀ i, i < nd → 0 ≤ M' 109 i ∧ M' 109 i ≤ 1000000000 := fun i hi => (a2.2.2.2.2.2.2.2.2.1 i hi).2.2.1
  -- the class gathers
  obtain ⟨M2, P, g1, g2, g3, g5, g6⟩ := uUQ_gatherB (F := F) (f := g) (nd := nd) (N := N) (k := k) (be := be) (M := M') (by omega) g4 (by omega) (by
    have : fUS_lastOver (fl (fl (st_ (st_ M' 65 3 (g : Int)) 65 4 k) 66 0 24 0) 67 0 24 0) k = fUS_lastOver M' k := by
      unfold fUS_lastOver
      rw [flz_o (by decide), flz_o (by decide), st_ne (by decide), st_ne (by decide)]
    rw [this]; exact lo2) ⟨hDA.1.1, nd2⟩ hbe (fun i hi => by
    obtain ⟨⟨e1, e2, e3, e4⟩, ew, er, eu, _⟩ := hDA.2.2 i hi
    have := day i hi
    refine ⟨by rw [e2]; exact this, by rw [e1]; exact ⟨by omega, by omega⟩, by rw [e3]; exact ⟨by omega, by omega⟩, by omega⟩) (fun i hi q1 q2 q3 => by
    obtain ⟨⟨e1, e2, e3, e4⟩, _⟩ := hDA.2.2 i hi
    obtain ⟨d1, d2, d3⟩ := dl i hi q3
    have dd := day i hi
    rw [e2] at q2
    obtain ⟨p1, p2⟩ := pr (M' 106 i).toNat (by omega) d2
    have c := cn42 i hi d1 q2
    rw [e2, e4]
    exact ⟨p1.2, p2.2, b109 i hi, c.2⟩)
  have u2 : ∀ q, q ≠ 65 → q ≠ 66 → q ≠ 67 → M2 q = M' q := g3
  -- any memory of those told things: what stays of it
  have qe : ∀ w, FR n M' w → (∀ q, (q = 42 ∨ (52 < q ∧ q < 65)) → w q = M' q) → w 77 = M' 77 → QY M w n nf nt nd nl now := fun w f1 f2 f3 => by
    obtain ⟨z1, z2⟩ := q_end (k := k) a2 (by rw [hN]; exact aC) hk a17 f1 f2
    obtain ⟨y0, y1, y2⟩ := a3
    refine ⟨⟨z1, z2, by rw [f1.1 1 (by decide)]; exact y0.2.2.1, by rw [f2 53 (by decide), f1.1 1 (by decide)]; exact y0.2.2.2.1, by rw [f2 53 (by decide)]; exact y0.2.2.2.2.1, fun i hz => ?_⟩, y1.t f1, by rw [f3]; exact y2⟩
    rw [f2 42 (by decide)]
    exact y0.2.2.2.2.2 i (by rw [← f1.1 82 (by decide), ← f1.1 106 (by decide)]; exact hz)
  have bnds : ((-30000000000000000 ≤ M2 55 g ∧ M2 55 g ≤ 30000000000000000) ∧ -30000000000000000 ≤ M2 54 g ∧ M2 54 g ≤ 30000000000000000) := by
    obtain ⟨q1, q2⟩ := (s5 g hg).2 (by omega)
    have f104 : ∀ i, i < nd → 0 ≤ M' 104 i := fun i hi => (hDA.2.2 i hi).2.2.1.1
    rw [feF_0 nd (fun i hi => by rw [(s4 104 (by omega)).1, a8 104 (by decide) (by decide)]; exact f104 i hi)] at q1
    rw [feF_0 nd (fun i hi => by rw [(s4 104 (by omega)).2, a8 104 (by decide) (by decide)]; exact f104 i hi)] at q2
    dsimp only at q1 q2
    rw [u2 55 (by decide) (by decide) (by decide), u2 54 (by decide) (by decide) (by decide), q1, q2, Int.add_zero, Int.add_zero, Int.add_zero, Int.add_zero]
    exact ⟨cash_b (Or.inl rfl) a2 ⟨by omega, by omega⟩ a5 NL g g4, cash_b (Or.inr rfl) a2 ⟨by omega, by omega⟩ a5 NL g g4⟩
  refine ⟨M', M2, ⟨a1, g1⟩, ⟨⟨a3, bnds⟩, fun Z hZ => qe Z ⟨fun q hq => by rw [hZ q (by omega)]; exact u2 q (by omega) (by omega) (by omega), fun q t c1 c2 _ => by rw [hZ q (by omega), u2 q (by omega) (by omega) (by omega)], fun j _ => by rw [hZ 81 (by decide), u2 81 (by decide) (by decide) (by decide)], by rw [hZ 81 (by decide), u2 81 (by decide) (by decide) (by decide)]; exact a2.2.2.1.2.2.1, fun j _ => by rw [hZ 53 (by decide), u2 53 (by decide) (by decide) (by decide)]⟩ (fun q hq => by rw [hZ q (by omega)]; exact u2 q (by omega) (by omega) (by omega)) (by rw [hZ 77 (by decide)]; exact u2 77 (by decide) (by decide) (by decide))⟩, g5, fun Zr hZr => ?_⟩
  have uZ : ∀ q, q ≠ 65 → q ≠ 66 → q ≠ 67 → (q < 68 ∨ 76 < q) → Zr q = M' q := fun q c1 c2 c3 c4 => by rw [hZr q c4]; exact u2 q c1 c2 c3
  have frZ0 : FR n M' Zr := ⟨fun q hq => uZ q (by omega) (by omega) (by omega) (by omega), fun q t c1 c2 _ => by rw [uZ q (by omega) (by omega) (by omega) (by omega)], fun j _ => by rw [uZ 81 (by decide) (by decide) (by decide) (by decide)], by rw [uZ 81 (by decide) (by decide) (by decide) (by decide)]; exact a2.2.2.1.2.2.1, fun j _ => by rw [uZ 53 (by decide) (by decide) (by decide) (by decide)]⟩
  have IZ : IT Zr n nf nt nd nl now := a2.fr frZ0
  -- the reference walks from there
  obtain ⟨X2, x1, x2, x3, x4, x5⟩ := r_thr0 (F := F) (k := k) hF ⟨by omega, by omega⟩ IZ
  have x1' : KW M' X2 k n := x1.cc (fun q hq => frZ0.1 q (by omega)) (by rw [uZ 81 (by decide) (by decide) (by decide) (by decide)]) (fun q t c1 c2 _ => by rw [uZ q (by omega) (by omega) (by omega) (by omega)])
  obtain ⟨⟨v1, v2, v3, v4, v5, v6, v7, v8, v9, v10, v11⟩, _⟩ := aC X2 x1'
  have oo := fun bk q hq => wlk_o (nf := nf) (nt := nt) (nd := nd) (bk := bk) (K := X2) nf4 N q hq
  have oM2 : ∀ bk q, q ≠ 81 → q ≠ 65 → q ≠ 66 → q ≠ 67 ∧ (q < 68 ∨ 76 < q) → (q < 158 ∨ 222 < q ∨ (210 < q ∧ q < 221)) → wlk nf nt nd bk N X2 q = M' q := fun bk q hq1 c1 c2 c3 hq2 => by rw [oo bk q (by omega), x3 q hq1 hq2]; exact uZ q c1 c2 c3.1 c3.2
  have t81 : ∀ bk j, j ≠ 61 → wlk nf nt nd bk N X2 81 j = M' 81 j := fun bk j hj => by rw [oo bk 81 (by omega), x4, ud_ne hj, uZ 81 (by decide) (by decide) (by decide) (by decide)]
  have cn2 : ∀ i, i < nd → M' 108 i = 1 → M' 106 i < (N : Int) → M' 42 i = wlk nf nt nd 0 N X2 189 i := fun i hi q1 q2 => by
    obtain ⟨w1, w2⟩ := (it_108 a2 i hi).2.2.1 q1
    exact ((v10 i hi).1 ⟨by rw [x3 82 (by decide) (by decide), x3 106 (by decide) (by decide), uZ 82 (by decide) (by decide) (by decide) (by decide), uZ 106 (by decide) (by decide) (by decide) (by decide)]; exact w1, by rw [x3 106 (by decide) (by decide), uZ 106 (by decide) (by decide) (by decide) (by decide)]; exact Or.inl q2⟩).1
  have pr2 : ∀ e, e < N → opn (M' 82) e = true → M' 48 (g * 260 + e) = wlk nf nt nd 0 N X2 (212 + g) e ∧ M' 56 (g * 260 + e) = wlk nf nt nd 0 N X2 (196 + g) e := fun e he ho => by
    have i11 := a2.2.2.2.2.2.2.2.2.2.2.1 g e hg (by omega) ho
    obtain ⟨z1, z2, z3, z4⟩ := v9 g e hg (Or.inl he) (by rw [x3 82 (by decide) (by decide), uZ 82 (by decide) (by decide) (by decide) (by decide)]; exact ho)
    refine ⟨?_, z1⟩
    rw [oM2 0 (212 + g) (by omega) (by omega) (by omega) (by omega) (by omega)]; exact i11.1.1
  have eL : fM_lastOver Zr k = (N : Int) - 1 := by rw [(lo_M (k := k) IZ hk).1, hN]
  have thr := (x2 N (by omega)).1
  have rows2 : ∀ i, i < nd → (wlk nf nt nd 0 N X2 103 i = M' 103 i ∧ wlk nf nt nd 0 N X2 104 i = M' 104 i ∧ wlk nf nt nd 0 N X2 106 i = M' 106 i ∧ wlk nf nt nd 0 N X2 107 i = M' 107 i) ∧ wlk nf nt nd 0 N X2 108 i = M' 108 i ∧ wlk nf nt nd 0 N X2 109 i = M' 109 i := fun i hi => by
    rw [oM2 0 103 (by decide) (by decide) (by decide) (by decide) (by decide), oM2 0 104 (by decide) (by decide) (by decide) (by decide) (by decide), oM2 0 106 (by decide) (by decide) (by decide) (by decide) (by decide), oM2 0 107 (by decide) (by decide) (by decide) (by decide) (by decide), oM2 0 108 (by decide) (by decide) (by decide) (by decide) (by decide), oM2 0 109 (by decide) (by decide) (by decide) (by decide) (by decide)]
    exact ⟨⟨rfl, rfl, rfl, rfl⟩, rfl, rfl⟩
  generalize hWR : wlk nf nt nd 0 N X2 = WR at thr rows2 cn2 pr2
  have wr81 : ∀ j, j ≠ 61 → WR 81 j = M' 81 j := fun j hj => by rw [← hWR]; exact t81 0 j hj
  have wrM : ∀ q, q ≠ 81 → q ≠ 65 → q ≠ 66 → q ≠ 67 ∧ (q < 68 ∨ 76 < q) → (q < 158 ∨ 222 < q ∨ (210 < q ∧ q < 221)) → WR q = M' q := fun q c0 c1 c2 c3 c4 => by rw [← hWR]; exact oM2 0 q c0 c1 c2 c3 c4
  have frWR : FR n M' WR := by rw [← hWR]; exact frZ0.t (x5 N 0)
  obtain ⟨m2, Q, r1, r2, r3, r4⟩ := r_sums (F := F) (f := g) (nd := nd) (N := N) (k := k) (be := be) (M := WR) (by omega) g4 (by rw [wr81 0 (by decide), a2.1.2.1]; omega) (by omega) (by rw [wr81 0 (by decide), a2.1.2.1]; exact hN.symm) ⟨by rw [wr81 35 (by decide)]; exact a2.2.2.2.2.1.2.1, nd2⟩ hbe (fun i hi => by
    obtain ⟨⟨e1, e2, e3, e4⟩, e5, e6⟩ := rows2 i hi
    obtain ⟨_, ew, er, eu, _⟩ := hDA.2.2 i hi
    rw [e1, e2, e3, e4, e5]
    have z1 := (it_108 a2 i hi).1
    have dd := day i hi
    exact ⟨dd, ⟨by omega, by omega⟩, ⟨by omega, by omega⟩, by omega, ⟨by omega, by omega⟩⟩) (fun i hi q1 q2 q3 => by
    obtain ⟨⟨e1, e2, e3, e4⟩, e5, e6⟩ := rows2 i hi
    rw [e5] at q2
    rw [e3] at q3
    have z1 := (it_108 a2 i hi).1
    have z2 := (it_108 a2 i hi).2.2.1 (by omega)
    have dd := day i hi
    obtain ⟨p1, p2⟩ := pr (M' 106 i).toNat (by omega) z2.1
    obtain ⟨p3, p4⟩ := pr2 (M' 106 i).toNat (by omega) z2.1
    have c := cn42 i hi (by omega) q3
    have c2 := cn2 i hi (by omega) q3
    rw [e3, e6, ← p3, ← p4, ← c2]
    exact ⟨p1.2, p2.2, b109 i hi, c.2⟩)
  have m2q : ∀ q, q ≠ 223 → q ≠ 224 → m2 q = WR q := r3
  -- the sums agree
  have sums : ∀ p, p < 20 → M2 66 (wc p) = m2 223 p ∧ M2 67 (wc p) = m2 224 p := fun p hp => by
    obtain ⟨y1, y2⟩ := g6 (wc p) (wc_r hp)
    obtain ⟨y3, y4⟩ := r4 p hp
    have key : ∀ i, i < nd → ∀ fU fM : Int → Int → Int → Int, (∀ u b c : Int, u ≠ 0 → fU u b c = fM u b c) → (∀ b : Int, fM 0 b b = 0) → (if (P i && decide (M' 37 i = ((wc p : Nat) : Int))) = true then fU (M' 40 i) (M' 41 i) (M' 42 i) else 0) = (if (Q i && decide (WR 103 i = (p : Int))) = true then fM (WR 107 i) (WR 109 i) (WR 189 i) else 0) := fun i hi fU fM hf1 hf2 => by
      obtain ⟨⟨e1, e2, e3, e4⟩, e5, e6⟩ := rows2 i hi
      obtain ⟨⟨d1, d2, d3, d4⟩, ew, er, eu, _⟩ := hDA.2.2 i hi
      have hp1 := g2 i hi
      have hq1 := r2 i hi
      have w1 : (M' 37 i = ((wc p : Nat) : Int)) ↔ (WR 103 i = (p : Int)) := by
        rw [e1]; unfold wc; split <;> omega
      unfold hitU at hp1
      unfold hitM at hq1
      rw [e2, e5, e3] at hq1
      rw [d1, d2, d3] at hp1
      rw [e4, e6, d3, d4]
      by_cases u0 : M' 107 i = 0
      · have : ¬ P i = true := fun q => (hp1.mp q).2.2.1 u0
        rw [Bool.eq_false_iff.mpr this, Bool.false_and, if_neg (by decide), u0]
        by_cases q : (Q i && decide (WR 103 i = (p : Int))) = true
        · rw [if_pos q]
          rw [Bool.and_eq_true] at q
          obtain ⟨k1, k2, k3, k4⟩ := hq1.mp q.1
          have z1 := (it_108 a2 i hi).1
          have z109 : M' 109 i = 0 := (a2.2.2.2.2.2.2.2.2.1 i hi).2.1 u0
          have z189' : WR 189 i = 0 := by rw [← hWR]; exact z189 nf4 N i hi (by rw [x3 107 (by decide) (by decide), uZ 107 (by decide) (by decide) (by decide) (by decide)]; exact u0)
          rw [z109, z189']; exact (hf2 0).symm
        · rw [if_neg q]
      · obtain ⟨f1, f2, f3⟩ := dl i hi (by rw [d3]; exact u0)
        have dd := day i hi
        have pq : P i = true ↔ Q i = true := by
          rw [hp1, hq1]
          by_cases lt : M' 106 i < (N : Int)
          · obtain ⟨p3, p4⟩ := pr2 (M' 106 i).toNat (by omega) f2
            rw [← p3, ← p4]
            exact ⟨fun q => ⟨q.1, by omega, q.2.1, q.2.2.2⟩, fun q => ⟨q.1, q.2.2.1, u0, q.2.2.2⟩⟩
          · exact ⟨fun q => absurd q.2.1 lt, fun q => absurd q.2.2.1 lt⟩
        by_cases q : (P i && decide (M' 37 i = ((wc p : Nat) : Int))) = true
        · have q' := q
          rw [Bool.and_eq_true, decide_eq_true_iff] at q'
          have lt := (hp1.mp q'.1).2.1
          rw [if_pos q, if_pos (by rw [Bool.and_eq_true, decide_eq_true_iff]; exact ⟨pq.mp q'.1, w1.mp q'.2⟩), hf1 _ _ _ u0, cn2 i hi f1 lt]
        · rw [if_neg q, if_neg]
          intro z
          rw [Bool.and_eq_true, decide_eq_true_iff] at z
          exact q (by rw [Bool.and_eq_true, decide_eq_true_iff]; exact ⟨pq.mpr z.1, w1.mpr z.2⟩)
    have ls : ∀ u b c : Int, u ≠ 0 → lsX u b c = lsM u b c := fun u b c hu => by
      unfold lsX lsM
      by_cases z : 0 < u
      · rw [if_pos z, if_neg (by omega)]
      · rw [if_neg z, if_pos (by omega)]
    have l0 : ∀ b : Int, lsM 0 b b = 0 := fun b => by unfold lsM; rw [if_neg (by decide)]; omega
    rw [y1, y2, y3, y4]
    refine ⟨sqP_c nd (fun i hi => key i hi (fun u b c => posX (lsX u b c)) (fun u b c => posX (lsM u b c)) (fun u b c hu => by rw [ls u b c hu]) (fun b => by rw [l0 b]; rfl)), sqP_c nd (fun i hi => key i hi (fun u b c => posX (-lsX u b c)) (fun u b c => posX (-lsM u b c)) (fun u b c hu => by rw [ls u b c hu]) (fun b => by rw [l0 b]; rfl))⟩
  -- their bounds
  have bnd : ∀ x : Nat, x < 24 → (0 ≤ M2 66 x ∧ M2 66 x ≤ 1000000000000) ∧ 0 ≤ M2 67 x ∧ M2 67 x ≤ 1000000000000 := fun x hx => by
    obtain ⟨y1, y2⟩ := g6 x hx
    have tb : ∀ i, i < nd → (P i && decide (M' 37 i = (x : Int))) = true → (0 ≤ posX (lsX (M' 40 i) (M' 41 i) (M' 42 i)) ∧ posX (lsX (M' 40 i) (M' 41 i) (M' 42 i)) ≤ 1000000000) ∧ 0 ≤ posX (-lsX (M' 40 i) (M' 41 i) (M' 42 i)) ∧ posX (-lsX (M' 40 i) (M' 41 i) (M' 42 i)) ≤ 1000000000 := fun i hi q => by
      rw [Bool.and_eq_true] at q
      obtain ⟨k1, k2, k3, k4⟩ := (g2 i hi).mp q.1
      obtain ⟨f1, f2, f3⟩ := dl i hi k3
      obtain ⟨⟨d1, d2, d3, d4⟩, _⟩ := hDA.2.2 i hi
      rw [d2] at k2
      have c := (cn42 i hi f1 k2).2
      have b := b109 i hi
      rw [d4]
      unfold posX lsX
      repeat' split
      all_goals omega
    have r66 := sqP_r (P := fun i => P i && decide (M' 37 i = (x : Int))) (t := fun i => posX (lsX (M' 40 i) (M' 41 i) (M' 42 i))) (B := 1000000000) (by decide) nd (fun i hi q => (tb i hi q).1)
    have r67 := sqP_r (P := fun i => P i && decide (M' 37 i = (x : Int))) (t := fun i => posX (-lsX (M' 40 i) (M' 41 i) (M' 42 i))) (B := 1000000000) (by decide) nd (fun i hi q => (tb i hi q).2)
    rw [y1, y2]
    omega
  have none : ∀ x : Nat, x < 24 → (∀ i, i < nd → M' 38 i = g → M' 37 i ≠ (x : Int)) → M2 66 x = 0 ∧ M2 67 x = 0 := fun x hx hn => by
    obtain ⟨y1, y2⟩ := g6 x hx
    rw [y1, y2]
    refine ⟨sqP_z nd (fun i hi q => ?_), sqP_z nd (fun i hi q => ?_)⟩
    all_goals
      rw [Bool.and_eq_true, decide_eq_true_iff] at q
      exact absurd q.2 (hn i hi ((g2 i hi).mp q.1).1)
  -- the reference judges
  have la2 : iv_la m2 nl := iv_la.c (fun q hq => by rw [m2q q (by omega) (by omega)]; exact wrM q (by omega) (by omega) (by omega) (by omega) (by omega)) (by rw [m2q 81 (by decide) (by decide)]; exact wr81 43 (by decide)) laM
  obtain ⟨y, j1, j2, j3⟩ := r_asksL (F := F) (n := nl) (g := g) (k := k) (M := m2) (by omega) la2 g4 (by omega) (fun p hp => by rw [← (sums p hp).1, ← (sums p hp).2]; exact bnd (wc p) (wc_r hp)) (fun p hp => by rw [m2q 95 (by decide) (by decide), wrM 95 (by decide) (by decide) (by decide) (by decide) (by decide)]; exact hH'.2.2.1 p hp) (by rw [m2q 96 (by decide) (by decide), wrM 96 (by decide) (by decide) (by decide) (by decide) (by decide), ← (hH'.2.2.2.1 g hg).1]; exact (hH'.2.2.2.1 g hg).2) 20 F 0 m2 (by omega) (by omega) (fun _ _ _ => rfl) (fun j hj => by omega)
  rw [show ((0 : Nat) : Int) = 0 from rfl] at j1
  have yq : ∀ q, (q < 223 ∨ 226 < q) → y q = WR q := fun q hq => by rw [j2 q (by omega) (by omega)]; exact m2q q (by omega) (by omega)
  have frY : FR n M' y := by
    obtain ⟨b1, b2, b3, b4, b5⟩ := frWR
    exact ⟨fun q hq => by rw [yq q (by omega)]; exact b1 q hq, fun q t c1 c2 c3 => by rw [yq q (by omega)]; exact b2 q t c1 c2 c3, fun j hj => by rw [yq 81 (by decide)]; exact b3 j hj, by rw [yq 81 (by decide)]; exact b4, fun j hj => by rw [yq 53 (by decide)]; exact b5 j hj⟩
  have qY := qe y frY (fun q hq => by rw [yq q (by omega)]; exact wrM q (by omega) (by omega) (by omega) (by omega) (by omega)) (by rw [yq 77 (by decide)]; exact wrM 77 (by decide) (by decide) (by decide) (by decide) (by decide))
  -- who claims what
  have rvE : ∀ w, rv m2 g k w = rv M' g k w := fun w => rv_c (fun q c1 c2 => by rw [m2q q (by omega) (by omega)]; exact wrM q (by omega) (by omega) (by omega) (by omega) (by omega)) (by rw [m2q 81 (by decide) (by decide)]; exact wr81 43 (by decide)) n43 g g4 k w
  have m95 : m2 95 = M' 95 := by rw [m2q 95 (by decide) (by decide)]; exact wrM 95 (by decide) (by decide) (by decide) (by decide) (by decide)
  have m96 : m2 96 = M' 96 := by rw [m2q 96 (by decide) (by decide)]; exact wrM 96 (by decide) (by decide) (by decide) (by decide) (by decide)
  have hs3 := hH'.2.2.2.1 g hg
  refine ⟨y, y, fun p => y 225 p, fun p => y 226 p, ⟨?_, fun yr hyr => ?_⟩, qY, fun p hp => ?_, ?_, fun Z hZ => ⟨fun p hp => ?_, fun x hx1 hx2 => ?_⟩, ?_⟩
  · unfold fM_asks0
    rw [eL, thr, cl_s, r1, cl_s, j1, cl1_s]
  · -- walks as BOOKED
    have yrq : ∀ q, (q < 223 ∨ (226 < q ∧ q ≠ 230)) → yr q = WR q := fun q hq => by rw [hyr q (by omega)]; exact yq q (by omega)
    have frYr : FR n M' yr := by
      obtain ⟨b1, b2, b3, b4, b5⟩ := frWR
      exact ⟨fun q hq => by rw [yrq q (by omega)]; exact b1 q hq, fun q t c1 c2 c3 => by rw [yrq q (by omega)]; exact b2 q t c1 c2 c3, fun j hj => by rw [yrq 81 (by decide)]; exact b3 j hj, by rw [yrq 81 (by decide)]; exact b4, fun j hj => by rw [yrq 53 (by decide)]; exact b5 j hj⟩
    have Iy : IT yr n nf nt nd nl now := a2.fr frYr
    obtain ⟨X3, w1, w2, w3, w4, w5⟩ := r_thr0 (F := F) (k := k) hF ⟨by omega, by omega⟩ Iy
    have w1' : KW M' X3 k n := w1.cc (fun q hq => frYr.1 q (by omega)) (frYr.2.2.1 43 (by decide)) frYr.2.1
    obtain ⟨⟨e1, e2, e3, e4, e5, e6, e7, e8, e9, e10⟩, _⟩ := aC X3 w1'
    have f104 : ∀ i, i < nd → 0 ≤ M' 104 i := fun i hi => (hDA.2.2 i hi).2.2.1.1
    have oz := fun q hq => wlk_o (nf := nf) (nt := nt) (nd := nd) (bk := 1) (K := X3) nf4 N q hq
    have thr2 := (w2 N (by omega)).2
    have eLy : fM_lastOver yr k = (N : Int) - 1 := by rw [(lo_M (k := k) Iy hk).1, hN]
    have frZ : FR n M' (wlk nf nt nd 1 N X3) := frYr.t (w5 N 1)
    have qZ := qe (wlk nf nt nd 1 N X3) frZ (fun q hq => by rw [oz q (by omega), w3 q (by omega) (by omega), yrq q (by omega)]; exact wrM q (by omega) (by omega) (by omega) (by omega) (by omega)) (by rw [oz 77 (by omega), w3 77 (by decide) (by decide), yrq 77 (by decide)]; exact wrM 77 (by decide) (by decide) (by decide) (by decide) (by decide))
    refine ⟨wlk nf nt nd 1 N X3, by rw [eLy]; exact thr2, qZ, fun p hp => ⟨by rw [oz 225 (by omega), w3 225 (by decide) (by decide), hyr 225 (by decide)], by rw [oz 226 (by omega), w3 226 (by decide) (by decide), hyr 226 (by decide)]⟩, ?_, by rw [oz 230 (by omega), w3 230 (by decide) (by decide)]⟩
    obtain ⟨q3, q4⟩ := (e5 g hg).2 (by omega)
    rw [feF_0 nd (fun i hi => by rw [(e4 104 (by omega)).2, w3 104 (by decide) (by decide), yrq 104 (by decide), wrM 104 (by decide) (by decide) (by decide) (by decide) (by decide)]; exact f104 i hi)] at q4
    dsimp only at q4
    rw [u2 54 (by decide) (by decide) (by decide), q4, Int.add_zero, Int.add_zero]
  · obtain ⟨b, k1, k2, k3⟩ := j3 p hp
    have s := sums p hp
    have bb := bnd (wc p) (wc_r hp)
    dsimp only
    refine ⟨by rw [s.1, j2 223 (by decide) (by decide)], by rw [s.2, j2 224 (by decide) (by decide)], rfl, rfl, ?_, by rw [k2]; exact wyX_r, fun q => by rw [k1] at q; rw [k2]; exact wyX_0 q⟩
    rw [k1]; exact smX_r (by rw [← s.1]; exact bb.1) (by rw [← s.2]; exact bb.2)
  · obtain ⟨b, k1, k2, k3⟩ := j3 (16 + g) (by omega)
    have s := sums (16 + g) (by omega)
    have z := none (wc (16 + g)) (wc_r (by omega)) (fun i hi q1 q2 => by
      obtain ⟨⟨d1, d2, d3, d4⟩, ew, er, eu, _⟩ := hDA.2.2 i hi
      unfold wc at q2
      rw [if_neg (by omega)] at q2
      omega)
    dsimp only
    rw [k1, ← s.1, ← s.2, z.1, z.2]; exact smX_0
  · obtain ⟨b, k1, k2, k3⟩ := j3 p hp
    have s := sums p hp
    have bb := bnd (wc p) (wc_r hp)
    have zM : ∀ q, (q < 68 ∨ 76 < q) → q ≠ 65 → q ≠ 66 → q ≠ 67 → Z q = M' q := fun q c1 c2 c3 c4 => by rw [hZ q c1]; exact u2 q c2 c3 c4
    have laZ : iv_la Z nl := iv_la.c (fun q hq => zM q (by omega) (by omega) (by omega) (by omega)) (by rw [zM 81 (by decide) (by decide) (by decide) (by decide)]) laM
    have rvZ : ∀ w, rv Z g k w = rv M' g k w := fun w => rv_c (fun q c1 c2 => zM q (by omega) (by omega) (by omega) (by omega)) (by rw [zM 81 (by decide) (by decide) (by decide) (by decide)]) n43 g g4 k w
    have su := uUQ_sumOf (F := F) (n := nl) (f := g) (x := wc p) (M := Z) (k := k) (by omega) laZ g4 (by omega) (by rw [hZ 65 (by decide)]; exact g5.1) (by rw [hZ 65 (by decide)]; exact g5.2) (wc_r hp) (by rw [hZ 66 (by decide)]; exact bb.1) (by rw [hZ 67 (by decide)]; exact bb.2)
    obtain ⟨b', wa1, wa2⟩ := uUQ_wayOf (F := F) (n := nl) (f := g) (x := wc p) (M := Z) (k := k) (by omega) laZ g4 (by omega) (by rw [hZ 65 (by decide)]; exact g5.1) (by rw [hZ 65 (by decide)]; exact g5.2) (wc_r hp) (by rw [hZ 66 (by decide)]; exact bb.1) (by rw [hZ 67 (by decide)]; exact bb.2) (by rw [zM 1 (by decide) (by decide) (by decide) (by decide), hH'.1.1]; have := hH'.1.2.2; omega) (fun j hj => by
      rw [zM 1 (by decide) (by decide) (by decide) (by decide), hH'.1.1] at hj
      rw [zM 5 (by decide) (by decide) (by decide) (by decide)]
      have := (hH'.2.1 j (by omega)).2.2
      exact ⟨by omega, by omega⟩) (by rw [zM 3 (by decide) (by decide) (by decide) (by decide)]; exact hs3.2)
    rw [hZ 66 (by decide), hZ 67 (by decide), rvZ, s.1, s.2] at su wa1
    rw [rvZ, rvZ, zM 3 (by decide) (by decide) (by decide) (by decide)] at wa1
    rw [zM 1 (by decide) (by decide) (by decide) (by decide), zM 5 (by decide) (by decide) (by decide) (by decide), hH'.1.1] at wa2
    rw [rvE, rvE, rvE, m96, ← hs3.1] at k2
    rw [rvE] at k1
    rw [m95] at k3
    dsimp only
    refine ⟨by rw [su, k1], ?_⟩
    rw [wa1, k2]
    by_cases sp : smX (m2 223 p) (m2 224 p) (rv M' g k 7) ≤ 0
    · rw [wyX_0 sp, wyX_0 sp]
    · have real : p < 16 → p < nh := fun q => by
        by_cases c : p < nh
        · exact c
        · have z := none (wc p) (wc_r hp) (fun i hi q1 q2 => by
            have := hH'.2.2.2.2 i hi
            unfold wc at q2
            rw [if_pos q] at q2
            omega)
          rw [s.1, s.2] at z
          rw [z.1, z.2, smX_0] at sp
          omega
      have be' : b' = b := by
        rw [Bool.eq_iff_iff, wa2, k3]
        unfold wc
        have nh16 := hH'.1.2.2
        by_cases q : p < 16
        · have r := real q
          have e5 := (hH'.2.1 p r).2.1
          rw [if_pos q, e5]
          exact ⟨fun t => ⟨q, t.2⟩, fun t => ⟨by omega, t.2⟩⟩
        · rw [if_neg q]
          exact ⟨fun t => by omega, fun t => absurd t.1 q⟩
      rw [be']
  · have zM : ∀ q, (q < 68 ∨ 76 < q) → q ≠ 65 → q ≠ 66 → q ≠ 67 → Z q = M' q := fun q c1 c2 c3 c4 => by rw [hZ q c1]; exact u2 q c2 c3 c4
    have laZ : iv_la Z nl := iv_la.c (fun q hq => zM q (by omega) (by omega) (by omega) (by omega)) (by rw [zM 81 (by decide) (by decide) (by decide) (by decide)]) laM
    have z := none x (by omega) (fun i hi q1 q2 => by
      obtain ⟨⟨d1, d2, d3, d4⟩, ew, er, eu, _⟩ := hDA.2.2 i hi
      omega)
    have su := uUQ_sumOf (F := F) (n := nl) (f := g) (x := x) (M := Z) (k := k) (by omega) laZ g4 (by omega) (by rw [hZ 65 (by decide)]; exact g5.1) (by rw [hZ 65 (by decide)]; exact g5.2) (by omega) (by rw [hZ 66 (by decide)]; exact (bnd x (by omega)).1) (by rw [hZ 67 (by decide)]; exact (bnd x (by omega)).2)
    rw [hZ 66 (by decide), hZ 67 (by decide), z.1, z.2, smX_0] at su
    refine ⟨su, ?_⟩
    unfold fUQ_wayOf
    rw [su, cl_s, w64_z, if_neg (by decide)]
  · obtain ⟨q1, q2⟩ := (v5 g hg).2 (by omega)
    have f104 : ∀ i, i < nd → 0 ≤ M' 104 i := fun i hi => (hDA.2.2 i hi).2.2.1.1
    have X2r : ∀ q, q ≠ 81 → q ≠ 65 → q ≠ 66 → q ≠ 67 ∧ (q < 68 ∨ 76 < q) → (q < 158 ∨ 222 < q ∨ (210 < q ∧ q < 221)) → X2 q = M' q := fun q c0 c1 c2 c3 c4 => by rw [x3 q c0 c4]; exact uZ q c1 c2 c3.1 c3.2
    rw [feF_0 nd (fun i hi => by rw [(v4 104 (by omega)).1, X2r 104 (by decide) (by decide) (by decide) (by decide) (by decide)]; exact f104 i hi)] at q1
    dsimp only at q1
    rw [hWR] at q1
    rw [yq 188 (by decide), u2 55 (by decide) (by decide) (by decide), q1, Int.add_zero, Int.add_zero]
