/-! what a party holds; booking, side by side -/
def hwm (K : bz_Mm) (w g D : Nat) : Nat → Int
  | 0 => 0
  | i + 1 => hwm K w g D i + if K 104 i = g ∧ K 106 i < D then (if K 103 i = (w : Int) then K 107 i else 0) else 0
theorem hwm_S (K : bz_Mm) (w g D i : Nat) : hwm K w g D (i + 1) = hwm K w g D i + if K 104 i = g ∧ K 106 i < D then (if K 103 i = (w : Int) then K 107 i else 0) else 0 := rfl
theorem hwm_D {K : bz_Mm} {w g D : Nat} : ∀ n : Nat, hwm K w g (D + 1) n = hwm K w g D n + sdl K g D (fun i => if K 103 i = (w : Int) then K 107 i else 0) n := by
  intro n
  induction n with
  | zero => rfl
  | succ n ih =>
    rw [hwm_S, hwm_S, sdl_S, ih]
    by_cases c : K 104 n = (g : Int)
    · by_cases c1 : K 106 n < (D : Int)
      · rw [if_pos (c := K 104 n = (g : Int) ∧ K 106 n < ((D + 1 : Nat) : Int)) ⟨c, by omega⟩, if_pos (c := K 104 n = (g : Int) ∧ K 106 n < (D : Int)) ⟨c, c1⟩, if_neg (c := K 104 n = (g : Int) ∧ K 106 n = (D : Int)) (by omega)]; omega
      · by_cases c2 : K 106 n = (D : Int)
        · rw [if_pos (c := K 104 n = (g : Int) ∧ K 106 n < ((D + 1 : Nat) : Int)) ⟨c, by omega⟩, if_neg (c := K 104 n = (g : Int) ∧ K 106 n < (D : Int)) (by omega), if_pos (c := K 104 n = (g : Int) ∧ K 106 n = (D : Int)) ⟨c, c2⟩]; omega
        · rw [if_neg (c := K 104 n = (g : Int) ∧ K 106 n < ((D + 1 : Nat) : Int)) (by omega), if_neg (c := K 104 n = (g : Int) ∧ K 106 n < (D : Int)) (by omega), if_neg (c := K 104 n = (g : Int) ∧ K 106 n = (D : Int)) (by omega)]; omega
    · rw [if_neg (c := K 104 n = (g : Int) ∧ K 106 n < ((D + 1 : Nat) : Int)) (fun q => c q.1), if_neg (c := K 104 n = (g : Int) ∧ K 106 n < (D : Int)) (fun q => c q.1), if_neg (c := K 104 n = (g : Int) ∧ K 106 n = (D : Int)) (fun q => c q.1)]; omega
theorem hwm_r {K : bz_Mm} {w g D nd : Nat} (h : ∀ i, i < nd → -10000 ≤ K 107 i ∧ K 107 i ≤ 10000) : ∀ i : Nat, i ≤ nd → -(10000 * (i : Int)) ≤ hwm K w g D i ∧ hwm K w g D i ≤ 10000 * (i : Int) := by
  intro i
  induction i with
  | zero => intro _; unfold hwm; omega
  | succ i ih =>
    intro hi
    have := ih (by omega)
    have := h i (by omega)
    rw [hwm_S]
    by_cases c : K 104 i = g ∧ K 106 i < D
    · rw [if_pos c]; split <;> omega
    · rw [if_neg c]; omega
theorem hwm_e {K K' : bz_Mm} {w g D : Nat} : ∀ n : Nat, (∀ i, i < n → K' 103 i = K 103 i ∧ K' 104 i = K 104 i ∧ K' 106 i = K 106 i ∧ (K 104 i = g → K 106 i < D → K' 107 i = K 107 i)) → hwm K' w g D n = hwm K w g D n := by
  intro n
  induction n with
  | zero => intro _; rfl
  | succ n ih =>
    intro h
    obtain ⟨a, b, c, d⟩ := h n (by omega)
    rw [hwm_S, hwm_S, ih (fun i hi => h i (by omega)), a, b, c]
    by_cases q : K 104 n = g ∧ K 106 n < D
    · rw [if_pos q, if_pos q, d q.1 q.2]
    · rw [if_neg q, if_neg q]
theorem usm_e {K K' : bz_Mm} {g D : Nat} : ∀ n : Nat, (∀ i, i < n → K' 104 i = K 104 i ∧ K' 106 i = K 106 i ∧ (K 104 i = g → K 106 i < D → K' 107 i = K 107 i)) → usm K' g D n = usm K g D n := by
  intro n
  induction n with
  | zero => intro _; rfl
  | succ n ih =>
    intro h
    obtain ⟨b, c, d⟩ := h n (by omega)
    rw [usm_S, usm_S, ih (fun i hi => h i (by omega)), b, c]
    by_cases q : K 104 n = g ∧ K 106 n < D
    · rw [if_pos q, if_pos q, d q.1 q.2]
    · rw [if_neg q, if_neg q]
/-- all units are someone's -/
theorem sumr_p {t : Nat → Int} : ∀ (m i : Nat), (∀ w, i ≤ w → w < i + m → 0 ≤ t w) → 0 ≤ sumr t i m 0 := by
  intro m
  induction m with
  | zero => intro i _; exact Int.le_refl 0
  | succ m ih =>
    intro i h
    rw [sumr_S, sumr_a]
    have := ih (i + 1) (fun w a b => h w (by omega) (by omega))
    have := h i (by omega) (by omega)
    omega
theorem sumr_ad {t s : Nat → Int} : ∀ (m i : Nat), sumr (fun w => t w + s w) i m 0 = sumr t i m 0 + sumr s i m 0 := by
  intro m
  induction m with
  | zero => intro i; rfl
  | succ m ih =>
    intro i
    rw [sumr_S, sumr_S, sumr_S, sumr_a, sumr_a t, sumr_a s, ih]; omega
theorem sumr_1 {x v : Int} : ∀ (m i : Nat), ((i : Int) ≤ x ∧ x < i + m → sumr (fun w => if x = (w : Int) then v else 0) i m 0 = v) ∧ (x < i → sumr (fun w => if x = (w : Int) then v else 0) i m 0 = 0) := by
  intro m
  induction m with
  | zero => intro i; exact ⟨fun h => by omega, fun _ => rfl⟩
  | succ m ih =>
    intro i
    rw [sumr_S, sumr_a]
    obtain ⟨a, b⟩ := ih (i + 1)
    refine ⟨fun h => ?_, fun h => ?_⟩
    · by_cases c : x = (i : Int)
      · rw [if_pos c, b (by omega)]; omega
      · rw [if_neg c, a (by omega)]; omega
    · rw [if_neg (by omega), b (by omega)]; omega
theorem sumr_0 : ∀ (m i : Nat), sumr (fun _ => 0) i m 0 = 0 := by
  intro m
  induction m with
  | zero => intro i; rfl
  | succ m ih => intro i; rw [sumr_S]; exact ih (i + 1)
theorem usm_hw {K : bz_Mm} {g D : Nat} : ∀ n : Nat, (∀ i, i < n → 0 ≤ K 103 i ∧ K 103 i < 20) → usm K g D n = sumr (fun w => hwm K w g D n) 0 20 0 := by
  intro n
  induction n with
  | zero => intro _; exact (sumr_0 20 0).symm
  | succ n ih =>
    intro h
    have hn := h n (by omega)
    have e : (fun w => hwm K w g D (n + 1)) = (fun w => hwm K w g D n + (fun w : Nat => if K 104 n = g ∧ K 106 n < D then (if K 103 n = (w : Int) then K 107 n else 0) else 0) w) := rfl
    rw [usm_S, e, sumr_ad, ih (fun i hi => h i (by omega))]
    congr 1
    by_cases q : K 104 n = g ∧ K 106 n < D
    · rw [if_pos q]
      have e2 : (fun w : Nat => if K 104 n = g ∧ K 106 n < D then (if K 103 n = (w : Int) then K 107 n else 0) else 0) = (fun w : Nat => if K 103 n = (w : Int) then K 107 n else 0) := funext (fun w => if_pos q)
      rw [e2]
      exact ((sumr_1 20 0).1 (by omega)).symm
    · rw [if_neg q]
      have e2 : (fun w : Nat => if K 104 n = g ∧ K 106 n < D then (if K 103 n = (w : Int) then K 107 n else 0) else 0) = (fun w : Nat => (0 : Int)) := funext (fun w => if_neg q)
      rw [e2, sumr_0]
theorem usm_p {K : bz_Mm} {g D n : Nat} (h3 : ∀ i, i < n → 0 ≤ K 103 i ∧ K 103 i < 20) (h : ∀ w, w < 20 → 0 ≤ hwm K w g D n) : 0 ≤ usm K g D n := by
  rw [usm_hw n h3]
  exact sumr_p 20 0 (fun w _ b => h w (by omega))
theorem hdN_sum {K : bz_Mm} {f D : Nat} {H : Nat → Int} {w : Nat} : ∀ n : Nat, (∀ i, i < n → 0 ≤ K 103 i) → hdN K f D H n w = H w + sdl K f D (fun i => if K 103 i = (w : Int) then uN K f D H i else 0) n := by
  intro n
  induction n with
  | zero => intro _; show H w = H w + 0; omega
  | succ n ih =>
    intro h
    have hn := h n (by omega)
    have ih' := ih (fun i hi => h i (by omega))
    rw [hdN_S, sdl_S]
    by_cases c : K 104 n = f ∧ K 106 n = D
    · rw [if_pos c, if_pos c]
      by_cases z : w = (K 103 n).toNat
      · rw [z, ud_eq, ← z, if_pos (by omega)]; omega
      · rw [ud_ne z, if_neg (by omega)]; omega
    · rw [if_neg c, if_neg c]; omega
/-- what a deal's party has ahead of it -/
def hbi (K : bz_Mm) (nd i : Nat) : Int := hwm K (K 103 i).toNat (K 104 i).toNat (K 106 i).toNat nd + sdl K (K 104 i).toNat (K 106 i).toNat (fun j => if K 103 j = K 103 i then K 107 j else 0) i
theorem hbi_e {K K' : bz_Mm} {nd i : Nat} (hi : i < nd) (h : ∀ j, j < nd → K' 103 j = K 103 j ∧ K' 104 j = K 104 j ∧ K' 106 j = K 106 j ∧ (K 106 j ≤ K 106 i → 0 ≤ K 106 j → K' 107 j = K 107 j)) (h0 : ∀ j, j < nd → 0 ≤ K 106 j) : hbi K' nd i = hbi K nd i := by
  obtain ⟨a, b, c, _⟩ := h i hi
  unfold hbi
  rw [a, b, c]
  congr 1
  · exact hwm_e nd (fun j hj => by
      obtain ⟨x, y, z, w⟩ := h j hj
      exact ⟨x, y, z, fun _ q => w (by have := h0 i hi; omega) (h0 j hj)⟩)
  · exact sdl_c i (fun j hj => by
      obtain ⟨x, y, z, w⟩ := h j (by omega)
      refine ⟨⟨y, z⟩, fun _ q => ?_⟩
      rw [x, w (by have := h0 i hi; omega) (h0 j (by omega))])
/-- a memory whose booked coins are the class's -/
def rX (X W : bz_Mm) : bz_Mm := fun q => if q = 109 then X 41 else W q
theorem rX_o {X W : bz_Mm} {q : Nat} (h : q ≠ 109) : rX X W q = W q := if_neg h
theorem rX_9 {X W : bz_Mm} : rX X W 109 = X 41 := if_pos rfl
theorem da_rX {M0 K X V : bz_Mm} {nf nd : Nat} (hDA : DA M0 K nf nd) (h1 : ∀ q, q < 40 → X q = M0 q) (h2 : ∀ q, 103 ≤ q → q ≤ 106 → V q = K q) (h3 : ∀ i, i < nd → X 40 i = V 107 i ∧ (-10000 ≤ V 107 i ∧ V 107 i ≤ 10000) ∧ (0 < K 105 i → 0 ≤ V 107 i) ∧ (K 105 i ≤ 0 → V 107 i ≤ 0)) : DA X (rX X V) nf nd := by
  obtain ⟨a1, a2, a3⟩ := hDA
  refine ⟨by rw [h1 34 (by decide)]; exact a1, by rw [h1 35 (by decide), h1 36 (by decide)]; exact a2, fun i hi => ?_⟩
  obtain ⟨⟨e1, e2, e3, e4⟩, hw, r4, r7, s1, s2⟩ := a3 i hi
  obtain ⟨v1, v2, v3, v4⟩ := h3 i hi
  rw [h1 38 (by decide), h1 35 (by decide), h1 37 (by decide), rX_9, rX_o (by decide), rX_o (by decide), rX_o (by decide), rX_o (by decide), rX_o (by decide), h2 104 (by decide) (by decide), h2 106 (by decide) (by decide), h2 103 (by decide) (by decide), h2 105 (by decide) (by decide)]
  exact ⟨⟨e1, e2, v1, rfl⟩, hw, r4, v2, v3, v4⟩
theorem c2Kn {K W : bz_Mm} {f D nt nd : Nat} {pc0 : Nat → Int} (hW : ∀ q, q < 188 → q ≠ 107 → W q = K q) (hcu : ∀ p, p < 8 → 0 ≤ K 92 p ∧ K 92 p < 3) (hp : ∀ p, p < 8 → W (191 + f) p = pc0 p) : c2X f D nt nd W = W 188 f + dcx K f D (K 81 61) nt pc0 (fun p => K (180 + p) D) (fun p => K (171 + p) D) (fun p => K (167 + (K 92 p).toNat) D) + feS W f D nd ∧ ∀ p, p < 8 → p2X f D nt W p = pcT K f D (K 81 61) p (pSp2 (pc0 p) (K (180 + p) D)) nt := by
  have hh : ∀ q, 97 ≤ q → q ≤ 102 → W q = K q := fun q a b => hW q (by omega) (by omega)
  refine ⟨?_, fun p hp8 => ?_⟩
  · unfold c2X
    rw [hW 81 (by decide) (by decide)]
    congr 2
    unfold dcx
    rw [(pcT_c hh f D (K 81 61) 0 0 nt).2]
    congr 1
    refine sumr_c 8 0 0 (fun j _ y => ?_)
    unfold tDv
    dsimp only
    rw [hp j (by omega), hW 92 (by decide) (by decide)]
    have z := hcu j (by omega)
    rw [hW (180 + j) (by omega) (by omega), hW (171 + j) (by omega) (by omega), hW (167 + (K 92 j).toNat) (by omega) (by omega)]
  · unfold p2X
    rw [hW 81 (by decide) (by decide), hp p hp8, hW (180 + p) (by omega) (by omega)]
    exact (pcT_c hh f D (K 81 61) p _ nt).1
/-- class and reference on a booking day D, funds below f done -/
def SB (K M0 : bz_Mm) (nf nd D f : Nat) (pc0 pc1 : Nat → Nat → Int) (dc : Nat → Int) (M1 Mu W : bz_Mm) : Prop :=
  (∀ q, (q < 40 ∨ q = 42 ∨ (44 < q ∧ q < 48) ∨ (49 < q ∧ q < 53) ∨ 64 < q) → Mu q = M0 q) ∧ (Mu 53 = M1 53 ∧ Mu 61 = M1 61 ∧ Mu 62 = M1 62 ∧ Mu 63 = M1 63 ∧ Mu 64 = M1 64) ∧
  (∀ g p, g < nf → p < 8 → Mu 58 (g * 8 + p) = pc1 g p) ∧
  (∀ q, (q < 188 ∧ q ≠ 107) ∨ (210 < q ∧ q ≠ 222) → W q = K q) ∧
  (∀ g, g < nf → (g < f → Mu 54 g = W 188 g) ∧ (f ≤ g → Mu 54 g = W 188 g + dc g + feF W g D f nd)) ∧
  (∀ g p, g < nf → p < 8 → (g < f → W (191 + g) p = pc1 g p) ∧ (f ≤ g → W (191 + g) p = pc0 g p)) ∧
  (∀ g, g < 4 → Mu 60 g = W 210 g ∧ Mu 44 g = W 210 g ∧ W 210 g = usm W g (if g < f then D + 1 else D) nd) ∧
  (∀ w g, w < 20 → g < 4 → Mu 43 (plH w g) = W (206 + g) w ∧ 0 ≤ W (206 + g) w ∧ W (206 + g) w = hwm W w g (if g < f then D + 1 else D) nd) ∧
  (∀ x h, x < 4 → h < 4 → Mu 59 (x * 4 + h) = W (206 + h) (16 + x)) ∧
  ((∀ g, g < f → opn (K 82) D = true → Mu 48 (g * 260 + D) = W (196 + g) D ∧ Mu 49 (g * 260 + D) = W (201 + g) D ∧ 0 ≤ Mu 48 (g * 260 + D) ∧ Mu 48 (g * 260 + D) ≤ 10000000 ∧ -10000000000000 ≤ Mu 49 (g * 260 + D) ∧ Mu 49 (g * 260 + D) ≤ 10000000000000) ∧ ∀ j, (∀ g, g < f → j ≠ g * 260 + D) → Mu 48 j = M0 48 j ∧ Mu 49 j = M0 49 j) ∧
  (∀ i, i < nd → (Mu 40 i = W 107 i ∧ Mu 41 i = W 189 i) ∧ (-10000 ≤ W 107 i ∧ W 107 i ≤ 10000) ∧ (0 < K 105 i → 0 ≤ W 107 i) ∧ (K 105 i ≤ 0 → W 107 i ≤ 0) ∧ (0 ≤ W 189 i ∧ W 189 i ≤ 1000000000) ∧ (W 107 i = 0 → W 189 i = 0) ∧ (¬ (K 104 i < f ∧ K 106 i = D ∧ opn (K 82) D = true) → W 107 i = K 107 i ∧ W 189 i = K 109 i) ∧ (K 104 i < f → K 106 i = D → opn (K 82) D = true → 0 ≤ hwm W (K 103 i).toNat (K 104 i).toNat D nd + sdl W (K 104 i).toNat D (fun j => if K 103 j = K 103 i then W 107 j else 0) i + W 107 i)) ∧ ∀ i, nd ≤ i → Mu 40 i = M0 40 i ∧ Mu 41 i = M0 41 i ∧ W 107 i = K 107 i
theorem w64_rg (x : Int) : -9223372036854775808 ≤ w64 x ∧ w64 x ≤ 9223372036854775807 := by
  unfold w64
  have h1 := Int.le_bmod (x := x) (m := 18446744073709551616) (by decide)
  have h2 := Int.bmod_lt (x := x) (m := 18446744073709551616) (by decide)
  omega
theorem feeX_r (A r : Int) : -10000000000000 ≤ feeX A r ∧ feeX A r ≤ 10000000000000 := by
  unfold feeX
  split
  · omega
  · have h := w64_rg (A * r)
    generalize w64 (A * r) = W at h
    have e : W.tdiv 1000000 = if 0 ≤ W then W / 1000000 else -(-W / 1000000) := by
      split
      · exact Int.tdiv_eq_ediv_of_nonneg (by omega)
      · obtain ⟨V, hV⟩ : ∃ V, W = -V := ⟨-W, by omega⟩
        rw [hV, Int.neg_tdiv, Int.tdiv_eq_ediv_of_nonneg (by omega), Int.neg_neg]
    rw [e]
    split <;> omega
