/-! units held by a day; feeders; the relation within a day -/
def usm (K : bz_Mm) (g D : Nat) : Nat → Int
  | 0 => 0
  | i + 1 => usm K g D i + if K 104 i = g ∧ K 106 i < D then K 107 i else 0
theorem usm_S (K : bz_Mm) (g D i : Nat) : usm K g D (i + 1) = usm K g D i + if K 104 i = g ∧ K 106 i < D then K 107 i else 0 := rfl
theorem usm_D {K : bz_Mm} {g D : Nat} : ∀ n : Nat, usm K g (D + 1) n = usm K g D n + sdl K g D (K 107) n := by
  intro n
  induction n with
  | zero => rfl
  | succ n ih =>
    rw [usm_S, usm_S, sdl_S, ih]
    by_cases c : K 104 n = (g : Int)
    · by_cases c1 : K 106 n < (D : Int)
      · rw [if_pos ⟨c, by omega⟩, if_pos ⟨c, c1⟩, if_neg (by omega)]; omega
      · by_cases c2 : K 106 n = (D : Int)
        · rw [if_pos ⟨c, by omega⟩, if_neg (by omega), if_pos ⟨c, c2⟩]; omega
        · rw [if_neg (by omega), if_neg (by omega), if_neg (by omega)]; omega
    · rw [if_neg (fun q => c q.1), if_neg (fun q => c q.1), if_neg (fun q => c q.1)]; omega
theorem usm_r {K : bz_Mm} {g D nd : Nat} (h : ∀ i, i < nd → -10000 ≤ K 107 i ∧ K 107 i ≤ 10000) : ∀ i : Nat, i ≤ nd → -(10000 * (i : Int)) ≤ usm K g D i ∧ usm K g D i ≤ 10000 * (i : Int) := by
  intro i
  induction i with
  | zero => intro _; unfold usm; omega
  | succ i ih =>
    intro hi
    have := ih (by omega)
    have := h i (by omega)
    rw [usm_S]
    split <;> omega
def hsm (K : bz_Mm) (x g D : Nat) : Nat → Int
  | 0 => 0
  | i + 1 => hsm K x g D i + if K 104 i = g ∧ K 106 i < D then (if K 103 i = 16 + (x : Int) then K 107 i else 0) else 0
theorem hsm_S (K : bz_Mm) (x g D i : Nat) : hsm K x g D (i + 1) = hsm K x g D i + if K 104 i = g ∧ K 106 i < D then (if K 103 i = 16 + (x : Int) then K 107 i else 0) else 0 := rfl
theorem hsm_D {K : bz_Mm} {x g D : Nat} : ∀ n : Nat, hsm K x g (D + 1) n = hsm K x g D n + sdl K g D (fun i => if K 103 i = 16 + (x : Int) then K 107 i else 0) n := by
  intro n
  induction n with
  | zero => rfl
  | succ n ih =>
    rw [hsm_S, hsm_S, sdl_S, ih]
    by_cases c : K 104 n = (g : Int)
    · by_cases c1 : K 106 n < (D : Int)
      · rw [if_pos (c := K 104 n = (g : Int) ∧ K 106 n < ((D + 1 : Nat) : Int)) ⟨c, by omega⟩, if_pos (c := K 104 n = (g : Int) ∧ K 106 n < (D : Int)) ⟨c, c1⟩, if_neg (c := K 104 n = (g : Int) ∧ K 106 n = (D : Int)) (by omega)]; omega
      · by_cases c2 : K 106 n = (D : Int)
        · rw [if_pos (c := K 104 n = (g : Int) ∧ K 106 n < ((D + 1 : Nat) : Int)) ⟨c, by omega⟩, if_neg (c := K 104 n = (g : Int) ∧ K 106 n < (D : Int)) (by omega), if_pos (c := K 104 n = (g : Int) ∧ K 106 n = (D : Int)) ⟨c, c2⟩]; omega
        · rw [if_neg (c := K 104 n = (g : Int) ∧ K 106 n < ((D + 1 : Nat) : Int)) (by omega), if_neg (c := K 104 n = (g : Int) ∧ K 106 n < (D : Int)) (by omega), if_neg (c := K 104 n = (g : Int) ∧ K 106 n = (D : Int)) (by omega)]; omega
    · rw [if_neg (c := K 104 n = (g : Int) ∧ K 106 n < ((D + 1 : Nat) : Int)) (fun q => c q.1), if_neg (c := K 104 n = (g : Int) ∧ K 106 n < (D : Int)) (fun q => c q.1), if_neg (c := K 104 n = (g : Int) ∧ K 106 n = (D : Int)) (fun q => c q.1)]; omega
theorem hsm_r {K : bz_Mm} {x g D nd : Nat} (h : ∀ i, i < nd → -10000 ≤ K 107 i ∧ K 107 i ≤ 10000) : ∀ i : Nat, i ≤ nd → -(10000 * (i : Int)) ≤ hsm K x g D i ∧ hsm K x g D i ≤ 10000 * (i : Int) := by
  intro i
  induction i with
  | zero => intro _; unfold hsm; omega
  | succ i ih =>
    intro hi
    have := ih (by omega)
    have := h i (by omega)
    rw [hsm_S]
    by_cases c : K 104 i = g ∧ K 106 i < D
    · rw [if_pos c]; split <;> omega
    · rw [if_neg c]; omega
def feF (W : bz_Mm) (g D f : Nat) : Nat → Int
  | 0 => 0
  | i + 1 => feF W g D f i + if W 103 i = 16 + (g : Int) ∧ W 106 i = D ∧ W 104 i < f then (if 0 < W 105 i then -W 189 i else W 189 i) else 0
theorem feF_S (W : bz_Mm) (g D f i : Nat) : feF W g D f (i + 1) = feF W g D f i + if W 103 i = 16 + (g : Int) ∧ W 106 i = D ∧ W 104 i < f then (if 0 < W 105 i then -W 189 i else W 189 i) else 0 := rfl
theorem feF_0 {W : bz_Mm} {g D : Nat} : ∀ n : Nat, (∀ i, i < n → 0 ≤ W 104 i) → feF W g D 0 n = 0 := by
  intro n
  induction n with
  | zero => intro _; rfl
  | succ n ih =>
    intro h
    have := h n (by omega)
    rw [feF_S, ih (fun i hi => h i (by omega)), if_neg (by omega)]; omega
theorem feF_all {W : bz_Mm} {g D : Nat} : ∀ n : Nat, (∀ i, i < n → W 103 i = 16 + (g : Int) → W 104 i < g) → feS W g D n = feF W g D g n := by
  intro n
  induction n with
  | zero => intro _; rfl
  | succ n ih =>
    intro h
    rw [feS_S, feF_S, ih (fun i hi => h i (by omega))]
    by_cases c : W 103 n = 16 + (g : Int) ∧ W 106 n = D
    · rw [if_pos c, if_pos (c := W 103 n = 16 + (g : Int) ∧ W 106 n = (D : Int) ∧ W 104 n < (g : Int)) ⟨c.1, c.2, h n (by omega) c.1⟩]
    · rw [if_neg c, if_neg (c := W 103 n = 16 + (g : Int) ∧ W 106 n = (D : Int) ∧ W 104 n < (g : Int)) (fun q => c ⟨q.1, q.2.1⟩)]
theorem feF_step {W W' K : bz_Mm} {g D f : Nat} {c : Nat → Int} : ∀ n : Nat, (∀ i, i < n → (W 103 i = K 103 i ∧ W 104 i = K 104 i ∧ W 105 i = K 105 i ∧ W 106 i = K 106 i) ∧ (W' 103 i = K 103 i ∧ W' 104 i = K 104 i ∧ W' 105 i = K 105 i ∧ W' 106 i = K 106 i) ∧ W' 189 i = (if K 104 i = f ∧ K 106 i = D then c i else W 189 i) ∧ (K 104 i = f → K 106 i = D → (if 0 < K 105 i then -c i else c i) = -sgX (K 107 i) (c i))) → feF W' g D (f + 1) n = feF W g D f n - sdl K f D (fun i => if K 103 i = 16 + (g : Int) then sgX (K 107 i) (c i) else 0) n := by
  intro n
  induction n with
  | zero => intro _; rfl
  | succ n ih =>
    intro h
    obtain ⟨⟨a1, a2, a3, a4⟩, ⟨b1, b2, b3, b4⟩, hc, hs⟩ := h n (by omega)
    rw [feF_S, feF_S, sdl_S, ih (fun i hi => h i (by omega)), a1, a2, a3, a4, b1, b2, b3, b4, hc]
    by_cases q : K 104 n = (f : Int) ∧ K 106 n = (D : Int)
    · rw [if_pos (c := K 104 n = (f : Int) ∧ K 106 n = (D : Int)) q, if_pos (c := K 104 n = (f : Int) ∧ K 106 n = (D : Int)) q, if_neg (c := K 103 n = 16 + (g : Int) ∧ K 106 n = (D : Int) ∧ K 104 n < (f : Int)) (by omega)]
      have := hs q.1 q.2
      by_cases w : K 103 n = 16 + (g : Int)
      · rw [if_pos (c := K 103 n = 16 + (g : Int) ∧ K 106 n = (D : Int) ∧ K 104 n < ((f + 1 : Nat) : Int)) ⟨w, q.2, by omega⟩, if_pos w, this]; omega
      · rw [if_neg (c := K 103 n = 16 + (g : Int) ∧ K 106 n = (D : Int) ∧ K 104 n < ((f + 1 : Nat) : Int)) (fun z => w z.1), if_neg w]; omega
    · rw [if_neg (c := K 104 n = (f : Int) ∧ K 106 n = (D : Int)) q, if_neg (c := K 104 n = (f : Int) ∧ K 106 n = (D : Int)) q]
      have e : (K 103 n = 16 + (g : Int) ∧ K 106 n = (D : Int) ∧ K 104 n < ((f + 1 : Nat) : Int)) ↔ (K 103 n = 16 + (g : Int) ∧ K 106 n = (D : Int) ∧ K 104 n < (f : Int)) := by omega
      by_cases w : K 103 n = 16 + (g : Int) ∧ K 106 n = (D : Int) ∧ K 104 n < (f : Int)
      · rw [if_pos (e.mpr w), if_pos w]; omega
      · rw [if_neg (fun z => w (e.mp z)), if_neg w]; omega
theorem sdl_z {R : bz_Mm} {f D : Nat} {t : Nat → Int} : ∀ n : Nat, (∀ i, i < n → R 104 i = f → R 106 i = D → t i = 0) → sdl R f D t n = 0 := by
  intro n
  induction n with
  | zero => intro _; rfl
  | succ n ih =>
    intro h
    rw [sdl_S, ih (fun i hi => h i (by omega))]
    by_cases q : R 104 n = f ∧ R 106 n = D
    · rw [if_pos q, h n (by omega) q.1 q.2]; omega
    · rw [if_neg q]; omega
theorem coX_0 (P : Int) : coX 0 P = 0 := by
  unfold coX
  rw [if_neg (by decide), show -(0 : Int) = 0 from rfl, Int.zero_mul, w64_z]; decide
theorem coX_r {u P : Int} (hu : -10000 ≤ u ∧ u ≤ 10000) (hP : 0 ≤ P ∧ P ≤ 10000000) : 0 ≤ coX u P ∧ coX u P ≤ 1000000000 := by
  unfold coX
  by_cases c : 0 < u
  · have h1 : 0 ≤ u * P := Int.mul_nonneg (by omega) hP.1
    have h2 : u * P ≤ 10000 * 10000000 := Int.mul_le_mul hu.2 hP.2 hP.1 (by decide)
    rw [if_pos c, r64_w (x := u * P + 99) ⟨by omega, by omega⟩, Int.tdiv_eq_ediv_of_nonneg (by omega)]
    omega
  · have h1 : 0 ≤ -u * P := Int.mul_nonneg (by omega) hP.1
    have h2 : -u * P ≤ 10000 * 10000000 := Int.mul_le_mul (by omega) hP.2 hP.1 (by decide)
    rw [if_neg c, r64_w (x := -u * P) ⟨by omega, by omega⟩, Int.tdiv_eq_ediv_of_nonneg h1]
    omega
theorem sg_neg {u c m : Int} (h1 : 0 < m → 0 ≤ u) (h2 : m ≤ 0 → u ≤ 0) (h3 : u = 0 → c = 0) : (if 0 < m then -c else c) = -sgX u c := by
  unfold sgX
  by_cases a : 0 < m
  · rw [if_pos a]
    have := h1 a
    by_cases b : 0 < u
    · rw [if_pos b]
    · rw [if_neg b, h3 (by omega)]; rfl
  · rw [if_neg a, if_neg (by have := h2 (by omega); omega)]; omega
/-- which deals are dealt, when the funds below f have had day D -/
def dnx (K : bz_Mm) (D f i : Nat) : Prop := opn (K 82) (K 106 i).toNat = true ∧ (K 106 i < D ∨ (K 106 i = D ∧ K 104 i < f))
/-- class and reference within day D, funds below f done -/
def SF (K M0 : bz_Mm) (nf nd D f : Nat) (pc0 pc1 : Nat → Nat → Int) (dc : Nat → Int) (M1 Mu WR WB : bz_Mm) : Prop :=
  (∀ q, q ≠ 42 → (q < 53 ∨ 64 < q) → Mu q = M0 q) ∧ (Mu 53 = M1 53 ∧ Mu 61 = M1 61 ∧ Mu 62 = M1 62 ∧ Mu 63 = M1 63 ∧ Mu 64 = M1 64) ∧
  (∀ g p, g < nf → p < 8 → Mu 58 (g * 8 + p) = pc1 g p) ∧
  (∀ q, (q < 188 ∨ (210 < q ∧ q ≠ 222)) → WR q = K q ∧ WB q = K q) ∧
  (∀ g, g < nf → (g < f → Mu 55 g = WR 188 g ∧ Mu 54 g = WB 188 g) ∧ (f ≤ g → Mu 55 g = WR 188 g + dc g + feF WR g D f nd ∧ Mu 54 g = WB 188 g + dc g + feF WB g D f nd)) ∧
  (∀ g p, g < nf → p < 8 → (g < f → WR (191 + g) p = pc1 g p ∧ WB (191 + g) p = pc1 g p) ∧ (f ≤ g → WR (191 + g) p = pc0 g p ∧ WB (191 + g) p = pc0 g p)) ∧
  (∀ g, g < 4 → Mu 60 g = WR 210 g ∧ Mu 60 g = WB 210 g ∧ Mu 60 g = usm K g (if g < f then D + 1 else D) nd) ∧
  (∀ x h, x < 4 → h < 4 → Mu 59 (x * 4 + h) = WR (206 + h) (16 + x) ∧ Mu 59 (x * 4 + h) = WB (206 + h) (16 + x) ∧ Mu 59 (x * 4 + h) = hsm K x h (if h < f then D + 1 else D) nd) ∧
  (∀ g d, g < nf → (d < D ∨ (d = D ∧ g < f)) → opn (K 82) d = true → Mu 56 (g * 260 + d) = WR (196 + g) d ∧ Mu 57 (g * 260 + d) = WR (201 + g) d ∧ 0 ≤ Mu 56 (g * 260 + d) ∧ Mu 56 (g * 260 + d) ≤ 10000000) ∧
  (∀ i, i < nd → (dnx K D f i → Mu 42 i = WR 189 i ∧ WB 189 i = K 109 i ∧ 0 ≤ WR 189 i ∧ WR 189 i ≤ 1000000000) ∧ (¬ dnx K D f i → WR 189 i = 0 ∧ WB 189 i = 0 ∧ Mu 42 i = M0 42 i)) ∧ ∀ i, nd ≤ i → Mu 42 i = M0 42 i
