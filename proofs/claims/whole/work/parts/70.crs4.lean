/-! assets and prices in the class -/
theorem w64_mz {A c : Int} (h : w64 A = 0) : w64 (A * c) = 0 := by
  unfold w64 at h ⊢
  have h1 : (18446744073709551616 : Int) ∣ A := by
    have := Int.dvd_of_bmod_eq_zero h
    exact this
  obtain ⟨q, hq⟩ := h1
  rw [hq, Int.mul_assoc]
  exact Int.bmod_eq_zero_of_dvd ⟨q * c, rfl⟩
theorem w64_z : w64 0 = 0 := by decide
/-- a fee, from assets and a rate -/
def feeX (A r : Int) : Int := if w64 A < 0 then 0 else (w64 (A * r)).tdiv 1000000
theorem feeX_U {A r : Int} : (w64 (fJM_max1 0 A * r)).tdiv 1000000 = feeX A r := by
  unfold feeX fJM_max1
  rw [w64_z]
  by_cases c : 0 < w64 A
  · rw [if_pos c, if_neg (by omega)]
  · rw [if_neg c, Int.zero_mul, w64_z]
    by_cases c2 : w64 A < 0
    · rw [if_pos c2]; rfl
    · rw [if_neg c2, w64_mz (by omega)]
def madeX (A fee al : Int) : Int := if al = 0 then 10000 else fM_near ((w64 ((A - fee) * 100)).tdiv al) 0 10000000
theorem near_u {y : Int} (hy : r64 y) : fJM_max1 0 (fJM_min1 10000000 y) = fM_near y 0 10000000 := by
  have e : r64 (if (10000000 : Int) < y then 10000000 else y) := by
    split
    · exact ⟨by decide, by decide⟩
    · exact hy
  rw [uJM_min1 ⟨by decide, by decide⟩ hy, uJM_max1 ⟨by decide, by decide⟩ e, uM_near hy ⟨by decide, by decide⟩ ⟨by decide, by decide⟩]
  repeat' split
  all_goals omega
theorem near_p {y : Int} (hy : r64 y) : 0 ≤ fM_near y 0 10000000 ∧ fM_near y 0 10000000 ≤ 10000000 := by
  rw [uM_near hy ⟨by decide, by decide⟩ ⟨by decide, by decide⟩]
  repeat' split
  all_goals omega
theorem madeX_r {A fee al : Int} (h : 0 ≤ al) : 0 ≤ madeX A fee al ∧ madeX A fee al ≤ 10000000 := by
  unfold madeX
  split
  · decide
  · exact near_p (r64_td (by omega))
def swX (v fl al r2 r1 : Int) : Int := if r2 * al < 10000 * (if fl < 0 then -fl else fl) then fM_near ((w64 (v * (if fl < 0 then 10000 - r1 else 10000 + r1))).tdiv 10000) 0 10000000 else v
theorem swX_r {v fl al r2 r1 : Int} (hv : 0 ≤ v ∧ v ≤ 10000000) : 0 ≤ swX v fl al r2 r1 ∧ swX v fl al r2 r1 ≤ 10000000 := by
  unfold swX
  by_cases c : r2 * al < 10000 * (if fl < 0 then -fl else fl)
  · rw [if_pos c]; exact near_p (r64_td (c := 10000) (by decide))
  · rw [if_neg c]; exact hv
/-- the flow of a fund on a day, by units -/
def fwS (R : bz_Mm) (f D : Nat) : Nat → Int
  | 0 => 0
  | i + 1 => fwS R f D i + if R 104 i = f ∧ R 106 i = D then R 107 i else 0
theorem fwS_S (R : bz_Mm) (f D i : Nat) : fwS R f D (i + 1) = fwS R f D i + if R 104 i = f ∧ R 106 i = D then R 107 i else 0 := rfl
theorem fwS_k {R : bz_Mm} {f D : Nat} : ∀ (y x : Nat), x ≤ y → (∀ u, x ≤ u → u < y → R 106 u ≠ D) → fwS R f D y = fwS R f D x := by
  intro y
  induction y with
  | zero => intro x h _; have : x = 0 := by omega
            rw [this]
  | succ y ih =>
    intro x h1 h2
    by_cases c : x = y + 1
    · rw [c]
    · rw [fwS_S, if_neg (fun q => h2 y (by omega) (by omega) q.2), Int.add_zero]
      exact ih x (by omega) (fun u p q => h2 u p (by omega))
theorem fwS_r {R : bz_Mm} {f D nd : Nat} (h : ∀ i, i < nd → -10000 ≤ R 107 i ∧ R 107 i ≤ 10000) : ∀ i : Nat, i ≤ nd → -(10000 * (i : Int)) ≤ fwS R f D i ∧ fwS R f D i ≤ 10000 * (i : Int) := by
  intro i
  induction i with
  | zero => intro _; unfold fwS; omega
  | succ i ih =>
    intro hi
    have := ih (by omega)
    have := h i (by omega)
    rw [fwS_S]
    split <;> omega
/-- the deals of both -/
def DA (M R : bz_Mm) (nf nd : Nat) : Prop := (M 34 2 = nd ∧ nd ≤ 200) ∧ by_ok (M 35) (M 36) nd ∧ ∀ i, i < nd → (M 38 i = R 104 i ∧ M 35 i = R 106 i ∧ M 40 i = R 107 i ∧ M 41 i = R 109 i) ∧ ((0 ≤ M 37 i ∧ M 37 i < 16 ∧ R 103 i = M 37 i) ∨ (20 ≤ M 37 i ∧ M 37 i - 20 < nf ∧ R 104 i < M 37 i - 20 ∧ R 103 i = M 37 i - 4)) ∧ (0 ≤ R 104 i ∧ R 104 i < nf) ∧ (-10000 ≤ R 107 i ∧ R 107 i ≤ 10000) ∧ (0 < R 105 i → 0 ≤ R 107 i) ∧ (R 105 i ≤ 0 → R 107 i ≤ 0)
theorem DA.c {M M' R : bz_Mm} {nf nd : Nat} (h : DA M R nf nd) (h2 : ∀ q, q < 42 → M' q = M q) : DA M' R nf nd := by
  unfold DA at h ⊢
  rw [h2 34 (by decide), h2 35 (by decide), h2 36 (by decide), h2 37 (by decide), h2 38 (by decide), h2 40 (by decide), h2 41 (by decide)]
  exact h
/-- the day's deals in the order: positions a to b -/
def BLK (M : bz_Mm) (nd D a b : Nat) : Prop := M 53 15 = a ∧ M 53 16 = b ∧ a ≤ b ∧ b ≤ nd ∧ ptr (M 35) (M 36) nd a D ∧ (∀ j, a ≤ j → j < b → M 35 (M 36 j).toNat = D) ∧ (b < nd → M 35 (M 36 b).toNat ≠ D)
theorem BLK.e {M : bz_Mm} {nd D a b : Nat} (h : BLK M nd D a b) : nbx (M 35) (M 36) nd D b = nd := by
  unfold nbx; rw [if_neg (fun q => h.2.2.2.2.2.2 q.1 q.2)]
theorem uUC_flowOf {F f nf nd D a b : Nat} {M R : bz_Mm} (hF : 300 < F) (hf : f < 4) (hnf : nf ≤ 4) (hA : DA M R nf nd) (hB : BLK M nd D a b) : fUC_flowOf F M (f : Int) = some (fwS R f D nd) := by
  have he := hB.e
  obtain ⟨b1, b2, b3, b4, b5, b6, b7⟩ := hB
  obtain ⟨⟨a1, a2⟩, a3, a4⟩ := hA
  have key : ∀ (m fuel j : Nat), a ≤ j → j + m = b → m < fuel → UC_flowOf_L8 F fuel M (f : Int) (j : Int) (fwS R f D (nbx (M 35) (M 36) nd D j)) = some (fwS R f D nd) := by
    intro m
    induction m with
    | zero =>
      intro fuel j h0 h1 h2
      obtain ⟨fuel, rfl⟩ : ∃ q, fuel = q + 1 := ⟨fuel - 1, by omega⟩
      have e : j = b := by omega
      subst e
      rw [UC_flowOf_L8, b2, w32_n (by omega), if_neg (by omega), he]
    | succ m ih =>
      intro fuel j h0 h1 h2
      obtain ⟨fuel, rfl⟩ : ∃ q, fuel = q + 1 := ⟨fuel - 1, by omega⟩
      have bj := a3.1 j (by omega)
      obtain ⟨t, ht⟩ : ∃ t : Nat, M 36 j = (t : Int) := ⟨(M 36 j).toNat, by omega⟩
      have tn : t < nd := by omega
      have tt : (M 36 j).toNat = t := by omega
      obtain ⟨⟨e1, e2, e3, e4⟩, hw, r4, r7, _, _⟩ := a4 t tn
      have cD := b6 j h0 (by omega)
      obtain ⟨g1, g2⟩ := blkS a3 (show j < nd by omega) cD
      have nbj : nbx (M 35) (M 36) nd D j = t := by unfold nbx; rw [if_pos ⟨by omega, cD⟩, tt]
      rw [tt] at g1 g2 cD
      have stp : fwS R f D (nbx (M 35) (M 36) nd D (j + 1)) = fwS R f D t + if R 104 t = f ∧ R 106 t = D then R 107 t else 0 := by
        rw [fwS_k _ (t + 1) (by omega) (fun u x y q => ?_), fwS_S]
        have un : u < nd := by have := nbx_le (i := j + 1) (D := (D : Int)) a3; omega
        exact g2 u (by omega) y un (by rw [(a4 u un).1.2.1]; exact q)
      have e : (j : Int) + 1 = ((j + 1 : Nat) : Int) := by omega
      have nx := ih fuel (j + 1) (by omega) (by omega) (by omega)
      rw [stp] at nx
      rw [UC_flowOf_L8, b2, w32_n (show j ≤ 2147483647 by omega), w32_n (show b ≤ 2147483647 by omega), if_pos (by omega), rd_s (by omega) (by decide), ht, rd_s (by omega) (by decide), e1, w32_id (x := R 104 t) (by omega) (by omega), w32_n (show f ≤ 2147483647 by omega), rd_s (by omega) (by decide), e3, w32_id (x := R 107 t) (by omega) (by omega), lt_x, e, nbj]
      by_cases c : R 104 t = (f : Int)
      · rw [if_pos c]; rw [if_pos ⟨c, by rw [← e2]; exact cD⟩] at nx; exact nx
      · rw [if_neg c]; rw [if_neg (fun q => c q.1), Int.add_zero] at nx; exact nx
  have b0 := blk0 a3 b5
  have k0 : fwS R f D (nbx (M 35) (M 36) nd D a) = 0 := by
    rw [fwS_k _ 0 (by omega) (fun u _ y q => ?_)]
    · rfl
    · have un : u < nd := by have := nbx_le (i := a) (D := (D : Int)) a3; omega
      exact b0 u y un (by rw [(a4 u un).1.2.1]; exact q)
  have k := key (b - a) F a (Nat.le_refl a) (by omega) (by omega)
  rw [k0] at k
  unfold fUC_flowOf
  rw [lt_x, b1, k, cl1_s]
/-- assets, by the class's rows -/
def asX56 (M : bz_Mm) (f D : Nat) (c : Int) : Int := sumr (fun o => (w64 (M 59 (f * 4 + o) * M 56 (o * 260 + D))).tdiv 100) 0 f (sumr (fun p => (w64 (M 58 (f * 8 + p) * w32 (M 61 p) * w32 (M 62 (M 6 p).toNat))).tdiv 1000) 0 8 c)
theorem uUC_assets_56 {F f D : Nat} {M : bz_Mm} {c : Int} (hF : 300 < F) (hf : f < 4) (hD : D < 260) (hC : ∀ p, p < 8 → 0 ≤ M 6 p ∧ M 6 p < 3) (hP : ∀ p, p < 8 → -1000000 ≤ M 58 (f * 8 + p) ∧ M 58 (f * 8 + p) ≤ 1000000) (hH : ∀ o, o < f → r32 (M 59 (f * 4 + o))) (hQ : ∀ o, o < f → r32 (M 56 (o * 260 + D))) : fUC_assetsOf_56 F M (f : Int) (D : Int) c = some (asX56 M f D c) := by
  have k1 : ∀ (m fuel i : Nat) (a : Int), i + m = 8 → m < fuel → UC_assetsOf_56_L7 F fuel M (f : Int) (D : Int) (i : Int) a = some (sumr (fun p => (w64 (M 58 (f * 8 + p) * w32 (M 61 p) * w32 (M 62 (M 6 p).toNat))).tdiv 1000) i m a) := by
    intro m
    induction m with
    | zero =>
      intro fuel i a h1 h2
      obtain ⟨fuel, rfl⟩ : ∃ j, fuel = j + 1 := ⟨fuel - 1, by omega⟩
      rw [UC_assetsOf_56_L7, w32_n (by omega), if_neg (by omega)]
      rfl
    | succ m ih =>
      intro fuel i a h1 h2
      obtain ⟨fuel, rfl⟩ : ∃ j, fuel = j + 1 := ⟨fuel - 1, by omega⟩
      have e : (i : Int) + 1 = ((i + 1 : Nat) : Int) := by omega
      have e2 : (f : Int) * 8 + (i : Int) = ((f * 8 + i : Nat) : Int) := by omega
      have cu := hC i (by omega)
      have pr := hP i (by omega)
      have nx := ih fuel (i + 1) (a + (w64 (M 58 (f * 8 + i) * w32 (M 61 i) * w32 (M 62 (M 6 i).toNat))).tdiv 1000) (by omega) (by omega)
      rw [UC_assetsOf_56_L7, w32_n (show i ≤ 2147483647 by omega), if_pos (by omega), e2, rd_s (by omega) (by decide), w32_id (x := M 58 (f * 8 + i)) (by omega) (by omega), rd_s (by omega) (by decide), rd_s (by omega) (by decide), rd_i cu.1 cu.2 (by decide), lt_x, e, sumr_S]
      by_cases z : M 58 (f * 8 + i) = 0
      · rw [if_pos z]
        rw [z, Int.zero_mul, Int.zero_mul, w64_z, Int.zero_tdiv] at nx
        rw [z, Int.zero_mul, Int.zero_mul, w64_z, Int.zero_tdiv]
        rw [Int.add_zero] at nx ⊢
        exact nx
      · rw [if_neg z]; exact nx
  have k2 : ∀ (m fuel i : Nat) (a : Int), i + m = f → m < fuel → UC_assetsOf_56_L77 F fuel M (f : Int) (D : Int) (i : Int) a = some (sumr (fun o => (w64 (M 59 (f * 4 + o) * M 56 (o * 260 + D))).tdiv 100) i m a) := by
    intro m
    induction m with
    | zero =>
      intro fuel i a h1 h2
      obtain ⟨fuel, rfl⟩ : ∃ j, fuel = j + 1 := ⟨fuel - 1, by omega⟩
      rw [UC_assetsOf_56_L77, w32_n (show i ≤ 2147483647 by omega), w32_n (show f ≤ 2147483647 by omega), if_neg (by omega)]
      rfl
    | succ m ih =>
      intro fuel i a h1 h2
      obtain ⟨fuel, rfl⟩ : ∃ j, fuel = j + 1 := ⟨fuel - 1, by omega⟩
      have e : (i : Int) + 1 = ((i + 1 : Nat) : Int) := by omega
      have e2 : (f : Int) * 4 + (i : Int) = ((f * 4 + i : Nat) : Int) := by omega
      have e3 : fU_slot (i : Int) (D : Int) = ((i * 260 + D : Nat) : Int) := by unfold fU_slot; omega
      rw [UC_assetsOf_56_L77, w32_n (show i ≤ 2147483647 by omega), w32_n (show f ≤ 2147483647 by omega), if_pos (by omega), e2, e3, rd_s (by omega) (by decide), rd_s (by omega) (by decide), r32_w (hH i (by omega)), r32_w (hQ i (by omega)), lt_x, e, sumr_S]
      exact ih fuel (i + 1) _ (by omega) (by omega)
  have a1 := k1 8 F 0 c (by decide) (by omega)
  have a2 := k2 f F 0 (sumr (fun p => (w64 (M 58 (f * 8 + p) * w32 (M 61 p) * w32 (M 62 (M 6 p).toNat))).tdiv 1000) 0 8 c) (by omega) (by omega)
  rw [show ((0 : Nat) : Int) = 0 from rfl] at a1 a2
  unfold fUC_assetsOf_56
  rw [a1, cl1_s, a2, cl1_s]
  rfl
def prX56 (M : bz_Mm) (f D : Nat) (fl : Int) : Int := swX (madeX (asX56 M f D (M 55 f)) (feeX (asX56 M f D (M 55 f)) (rv M f D 0)) (M 60 f)) fl (M 60 f) (rv M f D 2) (rv M f D 1)
theorem uUC_make_56 {F f D nl nf nd a b : Nat} {M R : bz_Mm} (hF : 300 < F) (hf : f < 4) (hnf : nf ≤ 4) (hD : D < 260) (hL : iv_la M nl) (hA : DA M R nf nd) (hB : BLK M nd D a b) (hC : ∀ p, p < 8 → 0 ≤ M 6 p ∧ M 6 p < 3) (hP : ∀ p, p < 8 → -1000000 ≤ M 58 (f * 8 + p) ∧ M 58 (f * 8 + p) ≤ 1000000) (hH : ∀ o, o < f → r32 (M 59 (f * 4 + o))) (hQ : ∀ o, o < f → r32 (M 56 (o * 260 + D))) (hal : 0 ≤ M 60 f ∧ M 60 f ≤ 2000000) : fUC_makePrice_55_56_57 F M (f : Int) (D : Int) = some (st_ (st_ M 57 (f * 260 + D) (feeX (asX56 M f D (M 55 f)) (rv M f D 0))) 56 (f * 260 + D) (prX56 M f D (fwS R f D nd))) := by
  obtain ⟨_, b0, o0, w0⟩ := rule_M (F := F) (w := 0) hF hL hf hD (by decide)
  obtain ⟨_, b1, o1, w1⟩ := rule_M (F := F) (w := 1) hF hL hf hD (by decide)
  obtain ⟨_, b2, o2, w2⟩ := rule_M (F := F) (w := 2) hF hL hf hD (by decide)
  rw [show ((0 : Nat) : Int) = 0 from rfl] at b0
  rw [show ((1 : Nat) : Int) = 1 from rfl] at b1
  rw [show ((2 : Nat) : Int) = 2 from rfl] at b2
  have o1' : 0 ≤ rv M f D 1 ∧ rv M f D 1 ≤ 1000 := ⟨o1.2, o1.1⟩
  have o2' : 0 ≤ rv M f D 2 ∧ rv M f D 2 ≤ 10000 := ⟨o2.2, o2.1⟩
  have fr := fwS_r (R := R) (f := f) (D := D) (nd := nd) (fun i hi => (hA.2.2 i hi).2.2.2.1) nd (Nat.le_refl nd)
  have nd2 := hA.1.2
  have fl := uUC_flowOf (F := F) hF hf hnf hA hB
  have sl : fU_slot (f : Int) (D : Int) = ((f * 260 + D : Nat) : Int) := by unfold fU_slot; omega
  unfold fUC_makePrice_55_56_57
  rw [rd_s hf (by decide), uUC_assets_56 hF hf hD hC hP hH hQ, cl_s, b0, cl_s, w0, lt_x, feeX_U, rd_s hf (by decide), w32_id (x := M 60 f) (by omega) (by omega)]
  unfold prX56
  generalize asX56 M f D (M 55 f) = A
  generalize feeX A (rv M f D 0) = fee
  have mad : (if 0 < M 60 f then rd_ M 60 (f : Int) 4 fun x7 => dv_ ((A - fee) * 100) (w32 x7) fun x8 => some x8 else some 10000) = some (if 0 < M 60 f then (w64 ((A - fee) * 100)).tdiv (M 60 f) else 10000) := by
    rw [rd_s hf (by decide), w32_id (x := M 60 f) (by omega) (by omega)]
    by_cases z : 0 < M 60 f
    · rw [if_pos z, if_pos z]
      unfold dv_
      rw [r64_w (x := M 60 f) ⟨by omega, by omega⟩, if_neg (by omega)]
    · rw [if_neg z, if_neg z]
  have mr : fJM_max1 0 (fJM_min1 10000000 (if 0 < M 60 f then (w64 ((A - fee) * 100)).tdiv (M 60 f) else 10000)) = madeX A fee (M 60 f) := by
    unfold madeX
    by_cases z : 0 < M 60 f
    · rw [if_pos z, if_neg (by omega), near_u (r64_td (by omega))]
    · rw [if_neg z, if_pos (by omega), near_u ⟨by decide, by decide⟩]; decide
  rw [mad, cl1_s, mr, lt_x, fl, cl_s, b2, cl_s, rd_s hf (by decide), w2, w32_id (x := M 60 f) (by omega) (by omega), b1]
  have vr := madeX_r (A := A) (fee := fee) hal.1
  generalize madeX A fee (M 60 f) = v at vr
  generalize fwS R f D nd = g at fr
  have ab : fJM_abs1 g = if g < 0 then -g else g := by
    unfold fJM_abs1
    rw [r64_w (x := g) ⟨by omega, by omega⟩]
  have abr : 0 ≤ (if g < 0 then -g else g) ∧ (if g < 0 then -g else g) ≤ 2000000 := by split <;> omega
  have mur : 0 ≤ rv M f D 2 * M 60 f ∧ rv M f D 2 * M 60 f ≤ 20000000000 := by
    refine ⟨Int.mul_nonneg o2'.1 hal.1, ?_⟩
    have := Int.mul_le_mul o2'.2 hal.2 hal.1 (by decide)
    omega
  have sw : (if w64 (rv M f D 2 * M 60 f) < w64 (10000 * fJM_abs1 g) then cl_ (some (rv M f D 1)) fun x13 => cl1_ (if w64 g < 0 then some (10000 - x13) else some (10000 + x13)) fun v15 => lt_ (fJM_min1 10000000 ((w64 (v * w32 v15)).tdiv 10000)) fun l11 => some l11 else some v) = some (swX v g (M 60 f) (rv M f D 2) (rv M f D 1)) := by
    unfold swX
    rw [ab, r64_w (x := g) ⟨by omega, by omega⟩, r64_w (x := rv M f D 2 * M 60 f) ⟨by omega, by omega⟩, r64_w (x := 10000 * (if g < 0 then -g else g)) ⟨by omega, by omega⟩, cl_s]
    by_cases z : rv M f D 2 * M 60 f < 10000 * (if g < 0 then -g else g)
    · rw [if_pos z, if_pos z]
      have fin : ∀ s : Int, 9000 ≤ s → s ≤ 11000 → fJM_min1 10000000 ((w64 (v * w32 s)).tdiv 10000) = fM_near ((w64 (v * s)).tdiv 10000) 0 10000000 := fun s h1 h2 => by
        have vs : 0 ≤ v * s ∧ v * s ≤ 110000000000 := ⟨Int.mul_nonneg vr.1 (by omega), by have := Int.mul_le_mul vr.2 h2 (by omega) (by decide); omega⟩
        have q0 : 0 ≤ (v * s).tdiv 10000 := Int.tdiv_nonneg vs.1 (by decide)
        have q1 : r64 ((v * s).tdiv 10000) := by
          have := r64_td (x := v * s) (c := 10000) (by decide)
          rw [r64_w (x := v * s) ⟨by omega, by omega⟩] at this
          exact this
        rw [w32_id (x := s) (by omega) (by omega), r64_w (x := v * s) ⟨by omega, by omega⟩, uJM_min1 ⟨by decide, by decide⟩ q1, uM_near q1 ⟨by decide, by decide⟩ ⟨by decide, by decide⟩]
        repeat' split
        all_goals omega
      by_cases zz : g < 0
      · rw [if_pos zz, if_pos zz, cl1_s, lt_x, fin _ (by omega) (by omega)]
      · rw [if_neg zz, if_neg zz, cl1_s, lt_x, fin _ (by omega) (by omega)]
    · rw [if_neg z, if_neg z]
  rw [sw, cl1_s, sl, wa_s (by omega) (by decide), wa_s (by omega) (by decide)]
/-- assets, by the class's rows -/
def asX48 (M : bz_Mm) (f D : Nat) (c : Int) : Int := sumr (fun o => (w64 (M 59 (f * 4 + o) * M 48 (o * 260 + D))).tdiv 100) 0 f (sumr (fun p => (w64 (M 58 (f * 8 + p) * w32 (M 61 p) * w32 (M 62 (M 6 p).toNat))).tdiv 1000) 0 8 c)
theorem uUC_assets_48 {F f D : Nat} {M : bz_Mm} {c : Int} (hF : 300 < F) (hf : f < 4) (hD : D < 260) (hC : ∀ p, p < 8 → 0 ≤ M 6 p ∧ M 6 p < 3) (hP : ∀ p, p < 8 → -1000000 ≤ M 58 (f * 8 + p) ∧ M 58 (f * 8 + p) ≤ 1000000) (hH : ∀ o, o < f → r32 (M 59 (f * 4 + o))) (hQ : ∀ o, o < f → r32 (M 48 (o * 260 + D))) : fUC_assetsOf_48 F M (f : Int) (D : Int) c = some (asX48 M f D c) := by
  have k1 : ∀ (m fuel i : Nat) (a : Int), i + m = 8 → m < fuel → UC_assetsOf_48_L7 F fuel M (f : Int) (D : Int) (i : Int) a = some (sumr (fun p => (w64 (M 58 (f * 8 + p) * w32 (M 61 p) * w32 (M 62 (M 6 p).toNat))).tdiv 1000) i m a) := by
    intro m
    induction m with
    | zero =>
      intro fuel i a h1 h2
      obtain ⟨fuel, rfl⟩ : ∃ j, fuel = j + 1 := ⟨fuel - 1, by omega⟩
      rw [UC_assetsOf_48_L7, w32_n (by omega), if_neg (by omega)]
      rfl
    | succ m ih =>
      intro fuel i a h1 h2
      obtain ⟨fuel, rfl⟩ : ∃ j, fuel = j + 1 := ⟨fuel - 1, by omega⟩
      have e : (i : Int) + 1 = ((i + 1 : Nat) : Int) := by omega
      have e2 : (f : Int) * 8 + (i : Int) = ((f * 8 + i : Nat) : Int) := by omega
      have cu := hC i (by omega)
      have pr := hP i (by omega)
      have nx := ih fuel (i + 1) (a + (w64 (M 58 (f * 8 + i) * w32 (M 61 i) * w32 (M 62 (M 6 i).toNat))).tdiv 1000) (by omega) (by omega)
      rw [UC_assetsOf_48_L7, w32_n (show i ≤ 2147483647 by omega), if_pos (by omega), e2, rd_s (by omega) (by decide), w32_id (x := M 58 (f * 8 + i)) (by omega) (by omega), rd_s (by omega) (by decide), rd_s (by omega) (by decide), rd_i cu.1 cu.2 (by decide), lt_x, e, sumr_S]
      by_cases z : M 58 (f * 8 + i) = 0
      · rw [if_pos z]
        rw [z, Int.zero_mul, Int.zero_mul, w64_z, Int.zero_tdiv] at nx
        rw [z, Int.zero_mul, Int.zero_mul, w64_z, Int.zero_tdiv]
        rw [Int.add_zero] at nx ⊢
        exact nx
      · rw [if_neg z]; exact nx
  have k2 : ∀ (m fuel i : Nat) (a : Int), i + m = f → m < fuel → UC_assetsOf_48_L77 F fuel M (f : Int) (D : Int) (i : Int) a = some (sumr (fun o => (w64 (M 59 (f * 4 + o) * M 48 (o * 260 + D))).tdiv 100) i m a) := by
    intro m
    induction m with
    | zero =>
      intro fuel i a h1 h2
      obtain ⟨fuel, rfl⟩ : ∃ j, fuel = j + 1 := ⟨fuel - 1, by omega⟩
      rw [UC_assetsOf_48_L77, w32_n (show i ≤ 2147483647 by omega), w32_n (show f ≤ 2147483647 by omega), if_neg (by omega)]
      rfl
    | succ m ih =>
      intro fuel i a h1 h2
      obtain ⟨fuel, rfl⟩ : ∃ j, fuel = j + 1 := ⟨fuel - 1, by omega⟩
      have e : (i : Int) + 1 = ((i + 1 : Nat) : Int) := by omega
      have e2 : (f : Int) * 4 + (i : Int) = ((f * 4 + i : Nat) : Int) := by omega
      have e3 : fU_slot (i : Int) (D : Int) = ((i * 260 + D : Nat) : Int) := by unfold fU_slot; omega
      rw [UC_assetsOf_48_L77, w32_n (show i ≤ 2147483647 by omega), w32_n (show f ≤ 2147483647 by omega), if_pos (by omega), e2, e3, rd_s (by omega) (by decide), rd_s (by omega) (by decide), r32_w (hH i (by omega)), r32_w (hQ i (by omega)), lt_x, e, sumr_S]
      exact ih fuel (i + 1) _ (by omega) (by omega)
  have a1 := k1 8 F 0 c (by decide) (by omega)
  have a2 := k2 f F 0 (sumr (fun p => (w64 (M 58 (f * 8 + p) * w32 (M 61 p) * w32 (M 62 (M 6 p).toNat))).tdiv 1000) 0 8 c) (by omega) (by omega)
  rw [show ((0 : Nat) : Int) = 0 from rfl] at a1 a2
  unfold fUC_assetsOf_48
  rw [a1, cl1_s, a2, cl1_s]
  rfl
def prX48 (M : bz_Mm) (f D : Nat) (fl : Int) : Int := swX (madeX (asX48 M f D (M 54 f)) (feeX (asX48 M f D (M 54 f)) (rv M f D 0)) (M 60 f)) fl (M 60 f) (rv M f D 2) (rv M f D 1)
theorem uUC_make_48 {F f D nl nf nd a b : Nat} {M R : bz_Mm} (hF : 300 < F) (hf : f < 4) (hnf : nf ≤ 4) (hD : D < 260) (hL : iv_la M nl) (hA : DA M R nf nd) (hB : BLK M nd D a b) (hC : ∀ p, p < 8 → 0 ≤ M 6 p ∧ M 6 p < 3) (hP : ∀ p, p < 8 → -1000000 ≤ M 58 (f * 8 + p) ∧ M 58 (f * 8 + p) ≤ 1000000) (hH : ∀ o, o < f → r32 (M 59 (f * 4 + o))) (hQ : ∀ o, o < f → r32 (M 48 (o * 260 + D))) (hal : 0 ≤ M 60 f ∧ M 60 f ≤ 2000000) : fUC_makePrice_54_48_49 F M (f : Int) (D : Int) = some (st_ (st_ M 49 (f * 260 + D) (feeX (asX48 M f D (M 54 f)) (rv M f D 0))) 48 (f * 260 + D) (prX48 M f D (fwS R f D nd))) := by
  obtain ⟨_, b0, o0, w0⟩ := rule_M (F := F) (w := 0) hF hL hf hD (by decide)
  obtain ⟨_, b1, o1, w1⟩ := rule_M (F := F) (w := 1) hF hL hf hD (by decide)
  obtain ⟨_, b2, o2, w2⟩ := rule_M (F := F) (w := 2) hF hL hf hD (by decide)
  rw [show ((0 : Nat) : Int) = 0 from rfl] at b0
  rw [show ((1 : Nat) : Int) = 1 from rfl] at b1
  rw [show ((2 : Nat) : Int) = 2 from rfl] at b2
  have o1' : 0 ≤ rv M f D 1 ∧ rv M f D 1 ≤ 1000 := ⟨o1.2, o1.1⟩
  have o2' : 0 ≤ rv M f D 2 ∧ rv M f D 2 ≤ 10000 := ⟨o2.2, o2.1⟩
  have fr := fwS_r (R := R) (f := f) (D := D) (nd := nd) (fun i hi => (hA.2.2 i hi).2.2.2.1) nd (Nat.le_refl nd)
  have nd2 := hA.1.2
  have fl := uUC_flowOf (F := F) hF hf hnf hA hB
  have sl : fU_slot (f : Int) (D : Int) = ((f * 260 + D : Nat) : Int) := by unfold fU_slot; omega
  unfold fUC_makePrice_54_48_49
  rw [rd_s hf (by decide), uUC_assets_48 hF hf hD hC hP hH hQ, cl_s, b0, cl_s, w0, lt_x, feeX_U, rd_s hf (by decide), w32_id (x := M 60 f) (by omega) (by omega)]
  unfold prX48
  generalize asX48 M f D (M 54 f) = A
  generalize feeX A (rv M f D 0) = fee
  have mad : (if 0 < M 60 f then rd_ M 60 (f : Int) 4 fun x7 => dv_ ((A - fee) * 100) (w32 x7) fun x8 => some x8 else some 10000) = some (if 0 < M 60 f then (w64 ((A - fee) * 100)).tdiv (M 60 f) else 10000) := by
    rw [rd_s hf (by decide), w32_id (x := M 60 f) (by omega) (by omega)]
    by_cases z : 0 < M 60 f
    · rw [if_pos z, if_pos z]
      unfold dv_
      rw [r64_w (x := M 60 f) ⟨by omega, by omega⟩, if_neg (by omega)]
    · rw [if_neg z, if_neg z]
  have mr : fJM_max1 0 (fJM_min1 10000000 (if 0 < M 60 f then (w64 ((A - fee) * 100)).tdiv (M 60 f) else 10000)) = madeX A fee (M 60 f) := by
    unfold madeX
    by_cases z : 0 < M 60 f
    · rw [if_pos z, if_neg (by omega), near_u (r64_td (by omega))]
    · rw [if_neg z, if_pos (by omega), near_u ⟨by decide, by decide⟩]; decide
  rw [mad, cl1_s, mr, lt_x, fl, cl_s, b2, cl_s, rd_s hf (by decide), w2, w32_id (x := M 60 f) (by omega) (by omega), b1]
  have vr := madeX_r (A := A) (fee := fee) hal.1
  generalize madeX A fee (M 60 f) = v at vr
  generalize fwS R f D nd = g at fr
  have ab : fJM_abs1 g = if g < 0 then -g else g := by
    unfold fJM_abs1
    rw [r64_w (x := g) ⟨by omega, by omega⟩]
  have abr : 0 ≤ (if g < 0 then -g else g) ∧ (if g < 0 then -g else g) ≤ 2000000 := by split <;> omega
  have mur : 0 ≤ rv M f D 2 * M 60 f ∧ rv M f D 2 * M 60 f ≤ 20000000000 := by
    refine ⟨Int.mul_nonneg o2'.1 hal.1, ?_⟩
    have := Int.mul_le_mul o2'.2 hal.2 hal.1 (by decide)
    omega
  have sw : (if w64 (rv M f D 2 * M 60 f) < w64 (10000 * fJM_abs1 g) then cl_ (some (rv M f D 1)) fun x13 => cl1_ (if w64 g < 0 then some (10000 - x13) else some (10000 + x13)) fun v15 => lt_ (fJM_min1 10000000 ((w64 (v * w32 v15)).tdiv 10000)) fun l11 => some l11 else some v) = some (swX v g (M 60 f) (rv M f D 2) (rv M f D 1)) := by
    unfold swX
    rw [ab, r64_w (x := g) ⟨by omega, by omega⟩, r64_w (x := rv M f D 2 * M 60 f) ⟨by omega, by omega⟩, r64_w (x := 10000 * (if g < 0 then -g else g)) ⟨by omega, by omega⟩, cl_s]
    by_cases z : rv M f D 2 * M 60 f < 10000 * (if g < 0 then -g else g)
    · rw [if_pos z, if_pos z]
      have fin : ∀ s : Int, 9000 ≤ s → s ≤ 11000 → fJM_min1 10000000 ((w64 (v * w32 s)).tdiv 10000) = fM_near ((w64 (v * s)).tdiv 10000) 0 10000000 := fun s h1 h2 => by
        have vs : 0 ≤ v * s ∧ v * s ≤ 110000000000 := ⟨Int.mul_nonneg vr.1 (by omega), by have := Int.mul_le_mul vr.2 h2 (by omega) (by decide); omega⟩
        have q0 : 0 ≤ (v * s).tdiv 10000 := Int.tdiv_nonneg vs.1 (by decide)
        have q1 : r64 ((v * s).tdiv 10000) := by
          have := r64_td (x := v * s) (c := 10000) (by decide)
          rw [r64_w (x := v * s) ⟨by omega, by omega⟩] at this
          exact this
        rw [w32_id (x := s) (by omega) (by omega), r64_w (x := v * s) ⟨by omega, by omega⟩, uJM_min1 ⟨by decide, by decide⟩ q1, uM_near q1 ⟨by decide, by decide⟩ ⟨by decide, by decide⟩]
        repeat' split
        all_goals omega
      by_cases zz : g < 0
      · rw [if_pos zz, if_pos zz, cl1_s, lt_x, fin _ (by omega) (by omega)]
      · rw [if_neg zz, if_neg zz, cl1_s, lt_x, fin _ (by omega) (by omega)]
    · rw [if_neg z, if_neg z]
  rw [sw, cl1_s, sl, wa_s (by omega) (by decide), wa_s (by omega) (by decide)]
