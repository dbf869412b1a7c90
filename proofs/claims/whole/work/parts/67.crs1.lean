/-! the class's course: learn, splits, dividends -/
theorem uUC_learn {F n D a : Nat} {k : Int} {M R : bz_Mm} (hF : 500 < F) (hD : D < 260) (hk : r32 k) (hA : AL M R n) (ha : M 53 13 = a) (hp : ptr (M 10) (M 11) n a D) (hG : FLG M) : ∃ M', fUC_learn F M (D : Int) k = some M' ∧ (∀ q, q ≠ 53 → (q < 61 ∨ 64 < q) → M' q = M q) ∧ (∀ j, j ≠ 11 → j ≠ 12 → j ≠ 13 → M' 53 j = M 53 j) ∧ (∃ b : Nat, M' 53 13 = b ∧ ptr (M 10) (M 11) n b ((D : Int) + 1)) ∧ FLG M' ∧ (∀ s nr, s < 2 → nr < 8 → M' (61 + s) nr = lv R s nr k D n (M (61 + s) nr)) ∧ ∀ nr, nr < 8 → M' 63 nr = lv R 2 nr k D n 0 ∧ M' 64 nr = lv R 3 nr k D n 1000 := by
  obtain ⟨g1, g2, g3, g4⟩ := hG
  -- after the fills
  have fills : ∃ M1, (cl1_ (if w32 (M 53 11) = 0 then some M else cl_ (fJA_fill1 F M 63 8 0) fun m2 => some m2) fun m3 => cl1_ (if w32 (m3 53 12) = 0 then some m3 else cl_ (fJA_fill1 F m3 64 8 1000) fun m5 => some m5) fun m6 => wf_ m6 53 11 0 fun m7 => wf_ m7 53 12 0 fun m8 => cl1_ (UC_learn_L55 F F (D : Int) k m8) fun m17 => some m17) = (cl1_ (UC_learn_L55 F F (D : Int) k M1) fun m17 => some m17) ∧ (∀ q, q ≠ 53 → q ≠ 63 → q ≠ 64 → M1 q = M q) ∧ (∀ j, j ≠ 11 → j ≠ 12 → M1 53 j = M 53 j) ∧ (M1 53 11 = 0 ∧ M1 53 12 = 0) ∧ ∀ p, p < 8 → M1 63 p = 0 ∧ M1 64 p = 1000 := by
    have s1 : ∃ A, (if w32 (M 53 11) = 0 then some M else cl_ (fJA_fill1 F M 63 8 0) fun m2 => some m2) = some A ∧ (∀ q, q ≠ 63 → A q = M q) ∧ ∀ p, p < 8 → A 63 p = 0 := by
      rcases g1 with g1 | g1
      · exact ⟨M, by rw [g1, if_pos w32_0], fun _ _ => rfl, g3 g1⟩
      · refine ⟨fl M 63 0 8 0, by rw [g1, if_neg (by decide), uJA_fill1 (by omega) (by decide), cl_s], fun q hq => flz_o hq, fun p hp => ?_⟩
        rw [flz_e, if_pos (by omega)]
    obtain ⟨A, a1, a2, a3⟩ := s1
    have s2 : ∃ B, (if w32 (A 53 12) = 0 then some A else cl_ (fJA_fill1 F A 64 8 1000) fun m5 => some m5) = some B ∧ (∀ q, q ≠ 64 → B q = A q) ∧ ∀ p, p < 8 → B 64 p = 1000 := by
      rw [a2 53 (by decide)]
      rcases g2 with g2 | g2
      · exact ⟨A, by rw [g2, if_pos w32_0], fun _ _ => rfl, fun p hp => by rw [a2 64 (by decide)]; exact g4 g2 p hp⟩
      · refine ⟨fl A 64 0 8 1000, by rw [g2, if_neg (by decide), uJA_fill1 (by omega) (by decide), cl_s], fun q hq => flz_o hq, fun p hp => ?_⟩
        rw [flz_e, if_pos (by omega)]
    obtain ⟨B, b1, b2, b3⟩ := s2
    refine ⟨st_ (st_ B 53 11 0) 53 12 0, by rw [a1, cl1_s, b1, cl1_s, wf_s, wf_s], fun q x y z => by rw [st_ne x, st_ne x, b2 q z, a2 q y], fun j x y => by rw [st_eq, ud_ne y, st_eq, ud_ne x, b2 53 (by decide), a2 53 (by decide)], ⟨by rw [st_eq, ud_ne (by decide), st_eq, ud_eq], by rw [st_eq, ud_eq]⟩, fun p hp => ⟨by rw [st_ne (by decide), st_ne (by decide), b2 63 (by decide)]; exact a3 p hp, by rw [st_ne (by decide), st_ne (by decide)]; exact b3 p hp⟩⟩
  obtain ⟨M1, f1, f2, f3, f4, f5⟩ := fills
  have hA1 : AL M1 R n := hA.c (fun q hq => f2 q (by omega) (by omega) (by omega))
  have e10 : M1 10 = M 10 := f2 10 (by decide) (by decide) (by decide)
  have e11 : M1 11 = M 11 := f2 11 (by decide) (by decide) (by decide)
  have hp1 : ptr (M1 10) (M1 11) n a D := by rw [e10, e11]; exact hp
  have an : a ≤ n := hp.1
  obtain ⟨M', b1, b2, b3, b4, b5, b6⟩ := learn_L (F := F) hD hk hA1 hp1 (n - a) F a M1 (by omega) (by have := hA.1.2; omega) (Nat.le_refl a) (fun j x y => by omega) (fun _ _ _ => rfl) (fun _ _ _ _ => rfl) (by rw [f3 13 (by decide) (by decide)]; exact ha) ⟨Or.inl f4.1, Or.inl f4.2, fun _ p hp => (f5 p hp).1, fun _ p hp => (f5 p hp).2⟩ (fun s nr x y => by
    have := blk0 hA1.2.1 hp1
    rw [lv_skip _ _ 0 (by omega) (fun u _ z q => ?_)]
    · rfl
    · have un : u < n := by
        have : nbx (M1 10) (M1 11) n D a ≤ n := by
          unfold nbx
          split
          · rename_i z; have := hA1.2.1.1 a z.1; omega
          · omega
        omega
      apply this u z un
      rw [(hA1.2.2 u un).1.2.2.1]
      unfold tis at q
      simp only [Bool.and_eq_true, decide_eq_true_eq] at q
      exact q.2)
  refine ⟨M', ?_, fun q x y => by rw [b2 q x y, f2 q x (by omega) (by omega)], fun j x y z => by rw [b3 j x y z, f3 j x y], ?_, b5, fun s nr x y => ?_, fun nr hnr => ⟨?_, ?_⟩⟩
  · unfold fUC_learn
    rw [f1, b1, cl1_s]
  · rw [e10, e11] at b4; exact b4
  · rw [b6 s nr (by omega) y, f2 (61 + s) (by omega) (by omega) (by omega)]
  · have := b6 2 nr (by decide) hnr
    rw [show 61 + 2 = 63 from rfl] at this
    rw [this, (f5 nr hnr).1]
  · have := b6 3 nr (by decide) hnr
    rw [show 61 + 3 = 64 from rfl] at this
    rw [this, (f5 nr hnr).2]
theorem r64_td {x c : Int} (hc : 1 ≤ c) : r64 ((w64 x).tdiv c) := by
  have h : -9223372036854775808 ≤ w64 x ∧ w64 x ≤ 9223372036854775807 := by
    unfold w64 Int.bmod
    dsimp only
    split <;> omega
  generalize w64 x = y at h
  have h2 : (y.tdiv c).natAbs ≤ y.natAbs := by
    rw [Int.natAbs_tdiv]
    exact Nat.div_le_self _ _
  unfold r64
  by_cases p : 0 ≤ y
  · have := Int.tdiv_nonneg p (show 0 ≤ c by omega)
    omega
  · have : y.tdiv c ≤ 0 := by
      have := Int.tdiv_nonneg (show 0 ≤ -y by omega) (show 0 ≤ c by omega)
      rw [Int.neg_tdiv] at this
      omega
    omega
theorem bnd_near {y : Int} (hy : r64 y) : fUC_bounded y = fM_near y (-1000000) 1000000 := by
  have e : r64 (if (1000000 : Int) < y then 1000000 else y) := by
    split
    · exact ⟨by decide, by decide⟩
    · exact hy
  unfold fUC_bounded
  rw [uJM_min1 ⟨by decide, by decide⟩ hy, uJM_max1 ⟨by decide, by decide⟩ e, uM_near hy ⟨by decide, by decide⟩ ⟨by decide, by decide⟩]
  repeat' split
  all_goals omega
theorem near_r {y : Int} (hy : r64 y) : -1000000 ≤ fM_near y (-1000000) 1000000 ∧ fM_near y (-1000000) 1000000 ≤ 1000000 := by
  rw [uM_near hy ⟨by decide, by decide⟩ ⟨by decide, by decide⟩]
  repeat' split
  all_goals omega
theorem near_1000 {x : Int} (h : -1000000 ≤ x ∧ x ≤ 1000000) : fM_near ((w64 (x * w32 1000)).tdiv 1000) (-1000000) 1000000 = x := by
  rw [w32_id (x := 1000) (by decide) (by decide), w64_id (by omega) (by omega), Int.mul_tdiv_cancel x (by decide), uM_near ⟨by omega, by omega⟩ ⟨by decide, by decide⟩ ⟨by decide, by decide⟩, if_neg (by omega), if_neg (by omega)]
/-- pieces after a split, from pieces before -/
def pSp2 (x s : Int) : Int := fM_near ((w64 (x * w32 s)).tdiv 1000) (-1000000) 1000000
theorem pSp2_r (x s : Int) : -1000000 ≤ pSp2 x s ∧ pSp2 x s ≤ 1000000 := near_r (r64_td (by decide))
/-- pieces are within a million -/
def PCR (M : bz_Mm) (nf : Nat) : Prop := ∀ f p, f < nf → p < 8 → -1000000 ≤ M 58 (f * 8 + p) ∧ M 58 (f * 8 + p) ≤ 1000000
theorem uUC_split {F nf : Nat} {M : bz_Mm} (hF : 300 < F) (hnf : nf ≤ 4) (hP : PCR M nf) : ∃ M', fUC_splitPieces F M (nf : Int) = some M' ∧ (∀ q, q ≠ 58 → M' q = M q) ∧ ∀ f p, f < nf → p < 8 → M' 58 (f * 8 + p) = pSp2 (M 58 (f * 8 + p)) (M 64 p) := by
  have inner : ∀ (f : Nat), f < nf → ∀ (m fuel p : Nat) (W : bz_Mm), p + m = 8 → m < fuel → (∀ p', p ≤ p' → p' < 8 → -1000000 ≤ W 58 (f * 8 + p') ∧ W 58 (f * 8 + p') ≤ 1000000) → ∃ W', UC_splitPieces_L9 F fuel (f : Int) (nf : Int) (p : Int) W = some W' ∧ (∀ q, q ≠ 58 → W' q = W q) ∧ (∀ j, (j < f * 8 + p ∨ f * 8 + 8 ≤ j) → W' 58 j = W 58 j) ∧ ∀ p', p ≤ p' → p' < 8 → W' 58 (f * 8 + p') = pSp2 (W 58 (f * 8 + p')) (W 64 p') := by
    intro f hf m
    induction m with
    | zero =>
      intro fuel p W h1 h2 h3
      obtain ⟨fuel, rfl⟩ : ∃ j, fuel = j + 1 := ⟨fuel - 1, by omega⟩
      rw [UC_splitPieces_L9, w32_n (by omega), if_neg (by omega)]
      exact ⟨W, rfl, fun _ _ => rfl, fun _ _ => rfl, fun p' a b => by omega⟩
    | succ m ih =>
      intro fuel p W h1 h2 h3
      obtain ⟨fuel, rfl⟩ : ∃ j, fuel = j + 1 := ⟨fuel - 1, by omega⟩
      have e : (p : Int) + 1 = ((p + 1 : Nat) : Int) := by omega
      have e2 : (f : Int) * 8 + (p : Int) = ((f * 8 + p : Nat) : Int) := by omega
      have pr := h3 p (Nat.le_refl p) (by omega)
      rw [UC_splitPieces_L9, w32_n (show p ≤ 2147483647 by omega), if_pos (by omega), lt_x, e2, rd_s (by omega) (by decide), rd_s (by omega) (by decide), wa_s (by omega) (by decide), w32_id (x := W 58 (f * 8 + p)) (by omega) (by omega), bnd_near (r64_td (by decide)), e]
      obtain ⟨W', a1, a2, a3, a4⟩ := ih fuel (p + 1) (st_ W 58 (f * 8 + p) (pSp2 (W 58 (f * 8 + p)) (W 64 p))) (by omega) (by omega) (fun p' x y => by rw [st_eq, ud_ne (by omega)]; exact h3 p' (by omega) y)
      refine ⟨W', a1, fun q hq => by rw [a2 q hq, st_ne hq], fun j hj => by rw [a3 j (by omega), st_eq, ud_ne (by omega)], fun p' x y => ?_⟩
      by_cases c : p' = p
      · subst c; rw [a3 _ (by omega), st_eq, ud_eq]
      · rw [a4 p' (by omega) y, st_eq, ud_ne (by omega), st_ne (by decide)]
  have outer : ∀ (m fuel f : Nat) (W : bz_Mm), f + m = nf → m < fuel → (∀ f' p', f ≤ f' → f' < nf → p' < 8 → -1000000 ≤ W 58 (f' * 8 + p') ∧ W 58 (f' * 8 + p') ≤ 1000000) → ∃ W', UC_splitPieces_L2 F fuel (nf : Int) (f : Int) W = some W' ∧ (∀ q, q ≠ 58 → W' q = W q) ∧ (∀ j, j < f * 8 → W' 58 j = W 58 j) ∧ ∀ f' p', f ≤ f' → f' < nf → p' < 8 → W' 58 (f' * 8 + p') = pSp2 (W 58 (f' * 8 + p')) (W 64 p') := by
    intro m
    induction m with
    | zero =>
      intro fuel f W h1 h2 h3
      obtain ⟨fuel, rfl⟩ : ∃ j, fuel = j + 1 := ⟨fuel - 1, by omega⟩
      rw [UC_splitPieces_L2, w32_n (show f ≤ 2147483647 by omega), w32_n (show nf ≤ 2147483647 by omega), if_neg (by omega)]
      exact ⟨W, rfl, fun _ _ => rfl, fun _ _ => rfl, fun f' p' a b => by omega⟩
    | succ m ih =>
      intro fuel f W h1 h2 h3
      obtain ⟨fuel, rfl⟩ : ∃ j, fuel = j + 1 := ⟨fuel - 1, by omega⟩
      have e : (f : Int) + 1 = ((f + 1 : Nat) : Int) := by omega
      obtain ⟨W1, a1, a2, a3, a4⟩ := inner f (by omega) 8 F 0 W (by decide) (by omega) (fun p' _ y => h3 f p' (Nat.le_refl f) (by omega) y)
      rw [show ((0 : Nat) : Int) = 0 from rfl] at a1
      obtain ⟨W2, b1, b2, b3, b4⟩ := ih fuel (f + 1) W1 (by omega) (by omega) (fun f' p' x y z => by rw [a3 _ (by omega)]; exact h3 f' p' (by omega) y z)
      rw [UC_splitPieces_L2, w32_n (show f ≤ 2147483647 by omega), w32_n (show nf ≤ 2147483647 by omega), if_pos (by omega), a1, cl1_s, e, b1]
      refine ⟨W2, rfl, fun q hq => by rw [b2 q hq, a2 q hq], fun j hj => by rw [b3 j (by omega), a3 j (by omega)], fun f' p' x y z => ?_⟩
      by_cases c : f' = f
      · subst c; rw [b3 _ (by omega), a4 p' (by omega) z]
      · rw [b4 f' p' (by omega) y z, a3 _ (by omega), a2 64 (by decide)]
  obtain ⟨M', a1, a2, a3, a4⟩ := outer nf F 0 M (by omega) (by omega) (fun f' p' _ y z => hP f' p' y z)
  rw [show ((0 : Nat) : Int) = 0 from rfl] at a1
  refine ⟨M', ?_, a2, fun f p x y => a4 f p (by omega) x y⟩
  unfold fUC_splitPieces
  rw [a1, cl1_s]
/-- what dividends bring a fund -/
def tDv (pc dv rt : Nat → Int) (p : Nat) : Int := (w64 (pc p * w32 (dv p) * w32 (rt p))).tdiv 1000
theorem uUC_pay {F nf : Nat} {M : bz_Mm} (hF : 300 < F) (hnf : nf ≤ 4) (h14 : M 1 14 = nf) (hP : PCR M nf) (hC : ∀ p, p < 8 → 0 ≤ M 6 p ∧ M 6 p < 3) : ∃ M', fUC_payDividends F M = some M' ∧ (∀ q, q ≠ 54 → q ≠ 55 → M' q = M q) ∧ ∀ f, f < nf → M' 54 f = sumr (tDv (fun p => M 58 (f * 8 + p)) (M 63) (fun p => M 62 (M 6 p).toNat)) 0 8 (M 54 f) ∧ M' 55 f = sumr (tDv (fun p => M 58 (f * 8 + p)) (M 63) (fun p => M 62 (M 6 p).toNat)) 0 8 (M 55 f) := by
  have inner : ∀ (f : Nat), f < nf → ∀ (m fuel p : Nat) (W : bz_Mm), p + m = 8 → m < fuel → (∀ q, q ≠ 54 → q ≠ 55 → W q = M q) → ∃ W', UC_payDividends_L12 F fuel (f : Int) (p : Int) W = some W' ∧ (∀ q, q ≠ 54 → q ≠ 55 → W' q = M q) ∧ (∀ j, j ≠ f → W' 54 j = W 54 j ∧ W' 55 j = W 55 j) ∧ W' 54 f = sumr (tDv (fun p => M 58 (f * 8 + p)) (M 63) (fun p => M 62 (M 6 p).toNat)) p m (W 54 f) ∧ W' 55 f = sumr (tDv (fun p => M 58 (f * 8 + p)) (M 63) (fun p => M 62 (M 6 p).toNat)) p m (W 55 f) := by
    intro f hf m
    induction m with
    | zero =>
      intro fuel p W h1 h2 h3
      obtain ⟨fuel, rfl⟩ : ∃ j, fuel = j + 1 := ⟨fuel - 1, by omega⟩
      rw [UC_payDividends_L12, w32_n (by omega), if_neg (by omega)]
      exact ⟨W, rfl, h3, fun _ _ => ⟨rfl, rfl⟩, rfl, rfl⟩
    | succ m ih =>
      intro fuel p W h1 h2 h3
      obtain ⟨fuel, rfl⟩ : ∃ j, fuel = j + 1 := ⟨fuel - 1, by omega⟩
      have e : (p : Int) + 1 = ((p + 1 : Nat) : Int) := by omega
      have e2 : (f : Int) * 8 + (p : Int) = ((f * 8 + p : Nat) : Int) := by omega
      have pr := hP f p hf (by omega)
      have cr := hC p (by omega)
      have tv : (w64 (w32 (M 58 (f * 8 + p)) * (w32 (M 63 p) * w32 (M 62 (M 6 p).toNat)))).tdiv 1000 = tDv (fun p => M 58 (f * 8 + p)) (M 63) (fun p => M 62 (M 6 p).toNat) p := by
        unfold tDv
        rw [w32_id (x := M 58 (f * 8 + p)) (by omega) (by omega), Int.mul_assoc]
      rw [UC_payDividends_L12, w32_n (show p ≤ 2147483647 by omega), if_pos (by omega), rd_s (by omega) (by decide), rd_s (by omega) (by decide), h3 63 (by decide) (by decide), h3 6 (by decide) (by decide), rd_i cr.1 cr.2 (by decide), h3 62 (by decide) (by decide), lt_x, e2, rd_s (by omega) (by decide), h3 58 (by decide) (by decide), lt_x, tv, rd_s (by omega) (by decide), wa_s (by omega) (by decide), rd_s (by omega) (by decide), wa_s (by omega) (by decide), st_ne (show (55 : Nat) ≠ 54 by decide), e]
      obtain ⟨W', a1, a2, a3, a4, a5⟩ := ih fuel (p + 1) (st_ (st_ W 54 f (W 54 f + tDv (fun p => M 58 (f * 8 + p)) (M 63) (fun p => M 62 (M 6 p).toNat) p)) 55 f (W 55 f + tDv (fun p => M 58 (f * 8 + p)) (M 63) (fun p => M 62 (M 6 p).toNat) p)) (by omega) (by omega) (fun q x y => by rw [st_ne y, st_ne x]; exact h3 q x y)
      refine ⟨W', a1, a2, fun j hj => ?_, ?_, ?_⟩
      · obtain ⟨z1, z2⟩ := a3 j hj
        rw [z1, z2, st_ne (show (54 : Nat) ≠ 55 by decide), st_eq, st_eq, ud_ne hj, ud_ne hj]; exact ⟨rfl, rfl⟩
      · rw [a4, st_ne (show (54 : Nat) ≠ 55 by decide), st_eq, ud_eq, sumr_S]
      · rw [a5, st_eq, ud_eq, sumr_S]
  have outer : ∀ (m fuel f : Nat) (W : bz_Mm), f + m = nf → m < fuel → (∀ q, q ≠ 54 → q ≠ 55 → W q = M q) → (∀ f', f ≤ f' → f' < nf → W 54 f' = M 54 f' ∧ W 55 f' = M 55 f') → ∃ W', UC_payDividends_L2 F fuel (f : Int) W = some W' ∧ (∀ q, q ≠ 54 → q ≠ 55 → W' q = M q) ∧ (∀ j, j < f → W' 54 j = W 54 j ∧ W' 55 j = W 55 j) ∧ ∀ f', f ≤ f' → f' < nf → W' 54 f' = sumr (tDv (fun p => M 58 (f' * 8 + p)) (M 63) (fun p => M 62 (M 6 p).toNat)) 0 8 (M 54 f') ∧ W' 55 f' = sumr (tDv (fun p => M 58 (f' * 8 + p)) (M 63) (fun p => M 62 (M 6 p).toNat)) 0 8 (M 55 f') := by
    intro m
    induction m with
    | zero =>
      intro fuel f W h1 h2 h3 h4
      obtain ⟨fuel, rfl⟩ : ∃ j, fuel = j + 1 := ⟨fuel - 1, by omega⟩
      rw [UC_payDividends_L2, h3 1 (by decide) (by decide), h14, w32_n (show f ≤ 2147483647 by omega), w32_n (show nf ≤ 2147483647 by omega), if_neg (by omega)]
      exact ⟨W, rfl, h3, fun _ _ => ⟨rfl, rfl⟩, fun f' a b => by omega⟩
    | succ m ih =>
      intro fuel f W h1 h2 h3 h4
      obtain ⟨fuel, rfl⟩ : ∃ j, fuel = j + 1 := ⟨fuel - 1, by omega⟩
      have e : (f : Int) + 1 = ((f + 1 : Nat) : Int) := by omega
      obtain ⟨W1, a1, a2, a3, a4, a5⟩ := inner f (by omega) 8 F 0 W (by decide) (by omega) h3
      rw [show ((0 : Nat) : Int) = 0 from rfl] at a1
      obtain ⟨W2, b1, b2, b3, b4⟩ := ih fuel (f + 1) W1 (by omega) (by omega) a2 (fun f' x y => by
        obtain ⟨z1, z2⟩ := a3 f' (by omega)
        rw [z1, z2]; exact h4 f' (by omega) y)
      rw [UC_payDividends_L2, h3 1 (by decide) (by decide), h14, w32_n (show f ≤ 2147483647 by omega), w32_n (show nf ≤ 2147483647 by omega), if_pos (by omega), a1, cl1_s, e, b1]
      refine ⟨W2, rfl, b2, fun j hj => ?_, fun f' x y => ?_⟩
      · obtain ⟨z1, z2⟩ := b3 j (by omega)
        obtain ⟨z3, z4⟩ := a3 j (by omega)
        rw [z1, z2]; exact ⟨z3, z4⟩
      · by_cases c : f' = f
        · subst c
          obtain ⟨z1, z2⟩ := b3 f' (by omega)
          obtain ⟨z3, z4⟩ := h4 f' (Nat.le_refl f') y
          rw [z1, z2, a4, a5, z3, z4]; exact ⟨rfl, rfl⟩
        · exact b4 f' (by omega) y
  obtain ⟨M', a1, a2, a3, a4⟩ := outer nf F 0 M (by omega) (by omega) (fun _ _ _ => rfl) (fun _ _ _ => ⟨rfl, rfl⟩)
  rw [show ((0 : Nat) : Int) = 0 from rfl] at a1
  refine ⟨M', ?_, a2, fun f hf => a4 f (by omega) hf⟩
  unfold fUC_payDividends
  rw [a1, cl1_s]
