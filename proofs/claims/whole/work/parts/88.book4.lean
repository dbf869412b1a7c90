/-! a fund's booking on a day of dealing, side by side -/
theorem sb_open {F : Nat} {K M0 M1 Mu W : bz_Mm} {k : Int} {n nf nt nd nl T D f a b : Nat} {pc0 pc1 : Nat → Nat → Int} {dc : Nat → Int} (hF : 500 < F) (hD : D < 260) (hS : STc K M0 k n nf nt nd nl T) (h39 : ∀ i, i < nd → M0 39 i = K 105 i ∧ -10000 ≤ K 105 i ∧ K 105 i ≤ 10000) (hL : LKp K nf nt D k pc0 pc1 dc) (hf : f < nf) (ho : opn (K 82) D = true) (hB : BK1 M0 M1 nd D a b) (hk1 : ∀ p, p < 8 → M1 61 p = K (158 + p) D) (hk2 : ∀ c, c < 3 → M1 62 c = K (167 + c) D) (h : SB K M0 nf nd D f pc0 pc1 dc M1 Mu W) : ∃ Mu', (∀ kk : bz_Mm → Option bz_Mm, (lt_ (fU_slot (f : Int) (D : Int)) fun l5 => cl_ (fUC_fillDeals F Mu (f : Int)) fun m4 => cl_ (fUC_makePrice_54_48_49 F m4 (f : Int) (D : Int)) fun m5 => rd_ m5 48 l5 1040 fun x6 => cl_ (fUC_countCoins_41 F m5 (f : Int) x6) fun m7 => rd_ m7 54 (f : Int) 4 fun x8 => rd_ m7 49 l5 1040 fun x9 => wa_ m7 54 (f : Int) 4 (x8 - x9) fun m10 => cl_ (fUC_passDeals F m10 (f : Int)) fun m11 => kk m11) = kk Mu') ∧ SB K M0 nf nd D (f + 1) pc0 pc1 dc M1 Mu' (gGo D nt nd 0 1 W f) ∧ ∀ (K' A : bz_Mm) (nl' : Nat), KK K K' nt nd nl' D → ((∀ i, i < nd → K 104 i = f → K 106 i = D → K' 107 i = gGo D nt nd 0 1 W f 107 i ∧ K' 109 i = gGo D nt nd 0 1 W f 189 i) ∧ K' (217 + f) D = gGo D nt nd 0 1 W f (201 + f) D) → NB K' nd W A → NB K' nd (gGo D nt nd 0 1 W f) (gGo D nt nd 1 0 A f) := by
  have hd := hS.day
  obtain ⟨t1, t2, t3, t4, t5, t6, t7, t8, t8b, ⟨t9, t9b⟩, t10, t11⟩ := h
  have hwK := hS.wok (W := K) (fun _ _ => rfl)
  obtain ⟨hA, hT, hDA, ⟨h14, hnf⟩, hC, ⟨hK1, hK2, hK3⟩, ⟨hLa, hLq⟩, h43, h7, h0, hal, hfee⟩ := hS
  have f4 : f < 4 := by omega
  have nd2 := hDA.1.2
  obtain ⟨l1, l2⟩ := hL f hf
  have n43 : (K 81 43).toNat ≤ 6 := by have := hwK.2.2.2.2.1; have := hwK.2.2.2.2.2.1; omega
  have kW : ∀ q, q < 188 → q ≠ 107 → W q = K q := fun q hq h7 => t4 q (Or.inl ⟨hq, h7⟩)
  have r3K : ∀ i, i < nd → 0 ≤ K 103 i ∧ K 103 i < 20 := fun i hi => (hwK.2.2.1 i hi).2
  have r3W : ∀ i, i < nd → 0 ≤ W 103 i ∧ W 103 i < 20 := fun i hi => by rw [kW 103 (by decide) (by decide)]; exact r3K i hi
  have r5W : ∀ i, i < nd → -10000 ≤ W 105 i ∧ W 105 i ≤ 10000 := fun i hi => by rw [kW 105 (by decide) (by decide)]; exact (h39 i hi).2
  have uW : ∀ i, i < nd → -10000 ≤ W 107 i ∧ W 107 i ≤ 10000 := fun i hi => (t10 i hi).2.1
  generalize hH : W (206 + f) = H
  have hHr : ∀ w, w < 20 → 0 ≤ H w ∧ H w ≤ 10000000 := fun w hw => by
    obtain ⟨_, y2, y3⟩ := t8 w f hw f4
    have := hwm_r (K := W) (w := w) (g := f) (D := if f < f then D + 1 else D) uW nd (Nat.le_refl nd)
    rw [hH] at y2 y3
    omega
  have u43 : ∀ w, w < 20 → Mu 43 (plH w f) = H w := fun w hw => by rw [(t8 w f hw f4).1, hH]
  -- units
  have uv := fun i hi => uN_v (K := W) (f := f) (D := D) (nd := nd) (i := i) (H := H) hHr r3W r5W hi nd2
  have hwW : WOK nl nt nd W := by
    obtain ⟨z1, z2, z3, z4⟩ := hwK
    refine ⟨by rw [kW 92 (by decide) (by decide)]; exact z1, by rw [kW 98 (by decide) (by decide)]; exact z2, fun i hi => ⟨?_, r3W i hi⟩, iv_la.c (fun q hq => kW q (by omega) (by omega)) (by rw [kW 81 (by decide) (by decide)]) z4⟩
    have := uW i hi; exact ⟨by omega, by omega⟩
  have eG : gGo D nt nd 0 1 W f = gGo D nt nd 0 0 (fW f D nd H W) f := by
    rw [← hH]
    exact gGo_W f4 hwW (fun i hi => by have := r5W i hi; exact ⟨by omega, by omega⟩) (fun i hi => by rw [hH]; have := (uv i hi).2.1; exact ⟨by omega, by omega⟩) (by rw [kW 82 (by decide) (by decide)]; exact ho)
  have v7 : ∀ i, fW f D nd H W 107 i = if i < nd ∧ K 104 i = f ∧ K 106 i = D then uN W f D H i else W 107 i := fun i => by rw [fW_7, kW 104 (by decide) (by decide), kW 106 (by decide) (by decide)]
  have vo : ∀ q, q ≠ 107 → fW f D nd H W q = W q := fun q hq => fW_o hq
  rw [eG]
  generalize fW f D nd H W = V at v7 vo
  have kV : ∀ q, q < 188 → q ≠ 107 → V q = K q := fun q hq hn => by rw [vo q hn]; exact kW q hq hn
  have hV : ∀ i, i < nd → (-10000 ≤ V 107 i ∧ V 107 i ≤ 10000) ∧ (0 < K 105 i → 0 ≤ V 107 i) ∧ (K 105 i ≤ 0 → V 107 i ≤ 0) := fun i hi => by
    rw [v7 i]
    by_cases z : i < nd ∧ K 104 i = f ∧ K 106 i = D
    · rw [if_pos z]
      have := (uv i hi).2
      rw [kW 105 (by decide) (by decide)] at this
      exact this
    · rw [if_neg z]
      obtain ⟨_, y2, y3, y4, _⟩ := t10 i hi
      exact ⟨y2, y3, y4⟩
  have hwV : WOK nl nt nd V := by
    obtain ⟨z1, z2, z3, z4⟩ := hwK
    refine ⟨by rw [kV 92 (by decide) (by decide)]; exact z1, by rw [kV 98 (by decide) (by decide)]; exact z2, fun i hi => ⟨?_, by rw [kV 103 (by decide) (by decide)]; exact r3K i hi⟩, iv_la.c (fun q hq => kV q (by omega) (by omega)) (by rw [kV 81 (by decide) (by decide)]) z4⟩
    have := (hV i hi).1; exact ⟨by omega, by omega⟩
  -- the class's fill
  have hDAm : DA Mu (rX Mu W) nf nd := da_rX hDA (fun q hq => t1 q (by omega)) (fun q x y => kW q (by omega) (by omega)) (fun i hi => by
    obtain ⟨y1, y2, y3, y4, _⟩ := t10 i hi
    exact ⟨y1.1, y2, y3, y4⟩)
  have hBm : BLK Mu nd D a b := hB.blk t2.1 (t1 35 (by decide)) (t1 36 (by decide))
  obtain ⟨M2, fi1, fi2, fi3, fi4, fi5⟩ := uUC_fill (F := F) (f := f) (D := D) (M := Mu) (R := rX Mu W) (H := H) (by omega) f4 hnf hDAm hBm (fun i hi => by rw [t1 39 (by decide), rX_o (by decide), kW 105 (by decide) (by decide)]; exact (h39 i hi).1) (fun i hi => by rw [rX_o (by decide)]; exact r5W i hi) hHr u43
  have hcx := hdN_c (K := W) (K' := rX Mu W) (H := H) (f := f) (D := D) (rX_o (by decide)) (rX_o (by decide)) (rX_o (by decide)) (rX_o (by decide))
  have f40 : ∀ i, i < nd → M2 40 i = V 107 i := fun i hi => by
    rw [fi3 i, v7 i, rX_o (by decide), rX_o (by decide), kW 104 (by decide) (by decide), kW 106 (by decide) (by decide), (hcx i).2, (t10 i hi).1.1]
  have f43 : ∀ w g, w < 20 → g < 4 → M2 43 (plH w g) = if g = f then hdN W f D H nd w else Mu 43 (plH w g) := fun w g hw hg => by
    rw [fi4 w g hw hg, (hcx nd).1]
  have sV : sdl W f D (uN W f D H) nd = sdl V f D (V 107) nd := sdl_c nd (fun i hi => ⟨⟨by rw [kW 104 (by decide) (by decide), kV 104 (by decide) (by decide)], by rw [kW 106 (by decide) (by decide), kV 106 (by decide) (by decide)]⟩, fun q1 q2 => by
    rw [kW 104 (by decide) (by decide)] at q1
    rw [kW 106 (by decide) (by decide)] at q2
    rw [v7 i, if_pos ⟨hi, q1, q2⟩]⟩)
  have f44 : ∀ g, g < 4 → M2 44 g = Mu 44 g + if g = f then sdl V f D (V 107) nd else 0 := fun g hg => by
    rw [fi5 g hg, ← sV]
    have : sdl (rX Mu W) f D (uN (rX Mu W) f D H) nd = sdl W f D (uN W f D H) nd := sdl_c nd (fun i hi => ⟨⟨by rw [rX_o (by decide)], by rw [rX_o (by decide)]⟩, fun _ _ => (hcx i).2⟩)
    rw [this]
  have m2 : ∀ q, q ≠ 40 → q ≠ 43 → q ≠ 44 → M2 q = Mu q := fi2
  have u2 : ∀ q, (q < 40 ∨ q = 42 ∨ (44 < q ∧ q < 48) ∨ (49 < q ∧ q < 53) ∨ 64 < q) → M2 q = M0 q := fun q hq => by rw [m2 q (by omega) (by omega) (by omega)]; exact t1 q hq
  -- the class's price
  have dV : ∀ X : bz_Mm, (∀ q, q < 40 → X q = M0 q) → X 40 = M2 40 → DA X (rX X V) nf nd := fun X x1 x2 => da_rX hDA x1 (fun q x y => kV q (by omega) (by omega)) (fun i hi => ⟨by rw [x2]; exact f40 i hi, hV i hi⟩)
  have hDA2 := dV M2 (fun q hq => u2 q (by omega)) rfl
  have hB2 : BLK M2 nd D a b := hB.blk (by rw [m2 53 (by decide) (by decide) (by decide)]; exact t2.1) (u2 35 (by decide)) (u2 36 (by decide))
  have hLm : iv_la M2 nl := iv_la.c (fun q hq => u2 q (by omega)) (by rw [u2 81 (by decide)]) hLa
  have m6 : M2 6 = M0 6 := u2 6 (by decide)
  have m58 : M2 58 = Mu 58 := m2 58 (by decide) (by decide) (by decide)
  have m59 : M2 59 = Mu 59 := m2 59 (by decide) (by decide) (by decide)
  have m60 : M2 60 = Mu 60 := m2 60 (by decide) (by decide) (by decide)
  have m48 : M2 48 = Mu 48 := m2 48 (by decide) (by decide) (by decide)
  have m49 : M2 49 = Mu 49 := m2 49 (by decide) (by decide) (by decide)
  have m54 : M2 54 = Mu 54 := m2 54 (by decide) (by decide) (by decide)
  have m41 : M2 41 = Mu 41 := m2 41 (by decide) (by decide) (by decide)
  have u210 : W 210 f = usm W f D nd := by have := (t7 f f4).2.2; rw [if_neg (by omega)] at this; exact this
  have al : 0 ≤ W 210 f ∧ W 210 f ≤ 2000000 := by
    have x1 := usm_p (K := W) (g := f) (D := D) (n := nd) r3W (fun w hw => by
      have := t8 w f hw f4
      rw [if_neg (by omega)] at this
      omega)
    have x2 := usm_r (K := W) (g := f) (D := D) uW nd (Nat.le_refl nd)
    rw [u210]; omega
  have mk := uUC_make_48 (F := F) (f := f) (D := D) (M := M2) (R := rX M2 V) (by omega) f4 hnf hD hLm hDA2 hB2 (fun p hp => by rw [m6, (hC p hp).1]; exact (hC p hp).2) (fun p hp => by rw [m58, t3 f p hf hp, l2 p hp]; exact pcT_r (pSp2_r _ _) nt) (fun o hoo => by
    rw [m59, t8b f o f4 (by omega)]
    have := t8 (16 + f) o (by omega) (by omega)
    have := hwm_r (K := W) (w := 16 + f) (g := o) (D := if o < f then D + 1 else D) uW nd (Nat.le_refl nd)
    exact ⟨by omega, by omega⟩) (fun o hoo => by
    have q := (t9 o hoo ho).2.2
    rw [m48]
    exact ⟨by omega, by omega⟩) (by rw [m60, (t7 f f4).1]; exact al)
  -- it is the reference's
  have p0 : ∀ p, p < 8 → V (191 + f) p = pc0 f p := fun p hp => by rw [vo _ (by omega)]; exact (t6 f p hf hp).2 (Nat.le_refl f)
  obtain ⟨cR1, cR2⟩ := c2Kn (f := f) (D := D) (nt := nt) (nd := nd) (pc0 := pc0 f) kV (fun p hp => (hC p hp).2) p0
  have fdr : ∀ i, i < nd → K 103 i = 16 + (f : Int) → K 104 i < f := fun i hi q => by
    rcases (hDA.2.2 i hi).2.1 with w | w <;> omega
  have feR : feS V f D nd = feF W f D f nd := by
    rw [feF_all (W := V) nd (fun i hi q => by rw [kV 104 (by decide) (by decide)]; rw [kV 103 (by decide) (by decide)] at q; exact fdr i hi q)]
    have : ∀ m, feF V f D f m = feF W f D f m := fun m => by
      induction m with
      | zero => rfl
      | succ m ih => rw [feF_S, feF_S, ih, vo 103 (by decide), vo 104 (by decide), vo 105 (by decide), vo 106 (by decide), vo 189 (by decide)]
    exact this nd
  rw [hK2, ← l1, feR, vo 188 (by decide), ← (t5 f hf).2 (Nat.le_refl f), ← m54] at cR1
  rw [hK2] at cR2
  have n43' : (V 81 43).toNat ≤ 6 := by rw [kV 81 (by decide) (by decide)]; exact n43
  have rvV : ∀ w, rv V f D w = rv K f D w := fun w => rv_c (fun q x y => kV q (by omega) (by omega)) (by rw [kV 81 (by decide) (by decide)]) n43 f f4 D w
  have rvU : ∀ w, rv M2 f D w = rv K f D w := fun w => rv_c (fun q x y => by rw [u2 q (by omega)]; exact hLq q (by omega)) (by rw [u2 81 (by decide)]; exact h43) n43 f f4 D w
  have eA : a2X f D nt nd V = asX48 M2 f D (M2 54 f) := by
    unfold a2X asX48
    rw [cR1]
    have e1 : sumr (fun p => (w64 (p2X f D nt V p * w32 (V (158 + p) D) * w32 (V (167 + (V 92 p).toNat) D))).tdiv 1000) 0 8 (M2 54 f) = sumr (fun p => (w64 (M2 58 (f * 8 + p) * w32 (M2 61 p) * w32 (M2 62 (M2 6 p).toNat))).tdiv 1000) 0 8 (M2 54 f) := by
      refine sumr_c 8 0 _ (fun j _ y => ?_)
      have cu := hC j (by omega)
      rw [cR2 j (by omega), ← l2 j (by omega), m58, t3 f j hf (by omega), kV (158 + j) (by omega) (by omega), kV 92 (by decide) (by decide), kV (167 + (K 92 j).toNat) (by omega) (by omega), m2 61 (by decide) (by decide) (by decide), t2.2.1, hk1 j (by omega), m6, cu.1, m2 62 (by decide) (by decide) (by decide), t2.2.2.1, hk2 (K 92 j).toNat (by omega)]
    rw [e1]
    refine sumr_c f 0 _ (fun j _ y => ?_)
    unfold tHe
    rw [m59, m48, t8b f j f4 (by omega), (t9 j (by omega) ho).1, vo (206 + j) (by omega), vo (196 + j) (by omega)]
  have w210 : V 210 f = M2 60 f := by rw [vo 210 (by decide), m60]; exact (t7 f f4).1.symm
  have eFe : feX2 f D nt nd V = feeX (asX48 M2 f D (M2 54 f)) (rv M2 f D 0) := by
    unfold feX2; rw [eA, rvV, rvU]
  have fwE : fwS V f D nd = fwS (rX M2 V) f D nd := fwS_c (K := rX M2 V) (rX_o (by decide)).symm (rX_o (by decide)).symm (rX_o (by decide)).symm nd
  have ePr : prX2 f D nt nd V = prX48 M2 f D (fwS (rX M2 V) f D nd) := by
    unfold prX2 prX48
    rw [eFe, eA, w210, fwE, rvV, rvV, rvU, rvU, rvU]
  have pr : 0 ≤ prX48 M2 f D (fwS (rX M2 V) f D nd) ∧ prX48 M2 f D (fwS (rX M2 V) f D nd) ≤ 10000000 := swX_r (madeX_r (by rw [m60, (t7 f f4).1]; exact al.1))
  obtain ⟨r1, r2, r3, r4, r5, r6, r7, r8, r9, r10⟩ := gGo_R (f := f) (D := D) (nt := nt) (nd := nd) (W := V) f4 hD nd2 hwV (fun i hi => (hV i hi).1) (by rw [vo 210 (by decide)]; exact al) (by rw [kV 82 (by decide) (by decide)]; exact ho)
  rw [ePr] at r1 r2 r5
  rw [eFe] at r2 r6
  rw [cR1] at r2
  have fb := feeX_r (asX48 M2 f D (M2 54 f)) (rv M2 f D 0)
  generalize feeX (asX48 M2 f D (M2 54 f)) (rv M2 f D 0) = fee at mk r2 r6 fb
  generalize prX48 M2 f D (fwS (rX M2 V) f D nd) = P at mk r1 r2 r5 pr
  -- through the class's step
  have sl : fU_slot (f : Int) (D : Int) = ((f * 260 + D : Nat) : Int) := by unfold fU_slot; omega
  have x3 : ∀ q, q ≠ 48 → q ≠ 49 → st_ (st_ M2 49 (f * 260 + D) fee) 48 (f * 260 + D) P q = M2 q := fun q x y => by rw [st_ne x, st_ne y]
  have x48 : st_ (st_ M2 49 (f * 260 + D) fee) 48 (f * 260 + D) P 48 = ud (M2 48) (f * 260 + D) P := by rw [st_eq, st_ne (by decide)]
  have x49 : st_ (st_ M2 49 (f * 260 + D) fee) 48 (f * 260 + D) P 49 = ud (M2 49) (f * 260 + D) fee := by rw [st_ne (by decide), st_eq]
  generalize st_ (st_ M2 49 (f * 260 + D) fee) 48 (f * 260 + D) P = X3 at mk x3 x48 x49
  have hB3 : ∀ X : bz_Mm, (∀ q, q ≠ 41 → q ≠ 48 → q ≠ 49 → q ≠ 54 → X q = M2 q) → BLK X nd D a b := fun X hX => hB.blk (by rw [hX 53 (by decide) (by decide) (by decide) (by decide), m2 53 (by decide) (by decide) (by decide)]; exact t2.1) (by rw [hX 35 (by decide) (by decide) (by decide) (by decide)]; exact u2 35 (by decide)) (by rw [hX 36 (by decide) (by decide) (by decide) (by decide)]; exact u2 36 (by decide))
  obtain ⟨X5, c1, c2, c3⟩ := uUC_coins_41 (F := F) (f := f) (D := D) (M := X3) (R := rX X3 V) (P := P) (by omega) f4 hnf ⟨by omega, by omega⟩ (dV X3 (fun q hq => by rw [x3 q (by omega) (by omega)]; exact u2 q (by omega)) (x3 40 (by decide) (by decide))) (hB3 X3 (fun q _ x y _ => x3 q x y))
  have y54 : X5 54 = Mu 54 := by rw [c2 54 (by decide), x3 54 (by decide) (by decide), m54]
  have y49 : X5 49 (f * 260 + D) = fee := by rw [c2 49 (by decide), x49, ud_eq]
  have z10 : ∀ q, q ≠ 54 → st_ X5 54 f (Mu 54 f - fee) q = X5 q := fun q x => st_ne x
  have z54 : st_ X5 54 f (Mu 54 f - fee) 54 = ud (Mu 54) f (Mu 54 f - fee) := by rw [st_eq, y54]
  generalize hX10 : st_ X5 54 f (Mu 54 f - fee) = X10 at z10 z54
  have o10 : ∀ q, q ≠ 41 → q ≠ 48 → q ≠ 49 → q ≠ 54 → X10 q = M2 q := fun q w1 w2 w3 w4 => by rw [z10 q w4, c2 q w1, x3 q w2 w3]
  obtain ⟨Mu', p1, p2, p3, p4⟩ := uUC_pass (F := F) (f := f) (D := D) (M := X10) (R := rX X10 V) (by omega) hf hnf (dV X10 (fun q hq => by rw [o10 q (by omega) (by omega) (by omega) (by omega)]; exact u2 q (by omega)) (o10 40 (by decide) (by decide) (by decide) (by decide))) (hB3 X10 o10)
  refine ⟨Mu', fun kk => ?_, ?_, fun K' A nl' hk hx hn => nb_open f4 hD nd2 hwV (fun i hi => (hV i hi).1) (by rw [vo 210 (by decide)]; exact al) (by rw [kV 82 (by decide) (by decide)]; exact ho) vo kV hk hx hn⟩
  · rw [lt_x, sl, fi1, cl_s, mk, cl_s, rd_s (by omega) (by decide), x48, ud_eq, c1, cl_s, rd_s f4 (by decide), rd_s (by omega) (by decide), y49, y54, wa_s f4 (by decide), hX10, p1, cl_s]
  · have k41 : ∀ i, i < nd → X10 41 i = if K 104 i = f ∧ K 106 i = D then coX (V 107 i) P else W 189 i := fun i hi => by
      rw [z10 41 (by decide), c3 i, rX_o (by decide), rX_o (by decide), rX_o (by decide), kV 104 (by decide) (by decide), kV 106 (by decide) (by decide), x3 41 (by decide) (by decide), m41]
      by_cases z : K 104 i = f ∧ K 106 i = D
      · rw [if_pos ⟨hi, z⟩, if_pos z]
      · rw [if_neg (fun y => z y.2), if_neg z]; exact (t10 i hi).1.2
    have cN : ∀ i, i < nd → gGo D nt nd 0 0 V f 189 i = if K 104 i = f ∧ K 106 i = D then coX (V 107 i) P else W 189 i := fun i hi => by
      rw [r1 i, kV 104 (by decide) (by decide), kV 106 (by decide) (by decide), vo 189 (by decide)]
      by_cases z : K 104 i = f ∧ K 106 i = D
      · rw [if_pos ⟨hi, z⟩, if_pos z]
      · rw [if_neg (fun y => z y.2), if_neg z]
    have tl : ∀ q, q < 188 → gGo D nt nd 0 0 V f q = V q := fun q hq => r10 q (by omega) (by omega) (by omega) (by omega) (by omega) (by omega) (by omega) (by omega)
    have rS : ∀ t t' : Nat → Int, (∀ i, i < nd → K 104 i = f → K 106 i = D → t i = t' i) → sdl (rX X10 V) f D t nd = sdl V f D t' nd := fun t t' ht => sdl_c nd (fun i hi => ⟨⟨by rw [rX_o (by decide)], by rw [rX_o (by decide)]⟩, fun q1 q2 => ht i hi (by rw [rX_o (by decide), kV 104 (by decide) (by decide)] at q1; exact q1) (by rw [rX_o (by decide), kV 106 (by decide) (by decide)] at q2; exact q2)⟩)
    have nff : ∀ x, x < 4 → x ≤ f → ∀ t : Nat → Int, sdl V f D (fun i => if V 103 i = 16 + (x : Int) then t i else 0) nd = 0 := fun x hx hxf t => sdl_z nd (fun i hi q1 q2 => by
      rw [if_neg]
      intro w
      rw [kV 104 (by decide) (by decide)] at q1
      rw [kV 103 (by decide) (by decide)] at w
      rcases (hDA.2.2 i hi).2.1 with z | z <;> omega)
    have s41 : sdl (rX X10 V) f D (fun i => sgX (rX X10 V 107 i) (X10 41 i)) nd = sdl V f D (fun i => sgX (V 107 i) (coX (V 107 i) P)) nd := rS _ _ (fun i hi q1 q2 => by rw [rX_o (by decide), k41 i hi, if_pos ⟨q1, q2⟩])
    have s41x : ∀ x : Nat, sdl (rX X10 V) f D (fun i => if rX X10 V 103 i = 16 + (x : Int) then sgX (rX X10 V 107 i) (X10 41 i) else 0) nd = sdl V f D (fun i => if V 103 i = 16 + (x : Int) then sgX (V 107 i) (coX (V 107 i) P) else 0) nd := fun x => rS _ _ (fun i hi q1 q2 => by rw [rX_o (by decide), rX_o (by decide), k41 i hi, if_pos (c := K 104 i = (f : Int) ∧ K 106 i = (D : Int)) ⟨q1, q2⟩])
    have s107 : sdl (rX X10 V) f D (rX X10 V 107) nd = sdl V f D (V 107) nd := rS _ _ (fun i hi q1 q2 => by rw [rX_o (by decide)])
    have s107x : ∀ x : Nat, sdl (rX X10 V) f D (fun i => if rX X10 V 103 i = 16 + (x : Int) then rX X10 V 107 i else 0) nd = sdl V f D (fun i => if V 103 i = 16 + (x : Int) then V 107 i else 0) nd := fun x => rS _ _ (fun i hi q1 q2 => by rw [rX_o (by decide), rX_o (by decide)])
    have us : ∀ g D', (g = f → D' = D) → usm (gGo D nt nd 0 0 V f) g D' nd = usm W g D' nd := fun g D' hg => usm_e nd (fun i hi => by
      rw [tl 104 (by decide), tl 106 (by decide), tl 107 (by decide), vo 104 (by decide), vo 106 (by decide), v7 i]
      refine ⟨rfl, rfl, fun q1 q2 => ?_⟩
      rw [kW 104 (by decide) (by decide)] at q1
      rw [kW 106 (by decide) (by decide)] at q2
      rw [if_neg]
      rintro ⟨_, z1, z2⟩
      have := hg (by omega)
      omega)
    have hs : ∀ w g D', (g = f → D' = D) → hwm (gGo D nt nd 0 0 V f) w g D' nd = hwm W w g D' nd := fun w g D' hg => hwm_e nd (fun i hi => by
      rw [tl 103 (by decide), tl 104 (by decide), tl 106 (by decide), tl 107 (by decide), vo 103 (by decide), vo 104 (by decide), vo 106 (by decide), v7 i]
      refine ⟨rfl, rfl, rfl, fun q1 q2 => ?_⟩
      rw [kW 104 (by decide) (by decide)] at q1
      rw [kW 106 (by decide) (by decide)] at q2
      rw [if_neg]
      rintro ⟨_, z1, z2⟩
      have := hg (by omega)
      omega)
    have dN : ∀ g, g ≠ f → (if g < f + 1 then D + 1 else D) = (if g < f then D + 1 else D) := fun g hg => by
      by_cases z : g < f
      · rw [if_pos z, if_pos (by omega)]
      · rw [if_neg z, if_neg (by omega)]
    refine ⟨fun q hq => ?_, ⟨?_, ?_, ?_, ?_, ?_⟩, fun g p hg hp => ?_, fun q hq => ?_, fun g hg => ⟨fun q => ?_, fun q => ?_⟩, fun g p hg hp => ⟨fun q => ?_, fun q => ?_⟩, fun g hg => ?_, fun w g hw hg => ?_, fun x y hx hy => ?_, ⟨fun g hg hop => ?_, fun j hj => ?_⟩, fun i hi => ?_, fun i hi => ?_⟩
    · rw [p2 q (by omega) (by omega) (by omega) (by omega), o10 q (by omega) (by omega) (by omega) (by omega)]; exact u2 q hq
    · rw [p2 53 (by decide) (by decide) (by decide) (by decide), o10 53 (by decide) (by decide) (by decide) (by decide), m2 53 (by decide) (by decide) (by decide)]; exact t2.1
    · rw [p2 61 (by decide) (by decide) (by decide) (by decide), o10 61 (by decide) (by decide) (by decide) (by decide), m2 61 (by decide) (by decide) (by decide)]; exact t2.2.1
    · rw [p2 62 (by decide) (by decide) (by decide) (by decide), o10 62 (by decide) (by decide) (by decide) (by decide), m2 62 (by decide) (by decide) (by decide)]; exact t2.2.2.1
    · rw [p2 63 (by decide) (by decide) (by decide) (by decide), o10 63 (by decide) (by decide) (by decide) (by decide), m2 63 (by decide) (by decide) (by decide)]; exact t2.2.2.2.1
    · rw [p2 64 (by decide) (by decide) (by decide) (by decide), o10 64 (by decide) (by decide) (by decide) (by decide), m2 64 (by decide) (by decide) (by decide)]; exact t2.2.2.2.2
    · rw [p2 58 (by decide) (by decide) (by decide) (by decide), o10 58 (by decide) (by decide) (by decide) (by decide), m58]; exact t3 g p hg hp
    · rw [r10 q (by omega) (by omega) (by omega) (by omega) (by omega) (by omega) (by omega) (by omega), vo q (by omega)]; exact t4 q hq
    · obtain ⟨y1, y2, y3⟩ := p3 g (by omega)
      rw [s41x g, nff g (by omega) (by omega)] at y1
      by_cases e : g = f
      · subst e
        rw [if_pos rfl, s41, z54, ud_eq] at y1
        rw [y1, r2, m54]; omega
      · rw [if_neg e, z54, ud_ne e] at y1
        have := (t5 g hg).1 (by omega)
        rw [y1, r3 g e, vo 188 (by decide)]; omega
    · obtain ⟨y1, y2, y3⟩ := p3 g (by omega)
      have e : ¬ g = f := by omega
      rw [if_neg e, z54, ud_ne e, s41x g] at y1
      have w := (t5 g hg).2 (by omega)
      have fR := feF_step (W := W) (W' := gGo D nt nd 0 0 V f) (K := V) (g := g) (D := D) (f := f) (c := fun i => coX (V 107 i) P) nd (fun i hi => ⟨⟨by rw [vo 103 (by decide)], by rw [vo 104 (by decide)], by rw [vo 105 (by decide)], by rw [vo 106 (by decide)]⟩, ⟨by rw [tl 103 (by decide)], by rw [tl 104 (by decide)], by rw [tl 105 (by decide)], by rw [tl 106 (by decide)]⟩, by
        rw [cN i hi, kV 104 (by decide) (by decide), kV 106 (by decide) (by decide)], fun _ _ => sg_neg (by rw [kV 105 (by decide) (by decide)]; exact (hV i hi).2.1) (by rw [kV 105 (by decide) (by decide)]; exact (hV i hi).2.2) (fun z => by show coX _ _ = 0; rw [z, coX_0])⟩)
      rw [y1, r3 g e, vo 188 (by decide), fR]
      omega
    · by_cases e : g = f
      · subst e
        rw [r4 p hp, cR2 p hp, l2 p hp]
      · rw [r10 (191 + g) (by omega) (by omega) (by omega) (by omega) (by omega) (by omega) (by omega) (by omega), vo (191 + g) (by omega)]
        exact (t6 g p hg hp).1 (by omega)
    · rw [r10 (191 + g) (by omega) (by omega) (by omega) (by omega) (by omega) (by omega) (by omega) (by omega), vo (191 + g) (by omega)]
      exact (t6 g p hg hp).2 (by omega)
    · obtain ⟨_, _, y3⟩ := p3 g hg
      obtain ⟨x1, x2, x4⟩ := t7 g hg
      rw [o10 60 (by decide) (by decide) (by decide) (by decide), m60, s107] at y3
      have q44 : Mu' 44 g = M2 44 g := by rw [p2 44 (by decide) (by decide) (by decide) (by decide), o10 44 (by decide) (by decide) (by decide) (by decide)]
      rw [y3, q44, f44 g hg]
      by_cases e : g = f
      · subst e
        rw [if_pos rfl, r8, vo 210 (by decide), if_pos (by omega), usm_D, us g D (fun _ => rfl), ← u210]
        have : sdl (gGo D nt nd 0 0 V g) g D (gGo D nt nd 0 0 V g 107) nd = sdl V g D (V 107) nd := sdl_c nd (fun i hi => ⟨⟨by rw [tl 104 (by decide)], by rw [tl 106 (by decide)]⟩, fun _ _ => by rw [tl 107 (by decide)]⟩)
        rw [this]
        exact ⟨by omega, by omega, by omega⟩
      · rw [if_neg e, r9 g e, vo 210 (by decide), dN g e, us g _ (fun z => absurd z e)]
        exact ⟨by omega, by omega, x4⟩
    · obtain ⟨x1, x2, x4⟩ := t8 w g hw hg
      have q43 : Mu' 43 (plH w g) = M2 43 (plH w g) := by rw [p2 43 (by decide) (by decide) (by decide) (by decide), o10 43 (by decide) (by decide) (by decide) (by decide)]
      rw [q43, f43 w g hw hg]
      by_cases e : g = f
      · subst e
        have sm := hdN_sum (K := W) (f := g) (D := D) (H := H) (w := w) nd (fun i hi => (r3W i hi).1)
        have es : sdl W g D (fun i => if W 103 i = (w : Int) then uN W g D H i else 0) nd = sdl V g D (fun i => if V 103 i = (w : Int) then V 107 i else 0) nd := sdl_c nd (fun i hi => ⟨⟨by rw [vo 104 (by decide)], by rw [vo 106 (by decide)]⟩, fun q1 q2 => by
          rw [kW 104 (by decide) (by decide)] at q1
          rw [kW 106 (by decide) (by decide)] at q2
          rw [v7 i, if_pos (c := i < nd ∧ K 104 i = (g : Int) ∧ K 106 i = (D : Int)) ⟨hi, q1, q2⟩, vo 103 (by decide)]⟩)
        have es2 : sdl (gGo D nt nd 0 0 V g) g D (fun i => if gGo D nt nd 0 0 V g 103 i = (w : Int) then gGo D nt nd 0 0 V g 107 i else 0) nd = sdl V g D (fun i => if V 103 i = (w : Int) then V 107 i else 0) nd := sdl_c nd (fun i hi => ⟨⟨by rw [tl 104 (by decide)], by rw [tl 106 (by decide)]⟩, fun _ _ => by rw [tl 107 (by decide), tl 103 (by decide)]⟩)
        have pp := hdN_p (K := W) (f := g) (D := D) (H := H) hHr r3W r5W nd (Nat.le_refl nd) nd2 w hw
        rw [if_neg (by omega)] at x4
        rw [if_pos rfl, r7 w, vo (206 + g) (by omega), if_pos (by omega), hwm_D, hs w g D (fun _ => rfl), es2, ← x4, hH]
        exact ⟨by omega, by omega, rfl⟩
      · rw [if_neg e, r10 (206 + g) (by omega) (by omega) (by omega) (by omega) (by omega) (by omega) (by omega) (by omega), vo (206 + g) (by omega), dN g e, hs w g _ (fun z => absurd z e)]
        exact ⟨x1, x2, x4⟩
    · have t := p4 x y hx hy
      have x1 := t8b x y hx hy
      rw [o10 59 (by decide) (by decide) (by decide) (by decide), m59, s107x] at t
      have c16 : ((16 + x : Nat) : Int) = 16 + (x : Int) := by omega
      by_cases e : y = f
      · subst e
        rw [if_pos rfl] at t
        rw [t, r7, x1, c16, vo (206 + y) (by omega)]
      · rw [if_neg e, Int.add_zero] at t
        rw [t, r10 (206 + y) (by omega) (by omega) (by omega) (by omega) (by omega) (by omega) (by omega) (by omega), vo (206 + y) (by omega)]
        exact x1
    · have q48 : Mu' 48 = ud (Mu 48) (f * 260 + D) P := by rw [p2 48 (by decide) (by decide) (by decide) (by decide), z10 48 (by decide), c2 48 (by decide), x48, m48]
      have q49 : Mu' 49 = ud (Mu 49) (f * 260 + D) fee := by rw [p2 49 (by decide) (by decide) (by decide) (by decide), z10 49 (by decide), c2 49 (by decide), x49, m49]
      rw [q48, q49]
      by_cases e : g = f
      · subst e
        rw [r5, r6, ud_eq, ud_eq, ud_eq, ud_eq]; exact ⟨rfl, rfl, pr.1, pr.2, fb⟩
      · rw [ud_ne (show g * 260 + D ≠ f * 260 + D by omega), ud_ne (show g * 260 + D ≠ f * 260 + D by omega), r10 (196 + g) (by omega) (by omega) (by omega) (by omega) (by omega) (by omega) (by omega) (by omega), r10 (201 + g) (by omega) (by omega) (by omega) (by omega) (by omega) (by omega) (by omega) (by omega), vo (196 + g) (by omega), vo (201 + g) (by omega)]
        exact t9 g (by omega) hop
    · have q48 : Mu' 48 = ud (Mu 48) (f * 260 + D) P := by rw [p2 48 (by decide) (by decide) (by decide) (by decide), z10 48 (by decide), c2 48 (by decide), x48, m48]
      have q49 : Mu' 49 = ud (Mu 49) (f * 260 + D) fee := by rw [p2 49 (by decide) (by decide) (by decide) (by decide), z10 49 (by decide), c2 49 (by decide), x49, m49]
      rw [q48, q49, ud_ne (hj f (by omega)), ud_ne (hj f (by omega))]
      exact t9b j (fun g hg => hj g (by omega))
    · obtain ⟨y1, y2, y3, y4, y5, y6, y7, y8⟩ := t10 i hi
      have q40 : Mu' 40 i = V 107 i := by rw [p2 40 (by decide) (by decide) (by decide) (by decide), o10 40 (by decide) (by decide) (by decide) (by decide)]; exact f40 i hi
      have q41 : Mu' 41 i = X10 41 i := by rw [p2 41 (by decide) (by decide) (by decide) (by decide)]
      rw [q40, q41, k41 i hi, cN i hi, tl 107 (by decide)]
      refine ⟨⟨rfl, rfl⟩, (hV i hi).1, (hV i hi).2.1, (hV i hi).2.2, ?_, fun z => ?_, fun z => ?_, fun z1 z2 z3 => ?_⟩
      · by_cases c : K 104 i = f ∧ K 106 i = D
        · rw [if_pos c]; exact coX_r (hV i hi).1 pr
        · rw [if_neg c]; exact y5
      · by_cases c : K 104 i = f ∧ K 106 i = D
        · rw [if_pos c, z, coX_0]
        · rw [if_neg c]
          rw [v7 i, if_neg (fun q => c q.2)] at z
          exact y6 z
      · have c : ¬ (K 104 i = f ∧ K 106 i = D) := fun q => z ⟨by omega, q.2, ho⟩
        rw [v7 i, if_neg (fun q => c q.2), if_neg c]
        exact y7 (fun q => z ⟨by omega, q.2⟩)
      · have i3 := r3K i hi
        have i4 := (hDA.2.2 i hi).2.2.1
        by_cases c : K 104 i = f
        · have e4 : (K 104 i).toNat = f := by omega
          have pp := hdN_p (K := W) (f := f) (D := D) (H := H) hHr r3W r5W (i + 1) (by omega) (by omega) (K 103 i).toNat (by omega)
          rw [hdN_sum (i + 1) (fun j hj => (r3W j (by omega)).1), sdl_S, if_pos (c := W 104 i = (f : Int) ∧ W 106 i = (D : Int)) ⟨by rw [kW 104 (by decide) (by decide)]; exact c, by rw [kW 106 (by decide) (by decide)]; exact z2⟩, if_pos (by rw [kW 103 (by decide) (by decide)]; omega)] at pp
          have x4 := (t8 (K 103 i).toNat f (by omega) f4).2.2
          rw [if_neg (by omega), hH] at x4
          have es : sdl (gGo D nt nd 0 0 V f) f D (fun j => if K 103 j = K 103 i then V 107 j else 0) i = sdl W f D (fun j => if W 103 j = (((K 103 i).toNat : Nat) : Int) then uN W f D H j else 0) i := sdl_c i (fun j hj => ⟨⟨by rw [tl 104 (by decide), vo 104 (by decide)], by rw [tl 106 (by decide), vo 106 (by decide)]⟩, fun q1 q2 => by
            rw [tl 104 (by decide), kV 104 (by decide) (by decide)] at q1
            rw [tl 106 (by decide), kV 106 (by decide) (by decide)] at q2
            rw [v7 j, if_pos (c := j < nd ∧ K 104 j = (f : Int) ∧ K 106 j = (D : Int)) ⟨by omega, q1, q2⟩, kW 103 (by decide) (by decide), show (((K 103 i).toNat : Nat) : Int) = K 103 i by omega]⟩)
          rw [e4, hs _ f D (fun _ => rfl), es, v7 i, if_pos ⟨hi, c, z2⟩, ← x4]
          have := pp.1
          rw [← Int.add_assoc] at this
          exact this
        · have := y8 (by omega) z2 z3
          have e2 : ∀ j, j < nd → K 104 j ≠ f → V 107 j = W 107 j := fun j hj q => by rw [v7 j, if_neg (fun y => q y.2.1)]
          have es : sdl (gGo D nt nd 0 0 V f) (K 104 i).toNat D (fun j => if K 103 j = K 103 i then V 107 j else 0) i = sdl W (K 104 i).toNat D (fun j => if K 103 j = K 103 i then W 107 j else 0) i := sdl_c i (fun j hj => ⟨⟨by rw [tl 104 (by decide), vo 104 (by decide)], by rw [tl 106 (by decide), vo 106 (by decide)]⟩, fun q1 q2 => by
            rw [tl 104 (by decide), kV 104 (by decide) (by decide)] at q1
            rw [e2 j (by omega) (by omega)]⟩)
          rw [hs _ (K 104 i).toNat D (fun q => by omega), es, e2 i hi c]
          exact this
    · obtain ⟨y1, y2, y3⟩ := t11 i hi
      have ni : ¬ i < nd := by omega
      rw [p2 40 (by decide) (by decide) (by decide) (by decide), o10 40 (by decide) (by decide) (by decide) (by decide), fi3 i, if_neg (fun q => ni q.1), p2 41 (by decide) (by decide) (by decide) (by decide), z10 41 (by decide), c3 i, if_neg (fun q => ni q.1), x3 41 (by decide) (by decide), m41, tl 107 (by decide), v7 i, if_neg (fun q => ni q.1)]
      exact ⟨y1, y2, y3⟩
