/-! a fund's open day, side by side -/
theorem fwS_c {W K : bz_Mm} {f D : Nat} (h4 : W 104 = K 104) (h6 : W 106 = K 106) (h7 : W 107 = K 107) : ∀ n : Nat, fwS W f D n = fwS K f D n := by
  intro n
  induction n with
  | zero => rfl
  | succ n ih => rw [fwS_S, fwS_S, ih, h4, h6, h7]
def BK1 (M0 M1 : bz_Mm) (nd D a b : Nat) : Prop := M1 53 15 = a ∧ M1 53 16 = b ∧ a ≤ b ∧ b ≤ nd ∧ ptr (M0 35) (M0 36) nd a D ∧ (∀ j, a ≤ j → j < b → M0 35 (M0 36 j).toNat = D) ∧ (b < nd → M0 35 (M0 36 b).toNat ≠ D)
theorem BK1.blk {M0 M1 X : bz_Mm} {nd D a b : Nat} (h : BK1 M0 M1 nd D a b) (h1 : X 53 = M1 53) (h2 : X 35 = M0 35) (h3 : X 36 = M0 36) : BLK X nd D a b := by
  unfold BLK
  rw [h1, h2, h3]
  exact h
theorem sf_open {F : Nat} {K M0 M1 Mu WR WB : bz_Mm} {k : Int} {n m nf nt nd nl T D f a b : Nat} {pc0 pc1 : Nat → Nat → Int} {dc : Nat → Int} (hF : 500 < F) (hD : D < 260) (hDT : D < T) (hS : STg K M0 k n m nf nt nd nl T) (hL : LKp K nf nt D k pc0 pc1 dc) (hf : f < nf) (ho : opn (K 82) D = true) (hB : BK1 M0 M1 nd D a b) (hk1 : ∀ p, p < 8 → M1 61 p = K (158 + p) D) (hk2 : ∀ c, c < 3 → M1 62 c = K (167 + c) D) (h : SF K M0 nf nd D f pc0 pc1 dc M1 Mu WR WB) : ∃ Mu', (∀ kk : bz_Mm → Option bz_Mm, (lt_ (fU_slot (f : Int) (D : Int)) fun l6 => cl_ (fUC_makePrice_55_56_57 F Mu (f : Int) (D : Int)) fun m3 => rd_ m3 56 l6 1040 fun x4 => cl_ (fUC_countCoins_42 F m3 (f : Int) x4) fun m5 => rd_ m5 55 (f : Int) 4 fun x6 => rd_ m5 57 l6 1040 fun x7 => wa_ m5 55 (f : Int) 4 (x6 - x7) fun m8 => rd_ m8 54 (f : Int) 4 fun x9 => rd_ m8 49 l6 1040 fun x10 => wa_ m8 54 (f : Int) 4 (x9 - x10) fun m11 => cl_ (fUC_passDeals F m11 (f : Int)) fun m12 => kk m12) = kk Mu') ∧ SF K M0 nf nd D (f + 1) pc0 pc1 dc M1 Mu' (gGo D nt nd 0 0 WR f) (gGo D nt nd 1 0 WB f) := by
  have hd := hS.day
  have hS0 := hS
  obtain ⟨s1, s2, s3, s4, s5, s6, s7, s8, s9, s10, s11⟩ := h
  have hwR := hS.wok (W := WR) (fun q hq => (s4 q (by omega)).1)
  have hwB := hS.wok (W := WB) (fun q hq => (s4 q (by omega)).2)
  have hwK := hS.wok (W := K) (fun _ _ => rfl)
  obtain ⟨hA, hT, hDA, ⟨h14, hnf⟩, hC, ⟨hK1, hK2, hK3⟩, ⟨hLa, hLq⟩, h43, h7, h0, hal, hfee⟩ := hS
  have f4 : f < 4 := by omega
  have nd2 := hDA.1.2
  have hu : ∀ i, i < nd → -10000 ≤ K 107 i ∧ K 107 i ≤ 10000 := fun i hi => (hDA.2.2 i hi).2.2.2.1
  obtain ⟨l1, l2⟩ := hL f hf
  have n43 : (K 81 43).toNat ≤ 6 := by have := hwK.2.2.2.2.1; have := hwK.2.2.2.2.2.1; omega
  -- rows of the reference memories
  have kR : ∀ q, q < 188 → WR q = K q := fun q hq => (s4 q (by omega)).1
  have kB : ∀ q, q < 188 → WB q = K q := fun q hq => (s4 q (by omega)).2
  have rvR : ∀ w, rv WR f D w = rv K f D w := fun w => rv_c (fun q x y => kR q (by omega)) (by rw [kR 81 (by decide)]) n43 f f4 D w
  have rvU : ∀ w, rv Mu f D w = rv K f D w := fun w => rv_c (fun q x y => by rw [s1 q (by omega) (by omega)]; exact hLq q (by omega)) (by rw [s1 81 (by decide) (by decide)]; exact h43) n43 f f4 D w
  -- the class's price
  have al := hal f D f4
  have alr := usm_r (K := K) (g := f) (D := D) hu nd (Nat.le_refl nd)
  have u60 : Mu 60 f = usm K f D nd := by have := (s7 f f4).2.2; rw [if_neg (by omega)] at this; exact this
  have hLm : iv_la Mu nl := iv_la.c (fun q hq => s1 q (by omega) (by omega)) (by rw [s1 81 (by decide) (by decide)]) hLa
  have hDAm : DA Mu K nf nd := hDA.c (fun q hq => s1 q (by omega) (by omega))
  have hBm : BLK Mu nd D a b := hB.blk s2.1 (s1 35 (by decide) (by decide)) (s1 36 (by decide) (by decide))
  have m6 : Mu 6 = M0 6 := s1 6 (by decide) (by decide)
  have mk := uUC_make_56 (F := F) (f := f) (D := D) (M := Mu) (R := K) (by omega) f4 hnf hD hLm hDAm hBm (fun p hp => by rw [m6, (hC p hp).1]; exact (hC p hp).2) (fun p hp => by rw [s3 f p hf hp, l2 p hp]; exact pcT_r (pSp2_r _ _) nt) (fun o hoo => by
    have q := (s8 f o f4 (by omega)).2.2
    have r := hsm_r (K := K) (x := f) (g := o) (D := if o < f then D + 1 else D) hu nd (Nat.le_refl nd)
    rw [q]; exact ⟨by omega, by omega⟩) (fun o hoo => by
    have q := (s9 o D (by omega) (Or.inr ⟨rfl, hoo⟩) ho).2.2
    exact ⟨by omega, by omega⟩) (by rw [u60]; omega)
  -- it is the reference's
  obtain ⟨cR1, cR2⟩ := c2K (f := f) (D := D) (nt := nt) (nd := nd) (pc0 := pc0 f) kR (fun p hp => (hC p hp).2) (fun p hp => ((s6 f p hf hp).2 (Nat.le_refl f)).1)
  obtain ⟨cB1, cB2⟩ := c2K (f := f) (D := D) (nt := nt) (nd := nd) (pc0 := pc0 f) kB (fun p hp => (hC p hp).2) (fun p hp => ((s6 f p hf hp).2 (Nat.le_refl f)).2)
  have fdr : ∀ i, i < nd → K 103 i = 16 + (f : Int) → K 104 i < f := fun i hi q => by
    rcases (hDA.2.2 i hi).2.1 with w | w <;> omega
  have feR : feS WR f D nd = feF WR f D f nd := feF_all nd (fun i hi q => by rw [kR 104 (by decide)]; rw [kR 103 (by decide)] at q; exact fdr i hi q)
  have feB : feS WB f D nd = feF WB f D f nd := feF_all nd (fun i hi q => by rw [kB 104 (by decide)]; rw [kB 103 (by decide)] at q; exact fdr i hi q)
  rw [hK2, ← l1, feR] at cR1
  rw [hK2, ← l1, feB] at cB1
  rw [hK2] at cR2 cB2
  obtain ⟨m55, m54⟩ := (s5 f hf).2 (Nat.le_refl f)
  rw [← m55] at cR1
  rw [← m54] at cB1
  have eA : a2X f D nt nd WR = asX56 Mu f D (Mu 55 f) := by
    unfold a2X asX56
    rw [cR1]
    have e1 : sumr (fun p => (w64 (p2X f D nt WR p * w32 (WR (158 + p) D) * w32 (WR (167 + (WR 92 p).toNat) D))).tdiv 1000) 0 8 (Mu 55 f) = sumr (fun p => (w64 (Mu 58 (f * 8 + p) * w32 (Mu 61 p) * w32 (Mu 62 (Mu 6 p).toNat))).tdiv 1000) 0 8 (Mu 55 f) := by
      refine sumr_c 8 0 _ (fun j _ y => ?_)
      have cu := hC j (by omega)
      rw [cR2 j (by omega), ← l2 j (by omega), s3 f j hf (by omega), kR (158 + j) (by omega), kR 92 (by decide), kR (167 + (K 92 j).toNat) (by omega), s2.2.1, hk1 j (by omega), m6, cu.1, s2.2.2.1, hk2 (K 92 j).toNat (by omega)]
    rw [e1]
    refine sumr_c f 0 _ (fun j _ y => ?_)
    unfold tHe
    rw [(s8 f j f4 (by omega)).1, (s9 j D (by omega) (Or.inr ⟨rfl, by omega⟩) ho).1]
  have w210 : WR 210 f = Mu 60 f := (s7 f f4).1.symm
  have eFe : feX2 f D nt nd WR = feeX (asX56 Mu f D (Mu 55 f)) (rv Mu f D 0) := by
    unfold feX2; rw [eA, rvR, rvU]
  have ePr : prX2 f D nt nd WR = prX56 Mu f D (fwS K f D nd) := by
    unfold prX2 prX56
    rw [eFe, eA, w210, fwS_c (kR 104 (by decide)) (kR 106 (by decide)) (kR 107 (by decide)), rvR, rvR, rvU, rvU, rvU]
  have pr : 0 ≤ prX56 Mu f D (fwS K f D nd) ∧ prX56 Mu f D (fwS K f D nd) ≤ 10000000 := swX_r (madeX_r (by rw [u60]; exact al))
  obtain ⟨r1, r2, r3, r4, r5, r6, r7, r8, r9, r10⟩ := gGo_R (f := f) (D := D) (nt := nt) (nd := nd) (W := WR) f4 hD nd2 hwR (fun i hi => by rw [kR 107 (by decide)]; exact hu i hi) (by rw [w210, u60]; omega) (by rw [kR 82 (by decide)]; exact ho)
  obtain ⟨b1, b2, b3, b4, b5, b6, b7, b8⟩ := gGo_B (f := f) (D := D) (nt := nt) (nd := nd) (W := WB) f4 hwB (by rw [kB 82 (by decide)]; exact ho)
  rw [ePr] at r1 r2 r5
  rw [eFe] at r2 r6
  rw [cR1] at r2
  rw [cB1] at b2
  generalize feeX (asX56 Mu f D (Mu 55 f)) (rv Mu f D 0) = fee at mk r2 r6
  generalize prX56 Mu f D (fwS K f D nd) = P at mk r1 r2 r5 pr
  -- through the class's step
  have sl : fU_slot (f : Int) (D : Int) = ((f * 260 + D : Nat) : Int) := by unfold fU_slot; omega
  have x3 : ∀ q, q ≠ 56 → q ≠ 57 → st_ (st_ Mu 57 (f * 260 + D) fee) 56 (f * 260 + D) P q = Mu q := fun q x y => by rw [st_ne x, st_ne y]
  have x56 : st_ (st_ Mu 57 (f * 260 + D) fee) 56 (f * 260 + D) P 56 = ud (Mu 56) (f * 260 + D) P := by rw [st_eq, st_ne (by decide)]
  have x57 : st_ (st_ Mu 57 (f * 260 + D) fee) 56 (f * 260 + D) P 57 = ud (Mu 57) (f * 260 + D) fee := by rw [st_ne (by decide), st_eq]
  generalize st_ (st_ Mu 57 (f * 260 + D) fee) 56 (f * 260 + D) P = X3 at mk x3 x56 x57
  obtain ⟨X5, c1, c2, c3⟩ := uUC_coins_42 (F := F) (f := f) (D := D) (M := X3) (R := K) (P := P) (by omega) f4 hnf ⟨by omega, by omega⟩ (hDAm.c (fun q hq => x3 q (by omega) (by omega))) (hB.blk (by rw [x3 53 (by decide) (by decide)]; exact s2.1) (by rw [x3 35 (by decide) (by decide)]; exact s1 35 (by decide) (by decide)) (by rw [x3 36 (by decide) (by decide)]; exact s1 36 (by decide) (by decide)))
  have y55 : X5 55 = Mu 55 := by rw [c2 55 (by decide), x3 55 (by decide) (by decide)]
  have y57 : X5 57 (f * 260 + D) = fee := by rw [c2 57 (by decide), x57, ud_eq]
  have y54 : X5 54 = Mu 54 := by rw [c2 54 (by decide), x3 54 (by decide) (by decide)]
  have y49 : X5 49 (f * 260 + D) = K (217 + f) D := by rw [c2 49 (by decide), x3 49 (by decide) (by decide), s1 49 (by decide) (by decide)]; exact hfee f D hf hDT ho
  have z11 : ∀ q, q ≠ 54 → q ≠ 55 → st_ (st_ X5 55 f (Mu 55 f - fee)) 54 f (Mu 54 f - K (217 + f) D) q = X5 q := fun q x y => by rw [st_ne x, st_ne y]
  have z54 : st_ (st_ X5 55 f (Mu 55 f - fee)) 54 f (Mu 54 f - K (217 + f) D) 54 = ud (Mu 54) f (Mu 54 f - K (217 + f) D) := by rw [st_eq, st_ne (by decide), y54]
  have z55 : st_ (st_ X5 55 f (Mu 55 f - fee)) 54 f (Mu 54 f - K (217 + f) D) 55 = ud (Mu 55) f (Mu 55 f - fee) := by rw [st_ne (by decide), st_eq, y55]
  generalize hX11 : st_ (st_ X5 55 f (Mu 55 f - fee)) 54 f (Mu 54 f - K (217 + f) D) = X11 at z11 z54 z55
  have o11 : ∀ q, q ≠ 42 → q ≠ 54 → q ≠ 55 → q ≠ 56 → q ≠ 57 → X11 q = Mu q := fun q w1 w2 w3 w4 w5 => by rw [z11 q w2 w3, c2 q w1, x3 q w4 w5]
  obtain ⟨Mu', p1, p2, p3, p4⟩ := uUC_pass (F := F) (f := f) (D := D) (M := X11) (R := K) (by omega) hf hnf (hDAm.c (fun q hq => o11 q (by omega) (by omega) (by omega) (by omega) (by omega))) (hB.blk (by rw [o11 53 (by decide) (by decide) (by decide) (by decide) (by decide)]; exact s2.1) (by rw [o11 35 (by decide) (by decide) (by decide) (by decide) (by decide)]; exact s1 35 (by decide) (by decide)) (by rw [o11 36 (by decide) (by decide) (by decide) (by decide) (by decide)]; exact s1 36 (by decide) (by decide)))
  refine ⟨Mu', fun kk => ?_, ?_⟩
  · rw [lt_x, sl, mk, cl_s, rd_s (by omega) (by decide), x56, ud_eq, c1, cl_s, rd_s f4 (by decide), rd_s (by omega) (by decide), y57, y55, wa_s f4 (by decide), rd_s f4 (by decide), rd_s (by omega) (by decide), st_ne (show (54 : Nat) ≠ 55 by decide), y54, st_ne (show (49 : Nat) ≠ 55 by decide), y49, wa_s f4 (by decide), hX11, p1, cl_s]
  · -- coins, as both have them
    have k42 : ∀ i, X11 42 i = if i < nd ∧ K 104 i = f ∧ K 106 i = D then coX (K 107 i) P else Mu 42 i := fun i => by rw [z11 42 (by decide) (by decide), c3 i, x3 42 (by decide) (by decide)]
    have k41 : ∀ i, i < nd → X11 41 i = K 109 i := fun i hi => by rw [o11 41 (by decide) (by decide) (by decide) (by decide) (by decide)]; exact (hDAm.2.2 i hi).1.2.2.2
    have cR : ∀ i, gGo D nt nd 0 0 WR f 189 i = if i < nd ∧ K 104 i = f ∧ K 106 i = D then coX (K 107 i) P else WR 189 i := fun i => by rw [r1 i, kR 104 (by decide), kR 106 (by decide), kR 107 (by decide)]
    have cB : ∀ i, gGo D nt nd 1 0 WB f 189 i = if i < nd ∧ K 104 i = f ∧ K 106 i = D then K 109 i else WB 189 i := fun i => by rw [b1 i, kB 104 (by decide), kB 106 (by decide), kB 109 (by decide)]
    have nff : ∀ x, x < 4 → x ≤ f → ∀ t : Nat → Int, sdl K f D (fun i => if K 103 i = 16 + (x : Int) then t i else 0) nd = 0 := fun x hx hxf t => sdl_z nd (fun i hi q1 q2 => by
      rw [if_neg]
      intro w
      rcases (hDA.2.2 i hi).2.1 with z | z <;> omega)
    have sR : ∀ t : Nat → Int → Int, sdl K f D (fun i => t i (X11 42 i)) nd = sdl K f D (fun i => t i (coX (K 107 i) P)) nd := fun t => sdl_c nd (fun i hi => ⟨⟨rfl, rfl⟩, fun q1 q2 => by rw [k42, if_pos ⟨hi, q1, q2⟩]⟩)
    have sB : ∀ t : Nat → Int → Int, sdl K f D (fun i => t i (X11 41 i)) nd = sdl K f D (fun i => t i (K 109 i)) nd := fun t => sdl_c nd (fun i hi => ⟨⟨rfl, rfl⟩, fun q1 q2 => by rw [k41 i hi]⟩)
    have tell : ∀ q, q < 188 → gGo D nt nd 0 0 WR f q = K q ∧ gGo D nt nd 1 0 WB f q = K q := fun q hq => ⟨by rw [r10 q (by omega) (by omega) (by omega) (by omega) (by omega) (by omega) (by omega) (by omega)]; exact kR q hq, by rw [b8 q (by omega) (by omega) (by omega) (by omega) (by omega)]; exact kB q hq⟩
    refine ⟨fun q w1 w2 => ?_, ⟨?_, ?_, ?_, ?_, ?_⟩, fun g p hg hp => ?_, fun q hq => ⟨?_, ?_⟩, fun g hg => ⟨fun q => ?_, fun q => ?_⟩, fun g p hg hp => ⟨fun q => ?_, fun q => ?_⟩, fun g hg => ?_, fun x y hx hy => ?_, fun g d hg hd' hop => ?_, fun i hi => ⟨fun q => ?_, fun q => ?_⟩, fun i hi => by rw [p2 42 (by decide) (by decide) (by decide) (by decide), k42 i, if_neg (fun y => by have := y.1; omega)]; exact s11 i hi⟩
    · rw [p2 q (by omega) (by omega) (by omega) (by omega), o11 q w1 (by omega) (by omega) (by omega) (by omega)]; exact s1 q w1 w2
    · rw [p2 53 (by decide) (by decide) (by decide) (by decide), o11 53 (by decide) (by decide) (by decide) (by decide) (by decide)]; exact s2.1
    · rw [p2 61 (by decide) (by decide) (by decide) (by decide), o11 61 (by decide) (by decide) (by decide) (by decide) (by decide)]; exact s2.2.1
    · rw [p2 62 (by decide) (by decide) (by decide) (by decide), o11 62 (by decide) (by decide) (by decide) (by decide) (by decide)]; exact s2.2.2.1
    · rw [p2 63 (by decide) (by decide) (by decide) (by decide), o11 63 (by decide) (by decide) (by decide) (by decide) (by decide)]; exact s2.2.2.2.1
    · rw [p2 64 (by decide) (by decide) (by decide) (by decide), o11 64 (by decide) (by decide) (by decide) (by decide) (by decide)]; exact s2.2.2.2.2
    · rw [p2 58 (by decide) (by decide) (by decide) (by decide), o11 58 (by decide) (by decide) (by decide) (by decide) (by decide)]; exact s3 g p hg hp
    · rw [r10 q (by omega) (by omega) (by omega) (by omega) (by omega) (by omega) (by omega) (by omega)]; exact (s4 q hq).1
    · rw [b8 q (by omega) (by omega) (by omega) (by omega) (by omega)]; exact (s4 q hq).2
    · obtain ⟨t1, t2, t3⟩ := p3 g (by omega)
      rw [nff g (by omega) (by omega)] at t1 t2
      by_cases e : g = f
      · subst e
        rw [if_pos rfl, sB (fun i c => sgX (K 107 i) c), z54, ud_eq] at t1
        rw [if_pos rfl, sR (fun i c => sgX (K 107 i) c), z55, ud_eq] at t2
        have eR : sdl WR g D (fun i => sgX (WR 107 i) (coX (WR 107 i) P)) nd = sdl K g D (fun i => sgX (K 107 i) (coX (K 107 i) P)) nd := sdl_c nd (fun i hi => ⟨⟨by rw [kR 104 (by decide)], by rw [kR 106 (by decide)]⟩, fun _ _ => by rw [kR 107 (by decide)]⟩)
        have eB : sdl WB g D (fun i => sgX (WB 107 i) (WB 109 i)) nd = sdl K g D (fun i => sgX (K 107 i) (K 109 i)) nd := sdl_c nd (fun i hi => ⟨⟨by rw [kB 104 (by decide)], by rw [kB 106 (by decide)]⟩, fun _ _ => by rw [kB 107 (by decide), kB 109 (by decide)]⟩)
        rw [t1, t2, r2, b2, eR, eB, (s4 (217 + g) (by omega)).2]
        exact ⟨by omega, by omega⟩
      · rw [if_neg e, z54, ud_ne e] at t1
        rw [if_neg e, z55, ud_ne e] at t2
        have := (s5 g hg).1 (by omega)
        rw [t1, t2, r3 g e, b3 g e]; exact ⟨by omega, by omega⟩
    · obtain ⟨t1, t2, t3⟩ := p3 g (by omega)
      have e : ¬ g = f := by omega
      rw [if_neg e, z54, ud_ne e, sB (fun i c => if K 103 i = 16 + (g : Int) then sgX (K 107 i) c else 0)] at t1
      rw [if_neg e, z55, ud_ne e, sR (fun i c => if K 103 i = 16 + (g : Int) then sgX (K 107 i) c else 0)] at t2
      have w := (s5 g hg).2 (by omega)
      have fR := feF_step (W := WR) (W' := gGo D nt nd 0 0 WR f) (K := K) (g := g) (D := D) (f := f) (c := fun i => coX (K 107 i) P) nd (fun i hi => ⟨⟨by rw [kR 103 (by decide)], by rw [kR 104 (by decide)], by rw [kR 105 (by decide)], by rw [kR 106 (by decide)]⟩, ⟨by rw [(tell 103 (by decide)).1], by rw [(tell 104 (by decide)).1], by rw [(tell 105 (by decide)).1], by rw [(tell 106 (by decide)).1]⟩, by
        rw [cR i]
        by_cases z : K 104 i = (f : Int) ∧ K 106 i = (D : Int)
        · rw [if_pos ⟨hi, z⟩, if_pos z]
        · rw [if_neg (fun y => z y.2), if_neg z], fun _ _ => sg_neg (hDA.2.2 i hi).2.2.2.2.1 (hDA.2.2 i hi).2.2.2.2.2 (fun z => by show coX _ _ = 0; rw [z, coX_0])⟩)
      have fB := feF_step (W := WB) (W' := gGo D nt nd 1 0 WB f) (K := K) (g := g) (D := D) (f := f) (c := fun i => K 109 i) nd (fun i hi => ⟨⟨by rw [kB 103 (by decide)], by rw [kB 104 (by decide)], by rw [kB 105 (by decide)], by rw [kB 106 (by decide)]⟩, ⟨by rw [(tell 103 (by decide)).2], by rw [(tell 104 (by decide)).2], by rw [(tell 105 (by decide)).2], by rw [(tell 106 (by decide)).2]⟩, by
        rw [cB i]
        by_cases z : K 104 i = (f : Int) ∧ K 106 i = (D : Int)
        · rw [if_pos ⟨hi, z⟩, if_pos z]
        · rw [if_neg (fun y => z y.2), if_neg z], fun _ _ => sg_neg (hDA.2.2 i hi).2.2.2.2.1 (hDA.2.2 i hi).2.2.2.2.2 (h0 i hi).2⟩)
      rw [t1, t2, r3 g e, b3 g e, fR, fB]
      exact ⟨by omega, by omega⟩
    · by_cases e : g = f
      · subst e
        rw [r4 p hp, b4 p hp, cR2 p hp, cB2 p hp, l2 p hp]; exact ⟨rfl, rfl⟩
      · rw [r10 (191 + g) (by omega) (by omega) (by omega) (by omega) (by omega) (by omega) (by omega) (by omega), b8 (191 + g) (by omega) (by omega) (by omega) (by omega) (by omega)]
        exact (s6 g p hg hp).1 (by omega)
    · rw [r10 (191 + g) (by omega) (by omega) (by omega) (by omega) (by omega) (by omega) (by omega) (by omega), b8 (191 + g) (by omega) (by omega) (by omega) (by omega) (by omega)]
      exact (s6 g p hg hp).2 (by omega)
    · obtain ⟨t1, t2, t3⟩ := p3 g hg
      obtain ⟨y1, y2, y3⟩ := s7 g hg
      rw [o11 60 (by decide) (by decide) (by decide) (by decide) (by decide)] at t3
      by_cases e : g = f
      · subst e
        have eR : sdl WR g D (WR 107) nd = sdl K g D (K 107) nd := sdl_c nd (fun i hi => ⟨⟨by rw [kR 104 (by decide)], by rw [kR 106 (by decide)]⟩, fun _ _ => by rw [kR 107 (by decide)]⟩)
        have eB : sdl WB g D (WB 107) nd = sdl K g D (K 107) nd := sdl_c nd (fun i hi => ⟨⟨by rw [kB 104 (by decide)], by rw [kB 106 (by decide)]⟩, fun _ _ => by rw [kB 107 (by decide)]⟩)
        rw [if_pos rfl] at t3
        rw [if_neg (by omega)] at y3
        rw [t3, r8, b6, eR, eB, if_pos (by omega), usm_D]
        exact ⟨by omega, by omega, by omega⟩
      · rw [if_neg e, Int.add_zero] at t3
        rw [t3, r9 g e, b7 g e]
        refine ⟨y1, y2, ?_⟩
        rw [y3]
        by_cases e2 : g < f
        · rw [if_pos e2, if_pos (by omega)]
        · rw [if_neg e2, if_neg (by omega)]
    · have t := p4 x y hx hy
      obtain ⟨y1, y2, y3⟩ := s8 x y hx hy
      rw [o11 59 (by decide) (by decide) (by decide) (by decide) (by decide)] at t
      have c16 : ((16 + x : Nat) : Int) = 16 + (x : Int) := by omega
      by_cases e : y = f
      · subst e
        have eR : sdl WR y D (fun i => if WR 103 i = ((16 + x : Nat) : Int) then WR 107 i else 0) nd = sdl K y D (fun i => if K 103 i = 16 + (x : Int) then K 107 i else 0) nd := sdl_c nd (fun i hi => ⟨⟨by rw [kR 104 (by decide)], by rw [kR 106 (by decide)]⟩, fun _ _ => by rw [kR 107 (by decide), kR 103 (by decide), c16]⟩)
        have eB : sdl WB y D (fun i => if WB 103 i = ((16 + x : Nat) : Int) then WB 107 i else 0) nd = sdl K y D (fun i => if K 103 i = 16 + (x : Int) then K 107 i else 0) nd := sdl_c nd (fun i hi => ⟨⟨by rw [kB 104 (by decide)], by rw [kB 106 (by decide)]⟩, fun _ _ => by rw [kB 107 (by decide), kB 103 (by decide), c16]⟩)
        rw [if_pos rfl] at t
        rw [if_neg (by omega)] at y3
        rw [t, r7, b5, eR, eB, if_pos (by omega), hsm_D]
        exact ⟨by omega, by omega, by omega⟩
      · rw [if_neg e, Int.add_zero] at t
        rw [t, r10 (206 + y) (by omega) (by omega) (by omega) (by omega) (by omega) (by omega) (by omega) (by omega), b8 (206 + y) (by omega) (by omega) (by omega) (by omega) (by omega)]
        refine ⟨y1, y2, ?_⟩
        rw [y3]
        by_cases e2 : y < f
        · rw [if_pos e2, if_pos (by omega)]
        · rw [if_neg e2, if_neg (by omega)]
    · have u56 : Mu' 56 = ud (Mu 56) (f * 260 + D) P := by rw [p2 56 (by decide) (by decide) (by decide) (by decide), z11 56 (by decide) (by decide), c2 56 (by decide), x56]
      have u57 : Mu' 57 = ud (Mu 57) (f * 260 + D) fee := by rw [p2 57 (by decide) (by decide) (by decide) (by decide), z11 57 (by decide) (by decide), c2 57 (by decide), x57]
      rw [u56, u57]
      by_cases e : g = f
      · subst e
        rw [r5, r6]
        by_cases e2 : d = D
        · subst e2
          rw [ud_eq, ud_eq, ud_eq, ud_eq]; exact ⟨rfl, rfl, pr⟩
        · simp only [ud_ne (show g * 260 + d ≠ g * 260 + D by omega), ud_ne e2]
          exact s9 g d hg (by omega) hop
      · simp only [ud_ne (show g * 260 + d ≠ f * 260 + D by omega)]
        rw [r10 (196 + g) (by omega) (by omega) (by omega) (by omega) (by omega) (by omega) (by omega) (by omega), r10 (201 + g) (by omega) (by omega) (by omega) (by omega) (by omega) (by omega) (by omega) (by omega)]
        exact s9 g d hg (by omega) hop
    · rw [p2 42 (by decide) (by decide) (by decide) (by decide), k42 i, cR i, cB i]
      by_cases z : K 104 i = (f : Int) ∧ K 106 i = (D : Int)
      · rw [if_pos ⟨hi, z⟩, if_pos ⟨hi, z⟩, if_pos ⟨hi, z⟩]
        exact ⟨rfl, rfl, coX_r (hu i hi) pr⟩
      · rw [if_neg (fun y => z y.2), if_neg (fun y => z y.2), if_neg (fun y => z y.2)]
        exact (s10 i hi).1 ⟨q.1, by have := q.2; omega⟩
    · have z : ¬ (K 104 i = (f : Int) ∧ K 106 i = (D : Int)) := fun w => q ⟨by
        have : (K 106 i).toNat = D := by omega
        rw [this]; exact ho, by omega⟩
      rw [p2 42 (by decide) (by decide) (by decide) (by decide), k42 i, cR i, cB i, if_neg (fun y => z y.2), if_neg (fun y => z y.2), if_neg (fun y => z y.2)]
      exact (s10 i hi).2 (fun w => q ⟨w.1, by have := w.2; omega⟩)
