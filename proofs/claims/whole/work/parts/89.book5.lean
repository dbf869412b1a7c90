/-! a booking day, side by side -/
theorem gGo_cl {f D nt nd : Nat} {W : bz_Mm} (ho : ¬ opn (W 82) D = true) (bk new : Int) : gGo D nt nd bk new W f = gGo D nt nd 0 0 W f := by
  unfold gGo
  rw [if_neg ho, if_neg ho]
theorem sb_closed {K M0 M1 Mu W : bz_Mm} {k : Int} {n nf nt nd nl T D f : Nat} {pc0 pc1 : Nat → Nat → Int} {dc : Nat → Int} (hS : STc K M0 k n nf nt nd nl T) (hL : LKp K nf nt D k pc0 pc1 dc) (hf : f < nf) (ho : ¬ opn (K 82) D = true) (h : SB K M0 nf nd D f pc0 pc1 dc M1 Mu W) : SB K M0 nf nd D (f + 1) pc0 pc1 dc M1 Mu (gGo D nt nd 0 1 W f) ∧ ∀ (K' A : bz_Mm) (nl' : Nat), KK K K' nt nd nl' D → NB K' nd W A → NB K' nd (gGo D nt nd 0 1 W f) (gGo D nt nd 1 0 A f) := by
  have hd := hS.day
  obtain ⟨t1, t2, t3, t4, t5, t6, t7, t8, t8b, ⟨t9, t9b⟩, t10, t11⟩ := h
  have hwK := hS.wok (W := K) (fun _ _ => rfl)
  obtain ⟨hA, hT, hDA, ⟨h14, hnf⟩, hC, ⟨hK1, hK2, hK3⟩, ⟨hLa, hLq⟩, h43, h7, h0, hal, hfee⟩ := hS
  have f4 : f < 4 := by omega
  obtain ⟨l1, l2⟩ := hL f hf
  have kW : ∀ q, q < 188 → q ≠ 107 → W q = K q := fun q hq h7 => t4 q (Or.inl ⟨hq, h7⟩)
  have uW : ∀ i, i < nd → -10000 ≤ W 107 i ∧ W 107 i ≤ 10000 := fun i hi => (t10 i hi).2.1
  have hwW : WOK nl nt nd W := by
    obtain ⟨z1, z2, z3, z4⟩ := hwK
    refine ⟨by rw [kW 92 (by decide) (by decide)]; exact z1, by rw [kW 98 (by decide) (by decide)]; exact z2, fun i hi => ⟨?_, by rw [kW 103 (by decide) (by decide)]; exact (z3 i hi).2⟩, iv_la.c (fun q hq => kW q (by omega) (by omega)) (by rw [kW 81 (by decide) (by decide)]) z4⟩
    have := uW i hi; exact ⟨by omega, by omega⟩
  have ho' : ¬ opn (W 82) D = true := by rw [kW 82 (by decide) (by decide)]; exact ho
  rw [gGo_cl ho']
  obtain ⟨r1, r2, r3, r4⟩ := gGo_N (bk := 0) (D := D) f4 hwW ho'
  obtain ⟨cR1, cR2⟩ := c2Kn (f := f) (D := D) (nt := nt) (nd := nd) (pc0 := pc0 f) kW (fun p hp => (hC p hp).2) (fun p hp => (t6 f p hf hp).2 (Nat.le_refl f))
  have zW : ∀ i, i < nd → K 106 i = D → W 107 i = 0 ∧ W 189 i = 0 := fun i hi q => by
    obtain ⟨_, _, _, _, _, _, y7, _⟩ := t10 i hi
    obtain ⟨y1, y2⟩ := y7 (fun z => ho z.2.2)
    have : K 107 i = 0 := (h0 i hi).1 (by
      have : (K 106 i).toNat = D := by omega
      rw [this]; exact ho)
    rw [y1, y2]
    exact ⟨this, (h0 i hi).2 this⟩
  have feR : feS W f D nd = 0 := feS_z nd (fun i hi q => by rw [kW 106 (by decide) (by decide)] at q; exact (zW i hi q).2)
  have fz : ∀ g F', feF W g D F' nd = 0 := fun g F' => feF_z nd (fun i hi q => by rw [kW 106 (by decide) (by decide)] at q; exact (zW i hi q).2)
  have fz' : ∀ g F', feF (gGo D nt nd 0 0 W f) g D F' nd = 0 := fun g F' => feF_z nd (fun i hi q => by
    rw [r4 189 (by decide) (by omega)]
    rw [r4 106 (by decide) (by omega), kW 106 (by decide) (by decide)] at q; exact (zW i hi q).2)
  rw [hK2, ← l1, feR] at cR1
  rw [hK2] at cR2
  have sz : ∀ g t, (∀ i, i < nd → W 107 i = 0 → t i = 0) → sdl W g D t nd = 0 := fun g t ht => sdl_z nd (fun i hi _ q => ht i hi (by rw [kW 106 (by decide) (by decide)] at q; exact (zW i hi q).1))
  have us : ∀ g D', usm (gGo D nt nd 0 0 W f) g D' nd = usm W g D' nd := fun g D' => usm_e nd (fun i hi => by
    rw [r4 104 (by decide) (by omega), r4 106 (by decide) (by omega), r4 107 (by decide) (by omega)]; exact ⟨rfl, rfl, fun _ _ => rfl⟩)
  have hs : ∀ w g D', hwm (gGo D nt nd 0 0 W f) w g D' nd = hwm W w g D' nd := fun w g D' => hwm_e nd (fun i hi => by
    rw [r4 103 (by decide) (by omega), r4 104 (by decide) (by omega), r4 106 (by decide) (by omega), r4 107 (by decide) (by omega)]; exact ⟨rfl, rfl, rfl, fun _ _ => rfl⟩)
  have dU : ∀ g, usm W g (if g < f + 1 then D + 1 else D) nd = usm W g (if g < f then D + 1 else D) nd := fun g => by
    by_cases e : g = f
    · subst e
      rw [if_pos (by omega), if_neg (by omega), usm_D, sz g (W 107) (fun _ _ q => q), Int.add_zero]
    · by_cases z : g < f
      · rw [if_pos z, if_pos (by omega)]
      · rw [if_neg z, if_neg (by omega)]
  have dH : ∀ w g, hwm W w g (if g < f + 1 then D + 1 else D) nd = hwm W w g (if g < f then D + 1 else D) nd := fun w g => by
    by_cases e : g = f
    · subst e
      rw [if_pos (by omega), if_neg (by omega), hwm_D, sz g _ (fun i _ q => by rw [q]; split <;> rfl), Int.add_zero]
    · by_cases z : g < f
      · rw [if_pos z, if_pos (by omega)]
      · rw [if_neg z, if_neg (by omega)]
  refine ⟨?_, fun K' A nl' hk hn => nb_closed f4 hwW ho' kW hk hn⟩
  refine ⟨t1, t2, t3, fun q hq => by rw [r4 q (by omega) (by omega)]; exact t4 q hq, fun g hg => ⟨fun q => ?_, fun q => ?_⟩, fun g p hg hp => ⟨fun q => ?_, fun q => ?_⟩, fun g hg => ?_, fun w g hw hg => ?_, fun x y hx hy => ?_, ⟨fun g hg hop => absurd hop ho, fun j hj => t9b j (fun g hg => hj g (by omega))⟩, fun i hi => ?_, fun i hi => ?_⟩
  · by_cases e : g = f
    · subst e
      have := (t5 g hg).2 (Nat.le_refl g)
      rw [fz] at this
      rw [r1, cR1]; omega
    · rw [r2 g e]; exact (t5 g hg).1 (by omega)
  · have := (t5 g hg).2 (by omega)
    rw [fz] at this
    rw [r2 g (by omega), fz']; exact this
  · by_cases e : g = f
    · subst e
      rw [r3 p hp, cR2 p hp, l2 p hp]
    · rw [r4 (191 + g) (by omega) (by omega)]; exact (t6 g p hg hp).1 (by omega)
  · rw [r4 (191 + g) (by omega) (by omega)]; exact (t6 g p hg hp).2 (by omega)
  · rw [r4 210 (by decide) (by omega), us, dU]; exact t7 g hg
  · rw [r4 (206 + g) (by omega) (by omega), hs, dH]; exact t8 w g hw hg
  · rw [r4 (206 + y) (by omega) (by omega)]; exact t8b x y hx hy
  · rw [r4 107 (by decide) (by omega), r4 189 (by decide) (by omega)]
    obtain ⟨y1, y2, y3, y4, y5, y6, y7, y8⟩ := t10 i hi
    exact ⟨y1, y2, y3, y4, y5, y6, fun z => y7 (fun q => z ⟨by omega, q.2⟩), fun _ _ o => absurd o ho⟩
  · rw [r4 107 (by decide) (by omega)]; exact t11 i hi
/-- between booking days -/
def BD (K M : bz_Mm) (k : Int) (n nf nt nd D : Nat) (W : bz_Mm) : Prop :=
  (∀ q, q < 188 ∨ (210 < q ∧ q ≠ 222) → W q = K q) ∧ (∀ g, g < nf → M 54 g = W 188 g) ∧ (∀ g p, g < nf → p < 8 → M 58 (g * 8 + p) = W (191 + g) p) ∧
  (∀ g, g < 4 → M 60 g = W 210 g ∧ M 44 g = W 210 g ∧ W 210 g = usm K g D nd) ∧
  (∀ w g, w < 20 → g < 4 → M 43 (plH w g) = W (206 + g) w ∧ 0 ≤ W (206 + g) w ∧ W (206 + g) w = hwm K w g D nd) ∧
  (∀ x h, x < 4 → h < 4 → M 59 (x * 4 + h) = W (206 + h) (16 + x)) ∧
  (∀ i, i < nd → W 189 i = K 109 i ∧ 0 ≤ K 109 i ∧ K 109 i ≤ 1000000000) ∧
  PCR M nf ∧ PTS M M n nt nd D ∧ FLG M ∧ (∀ s nr, s < 2 → nr < 8 → (s = 1 → nr < 3) → M (61 + s) nr = pvk K s nr k n D)
theorem book_day {F : Nat} {K M W : bz_Mm} {k l2 : Int} {n nf nt nd nl T D : Nat} (hF : 500 < F) (hD : D < 260) (hS : STc K M k n nf nt nd nl T) (h39 : ∀ i, i < nd → M 39 i = K 105 i ∧ -10000 ≤ K 105 i ∧ K 105 i ≤ 10000) (h : BD K M k n nf nt nd D W) : ∃ M1 Mu pc0 pc1 dc, fUC_openDay F M (D : Int) k 0 = some M1 ∧ UC_bookUntil_L30 F F (D : Int) l2 0 M1 = some Mu ∧ SB K M nf nd D nf pc0 pc1 dc M1 Mu (itr (gGo D nt nd 0 1) 0 nf W) ∧ PCR Mu nf ∧ PTS M Mu n nt nd (D + 1) ∧ FLG Mu ∧ (∀ s nr, s < 2 → nr < 8 → (s = 1 → nr < 3) → Mu (61 + s) nr = kv K s nr k n D) ∧ (∀ j, (j < 11 ∨ 16 < j) → Mu 53 j = M 53 j) ∧ ∀ (K' A' : bz_Mm) (nl' : Nat), KK K K' nt nd nl' D → (opn (K 82) D = true → (∀ i, i < nd → K 106 i = D → (0 : Int) ≤ K 104 i → K' 107 i = (itr (gGo D nt nd 0 1) 0 nf W) 107 i ∧ K' 109 i = (itr (gGo D nt nd 0 1) 0 nf W) 189 i) ∧ ∀ g, 0 ≤ g → g < nf → K' (217 + g) D = (itr (gGo D nt nd 0 1) 0 nf W) (201 + g) D) → NB K' nd W A' → NB K' nd (itr (gGo D nt nd 0 1) 0 nf W) (itr (gGo D nt nd 1 0) 0 nf A') := by
  have hS0 := hS
  obtain ⟨d1, d2, d3, d4, d5, d6, d7, hPC, ⟨a1, a2, a3, ⟨pa, qa⟩, ⟨pb, qb⟩, ⟨pc, qc⟩⟩, hG, hKn⟩ := h
  obtain ⟨hA, hT, hDA, ⟨h14, hnf⟩, hC, ⟨hK1, hK2, hK3⟩, ⟨hLa, hLq⟩, h43, h7, h0, hal, hfee⟩ := hS
  obtain ⟨M1, b1, b2, b3, o1, o2, o3, o4, o5, o6, o7, o8, o9, o10⟩ := uUC_openDay (F := F) (n := n) (nf := nf) (nt := nt) (nd := nd) (D := D) (k := k) (M := M) (R := K) hF hD hK3 hnf h14 hA hT hDA.1.1 hDA.1.2 hDA.2.1 (fun p hp => by rw [(hC p hp).1]; exact (hC p hp).2) hPC hG pa pb pc qa qb qc
  -- what is known on the day
  have k61 : ∀ s nr, s < 2 → nr < 8 → (s = 1 → nr < 3) → M1 (61 + s) nr = kv K s nr k n D := fun s nr hs hnr h3 => by rw [o8 s nr hs hnr, hKn s nr hs hnr h3, lv_kv hs]
  have hk1 : ∀ p, p < 8 → M1 61 p = K (158 + p) D := fun p hp => by
    rw [(hK1.1 p D hp hD).1]; exact k61 0 p (by decide) hp (fun q => absurd q (by decide))
  have hk2 : ∀ c, c < 3 → M1 62 c = K (167 + c) D := fun c hc => by
    have g := k61 1 c (by decide) (by omega) (fun _ => hc)
    rw [show 61 + 1 = 62 from rfl] at g
    rw [g]
    obtain ⟨z0, z1, z2⟩ := hK1.2 D hD
    match c, hc with
    | 0, _ => rw [kv10 (fun t ht => (hA.2.2 t ht).2.1)]; exact z0.symm
    | 1, _ => exact z1.symm
    | 2, _ => exact z2.symm
  have k3 : ∀ p, p < 8 → lv K 3 p k D n 1000 = K (180 + p) D := fun p hp => by
    rw [(hK1.1 p D hp hD).2.2]; exact lv_kp (s := 3) (by decide)
  have k2 : ∀ p, p < 8 → lv K 2 p k D n 0 = K (171 + p) D := fun p hp => by
    rw [(hK1.1 p D hp hD).2.1]; exact lv_kp (s := 2) (by decide)
  have k1 : ∀ p, p < 8 → lv K 1 (M 6 p).toNat k D n (M 62 (M 6 p).toNat) = K (167 + (K 92 p).toNat) D := fun p hp => by
    have cu := hC p hp
    rw [cu.1]
    have := hk2 (K 92 p).toNat (by omega)
    rw [← this]
    have g := o8 1 (K 92 p).toNat (by decide) (by omega)
    rw [show 61 + 1 = 62 from rfl] at g
    exact g.symm
  have hL : LKp K nf nt D k (pcs M) (fun g p => pcT K g D k p (pSp2 (pcs M g p) (K (180 + p) D)) nt) (fun g => dcx K g D k nt (pcs M g) (fun p => K (180 + p) D) (fun p => K (171 + p) D) (fun p => K (167 + (K 92 p).toNat) D)) := fun g hg => ⟨rfl, fun p hp => rfl⟩
  have dce : ∀ g, g < nf → dcx K g D k nt (fun p => M 58 (g * 8 + p)) (fun p => lv K 3 p k D n 1000) (fun p => lv K 2 p k D n 0) (fun p => lv K 1 (M 6 p).toNat k D n (M 62 (M 6 p).toNat)) = dcx K g D k nt (pcs M g) (fun p => K (180 + p) D) (fun p => K (171 + p) D) (fun p => K (167 + (K 92 p).toNat) D) := fun g hg => dcx_c rfl (fun p hp => ⟨rfl, k3 p hp, k2 p hp, k1 p hp⟩)
  have hB : BK1 M M1 nd D a3 b3 := ⟨o6.1, o6.2.1, o6.2.2.1, o6.2.2.2.1.1, qc, o6.2.2.2.2, fun hb q => by
    have := o6.2.2.2.1.2.2 b3 (Nat.le_refl b3) hb
    omega⟩
  have f104 : ∀ i, i < nd → 0 ≤ K 104 i ∧ K 104 i < nf := fun i hi => (hDA.2.2 i hi).2.2.1
  have sb0 : SB K M nf nd D 0 (pcs M) (fun g p => pcT K g D k p (pSp2 (pcs M g p) (K (180 + p) D)) nt) (fun g => dcx K g D k nt (pcs M g) (fun p => K (180 + p) D) (fun p => K (171 + p) D) (fun p => K (167 + (K 92 p).toNat) D)) M1 M1 W := by
    have oo : ∀ q, q ≠ 53 → q ≠ 54 → q ≠ 55 → q ≠ 58 → (q < 61 ∨ 64 < q) → M1 q = M q := o2
    refine ⟨fun q hq => oo q (by omega) (by omega) (by omega) (by omega) (by omega), ⟨rfl, rfl, rfl, rfl, rfl⟩, fun g p hg hp => ?_, fun q hq => d1 q (by omega), fun g hg => ⟨fun q => by omega, fun q => ?_⟩, fun g p hg hp => ⟨fun q => by omega, fun q => ?_⟩, fun g hg => ?_, fun w g hw hg => ?_, fun x y hx hy => ?_, ⟨fun g hg => by omega, fun j _ => ?_⟩, fun i hi => ?_, fun i hi => by rw [oo 40 (by decide) (by decide) (by decide) (by decide) (by decide), oo 41 (by decide) (by decide) (by decide) (by decide) (by decide), d1 107 (by omega)]; exact ⟨rfl, rfl, rfl⟩⟩
    · rw [o9 g p hg hp, k3 p hp]; rfl
    · obtain ⟨z1, z2⟩ := o10 g hg
      rw [z1, dce g hg, d2 g hg, feF_0 nd (fun i hi => by rw [d1 104 (by omega)]; exact (f104 i hi).1)]
      dsimp only
      omega
    · exact (d3 g p hg hp).symm
    · obtain ⟨z1, z2, z3⟩ := d4 g hg
      have e : usm W g D nd = usm K g D nd := usm_e nd (fun i hi => by rw [d1 104 (by omega), d1 106 (by omega), d1 107 (by omega)]; exact ⟨rfl, rfl, fun _ _ => rfl⟩)
      rw [oo 60 (by decide) (by decide) (by decide) (by decide) (by decide), oo 44 (by decide) (by decide) (by decide) (by decide) (by decide), if_neg (by omega), e]
      exact ⟨z1, z2, z3⟩
    · have e : hwm W w g D nd = hwm K w g D nd := hwm_e nd (fun i hi => by rw [d1 103 (by omega), d1 104 (by omega), d1 106 (by omega), d1 107 (by omega)]; exact ⟨rfl, rfl, rfl, fun _ _ => rfl⟩)
      rw [oo 43 (by decide) (by decide) (by decide) (by decide) (by decide), if_neg (by omega), e]
      exact d5 w g hw hg
    · rw [oo 59 (by decide) (by decide) (by decide) (by decide) (by decide)]; exact d6 x y hx hy
    · rw [oo 48 (by decide) (by decide) (by decide) (by decide) (by decide), oo 49 (by decide) (by decide) (by decide) (by decide) (by decide)]; exact ⟨rfl, rfl⟩
    · obtain ⟨⟨e1, e2, e3, e4⟩, hw, r4, r7, s1, s2⟩ := hDA.2.2 i hi
      obtain ⟨y1, y2, y3⟩ := d7 i hi
      rw [oo 40 (by decide) (by decide) (by decide) (by decide) (by decide), oo 41 (by decide) (by decide) (by decide) (by decide) (by decide), d1 107 (by omega), y1]
      exact ⟨⟨e3, e4⟩, r7, s1, s2, ⟨y2, y3⟩, (h0 i hi).2, fun _ => ⟨rfl, rfl⟩, fun q => by omega⟩
  -- the funds
  have run : ∃ Mu', UC_bookUntil_L30 F F (D : Int) l2 0 M1 = some Mu' ∧ SB K M nf nd D nf (pcs M) (fun g p => pcT K g D k p (pSp2 (pcs M g p) (K (180 + p) D)) nt) (fun g => dcx K g D k nt (pcs M g) (fun p => K (180 + p) D) (fun p => K (171 + p) D) (fun p => K (167 + (K 92 p).toNat) D)) M1 Mu' (itr (gGo D nt nd 0 1) 0 nf W) ∧ ∀ (K' A' : bz_Mm) (nl' : Nat), KK K K' nt nd nl' D → (opn (K 82) D = true → (∀ i, i < nd → K 106 i = D → (0 : Int) ≤ K 104 i → K' 107 i = (itr (gGo D nt nd 0 1) 0 nf W) 107 i ∧ K' 109 i = (itr (gGo D nt nd 0 1) 0 nf W) 189 i) ∧ ∀ g, 0 ≤ g → g < nf → K' (217 + g) D = (itr (gGo D nt nd 0 1) 0 nf W) (201 + g) D) → NB K' nd W A' → NB K' nd (itr (gGo D nt nd 0 1) 0 nf W) (itr (gGo D nt nd 1 0) 0 nf A') := by
    by_cases ho : opn (K 82) D = true
    · have lp : ∀ (m fuel f : Nat) (X A : bz_Mm), f + m = nf → m < fuel → SB K M nf nd D f (pcs M) (fun g p => pcT K g D k p (pSp2 (pcs M g p) (K (180 + p) D)) nt) (fun g => dcx K g D k nt (pcs M g) (fun p => K (180 + p) D) (fun p => K (171 + p) D) (fun p => K (167 + (K 92 p).toNat) D)) M1 X A → ∃ Mu', UC_bookUntil_L30 F fuel (D : Int) l2 (f : Int) X = some Mu' ∧ SB K M nf nd D nf (pcs M) (fun g p => pcT K g D k p (pSp2 (pcs M g p) (K (180 + p) D)) nt) (fun g => dcx K g D k nt (pcs M g) (fun p => K (180 + p) D) (fun p => K (171 + p) D) (fun p => K (167 + (K 92 p).toNat) D)) M1 Mu' (itr (gGo D nt nd 0 1) f m A) ∧ ∀ (K' A' : bz_Mm) (nl' : Nat), KK K K' nt nd nl' D → (opn (K 82) D = true → (∀ i, i < nd → K 106 i = D → (f : Int) ≤ K 104 i → K' 107 i = (itr (gGo D nt nd 0 1) f m A) 107 i ∧ K' 109 i = (itr (gGo D nt nd 0 1) f m A) 189 i) ∧ ∀ g, f ≤ g → g < nf → K' (217 + g) D = (itr (gGo D nt nd 0 1) f m A) (201 + g) D) → NB K' nd A A' → NB K' nd (itr (gGo D nt nd 0 1) f m A) (itr (gGo D nt nd 1 0) f m A') := by
        intro m
        induction m with
        | zero =>
          intro fuel f X A x1 x2 x3
          obtain ⟨fuel, rfl⟩ : ∃ j, fuel = j + 1 := ⟨fuel - 1, by omega⟩
          have e : f = nf := by omega
          subst e
          rw [UC_bookUntil_L30, x3.1 1 (by decide), h14, w32_n (by omega), if_neg (by omega)]
          exact ⟨X, rfl, x3, fun K' A' nl' _ _ hn => hn⟩
        | succ m ih =>
          intro fuel f X A x1 x2 x3
          obtain ⟨fuel, rfl⟩ : ∃ j, fuel = j + 1 := ⟨fuel - 1, by omega⟩
          have e : (f : Int) + 1 = ((f + 1 : Nat) : Int) := by omega
          obtain ⟨X', y1, y2, y3⟩ := sb_open hF hD hS0 h39 hL (show f < nf by omega) ho hB hk1 hk2 x3
          obtain ⟨x, z1, z2⟩ := c_open (F := F) (D := D) (M := X) (K := K) (by omega) (fun j hj => by rw [x3.1 7 (by decide)]; exact h7 j hj)
          rw [UC_bookUntil_L30, x3.1 1 (by decide), h14, w32_n (show f ≤ 2147483647 by omega), w32_n (show nf ≤ 2147483647 by omega), if_pos (by omega), z1, cl_s, if_neg (fun q => z2.mp q ho), y1, e, itr_S]
          obtain ⟨Mu', w1, w2, w3⟩ := ih fuel (f + 1) X' _ (by omega) (by omega) y2
          refine ⟨Mu', w1, w2, fun K' A' nl' hk hx hn => ?_⟩
          obtain ⟨kp1, kp2⟩ := keep_itr (D := D) (nt := nt) (nd := nd) (bk := 0) (new := 1) m (f + 1) (gGo D nt nd 0 1 A f) (by omega)
          obtain ⟨hx1, hx2⟩ := hx ho
          have a4 : A 104 = K 104 := x3.2.2.2.1 104 (Or.inl ⟨by decide, by decide⟩)
          rw [itr_S]
          refine w3 K' _ nl' hk (fun _ => ⟨fun i hi q1 q2 => hx1 i hi q1 (by omega), fun g g1 g2 => hx2 g (by omega) g2⟩) (y3 K' A' nl' hk ⟨fun i hi q1 q2 => ?_, ?_⟩ hn)
          · obtain ⟨z1, z2⟩ := kp1 i (by rw [gGo_o (by decide) (by decide), a4]; omega)
            obtain ⟨v1, v2⟩ := hx1 i hi q2 (by omega)
            rw [z2] at v1
            rw [z1] at v2
            exact ⟨v1, v2⟩
          · rw [← (kp2 f (by omega)).1]; exact hx2 f (Nat.le_refl f) (by omega)
      exact lp nf F 0 M1 W (by omega) (by omega) sb0
    · have lp : ∀ (m f : Nat) (A : bz_Mm), f + m = nf → SB K M nf nd D f (pcs M) (fun g p => pcT K g D k p (pSp2 (pcs M g p) (K (180 + p) D)) nt) (fun g => dcx K g D k nt (pcs M g) (fun p => K (180 + p) D) (fun p => K (171 + p) D) (fun p => K (167 + (K 92 p).toNat) D)) M1 M1 A → SB K M nf nd D nf (pcs M) (fun g p => pcT K g D k p (pSp2 (pcs M g p) (K (180 + p) D)) nt) (fun g => dcx K g D k nt (pcs M g) (fun p => K (180 + p) D) (fun p => K (171 + p) D) (fun p => K (167 + (K 92 p).toNat) D)) M1 M1 (itr (gGo D nt nd 0 1) f m A) ∧ ∀ (K' A' : bz_Mm) (nl' : Nat), KK K K' nt nd nl' D → (opn (K 82) D = true → (∀ i, i < nd → K 106 i = D → (f : Int) ≤ K 104 i → K' 107 i = (itr (gGo D nt nd 0 1) f m A) 107 i ∧ K' 109 i = (itr (gGo D nt nd 0 1) f m A) 189 i) ∧ ∀ g, f ≤ g → g < nf → K' (217 + g) D = (itr (gGo D nt nd 0 1) f m A) (201 + g) D) → NB K' nd A A' → NB K' nd (itr (gGo D nt nd 0 1) f m A) (itr (gGo D nt nd 1 0) f m A') := by
        intro m
        induction m with
        | zero => intro f A x1 x3; have e : f = nf := by omega
                  subst e; exact ⟨x3, fun K' A' nl' _ _ hn => hn⟩
        | succ m ih =>
          intro f A x1 x3
          rw [itr_S]
          obtain ⟨y1, y2⟩ := sb_closed hS0 hL (show f < nf by omega) ho x3
          obtain ⟨w1, w2⟩ := ih (f + 1) _ (by omega) y1
          refine ⟨w1, fun K' A' nl' hk hx hn => ?_⟩
          rw [itr_S]
          exact w2 K' _ nl' hk (fun h => absurd h ho) (y2 K' A' nl' hk hn)
      refine ⟨M1, ?_, lp nf 0 W (by omega) sb0⟩
      obtain ⟨x, z1, z2⟩ := c_open (F := F) (D := D) (M := M1) (K := K) (by omega) (fun j hj => by rw [sb0.1 7 (by decide)]; exact h7 j hj)
      obtain ⟨F', rfl⟩ : ∃ j, F = j + 1 := ⟨F - 1, by omega⟩
      rw [UC_bookUntil_L30, z1, cl_s, if_pos (z2.mpr ho)]
      split <;> rfl
  obtain ⟨Mu, run1, run2, run3⟩ := run
  refine ⟨M1, Mu, _, _, _, o1, run1, run2, ?_, ⟨b1, b2, b3, ?_, ?_, ?_⟩, ?_, fun s nr hs hnr h3 => ?_, fun j hj => ?_, run3⟩
  all_goals obtain ⟨t1, t2, t3, _⟩ := run2
  · intro g p hg hp
    rw [t3 g p hg hp]; exact pcT_r (pSp2_r _ _) nt
  · rw [t2.1]; exact o4
  · rw [t2.1]; exact o5
  · rw [t2.1]; exact ⟨o6.2.1, o6.2.2.2.1⟩
  · unfold FLG at o7 ⊢
    rw [t2.1, t2.2.2.2.1, t2.2.2.2.2]; exact o7
  · have : Mu (61 + s) = M1 (61 + s) := by
      match s, hs with
      | 0, _ => exact t2.2.1
      | 1, _ => exact t2.2.2.1
    rw [this]; exact k61 s nr hs hnr h3
  · rw [t2.1, o3 j hj]
