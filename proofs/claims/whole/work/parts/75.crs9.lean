/-! a fund's day, side by side -/
theorem mtc_c {W K : bz_Mm} (h : ∀ q, 97 ≤ q → q ≤ 102 → W q = K q) (f D : Nat) (k : Int) (t : Nat) : mtc W f D k t = mtc K f D k t := by
  unfold mtc
  rw [h 97 (by decide) (by decide), h 99 (by decide) (by decide), h 102 (by decide) (by decide)]
theorem pcT_c {W K : bz_Mm} (h : ∀ q, 97 ≤ q → q ≤ 102 → W q = K q) (f D : Nat) (k : Int) (p : Nat) (v : Int) : ∀ t : Nat, pcT W f D k p v t = pcT K f D k p v t ∧ csT W f D k t = csT K f D k t := by
  intro t
  induction t with
  | zero => exact ⟨rfl, rfl⟩
  | succ t ih =>
    rw [pcT_S, pcT_S, csT_S, csT_S, ih.1, ih.2, mtc_c h, h 98 (by decide) (by decide), h 100 (by decide) (by decide), h 101 (by decide) (by decide)]
    exact ⟨rfl, rfl⟩
theorem feF_z {W : bz_Mm} {g D f : Nat} : ∀ n : Nat, (∀ i, i < n → W 106 i = D → W 189 i = 0) → feF W g D f n = 0 := by
  intro n
  induction n with
  | zero => intro _; rfl
  | succ n ih =>
    intro h
    rw [feF_S, ih (fun i hi => h i (by omega))]
    by_cases q : W 103 n = 16 + (g : Int) ∧ W 106 n = D ∧ W 104 n < f
    · rw [if_pos q, h n (by omega) q.2.1]; split <;> omega
    · rw [if_neg q]; omega
def STg (K M0 : bz_Mm) (k : Int) (n m nf nt nd nl T : Nat) : Prop :=
  AL M0 K m ∧ TA M0 K nf nt ∧ DA M0 K nf nd ∧ (M0 1 14 = nf ∧ nf ≤ 4) ∧ (∀ p, p < 8 → M0 6 p = K 92 p ∧ 0 ≤ K 92 p ∧ K 92 p < 3) ∧ (KN K K k n ∧ K 81 61 = k ∧ r32 k) ∧ (iv_la M0 nl ∧ ∀ q, ((45 ≤ q ∧ q ≤ 47) ∨ (119 ≤ q ∧ q ≤ 155)) → M0 q = K q) ∧ M0 81 43 = K 81 43 ∧ (∀ j, j < 260 → M0 7 j = K 82 j ∧ r32 (K 82 j)) ∧ (∀ i, i < nd → (¬ opn (K 82) (K 106 i).toNat = true → K 107 i = 0) ∧ (K 107 i = 0 → K 109 i = 0)) ∧ (∀ g D, g < 4 → 0 ≤ usm K g D nd) ∧ ∀ g d, g < nf → d < T → opn (K 82) d = true → M0 49 (g * 260 + d) = K (217 + g) d
theorem STg.day {K M0 : bz_Mm} {k : Int} {n m nf nt nd nl T : Nat} (h : STg K M0 k n m nf nt nd nl T) : ∀ i, i < nd → 0 ≤ K 106 i ∧ K 106 i < 260 := fun i hi => by
  obtain ⟨_, _, hD, _⟩ := h
  rw [← (hD.2.2 i hi).1.2.1]; exact hD.2.1.2.2.2 i hi
theorem STg.wok {K M0 : bz_Mm} {k : Int} {n m nf nt nd nl T : Nat} (h : STg K M0 k n m nf nt nd nl T) {W : bz_Mm} (hW : ∀ q, q < 188 → W q = K q) : WOK nl nt nd W := by
  have hd := h.day
  obtain ⟨hA, hT, hD, ⟨h14, hnf⟩, hC, hK, ⟨hL, hLq⟩, h43, _⟩ := h
  have wk : WOK nl nt nd K := by
    refine ⟨fun p hp => (hC p hp).2, fun u hu => (hT.2.2 u hu).2.2.1.1, fun i hi => ?_, iv_la.c (fun q hq => (hLq q (by omega)).symm) h43.symm hL⟩
    obtain ⟨_, hw, r4, r7, _, _⟩ := hD.2.2 i hi
    refine ⟨⟨by omega, by omega⟩, ?_⟩
    rcases hw with w | w <;> omega
  exact wk.c hW
def STc (K M0 : bz_Mm) (k : Int) (n nf nt nd nl T : Nat) : Prop := STg K M0 k n n nf nt nd nl T
theorem STc.day {K M0 : bz_Mm} {k : Int} {n nf nt nd nl T : Nat} (h : STc K M0 k n nf nt nd nl T) : ∀ i, i < nd → 0 ≤ K 106 i ∧ K 106 i < 260 := STg.day h
theorem STc.wok {K M0 : bz_Mm} {k : Int} {n nf nt nd nl T : Nat} (h : STc K M0 k n nf nt nd nl T) {W : bz_Mm} (hW : ∀ q, q < 188 → W q = K q) : WOK nl nt nd W := STg.wok h hW
/-- the cash and pieces a day brings, in the reference -/
theorem c2K {K W : bz_Mm} {f D nt nd : Nat} {pc0 : Nat → Int} (hW : ∀ q, q < 188 → W q = K q) (hcu : ∀ p, p < 8 → 0 ≤ K 92 p ∧ K 92 p < 3) (hp : ∀ p, p < 8 → W (191 + f) p = pc0 p) : c2X f D nt nd W = W 188 f + dcx K f D (K 81 61) nt pc0 (fun p => K (180 + p) D) (fun p => K (171 + p) D) (fun p => K (167 + (K 92 p).toNat) D) + feS W f D nd ∧ ∀ p, p < 8 → p2X f D nt W p = pcT K f D (K 81 61) p (pSp2 (pc0 p) (K (180 + p) D)) nt := by
  have hh : ∀ q, 97 ≤ q → q ≤ 102 → W q = K q := fun q a b => hW q (by omega)
  refine ⟨?_, fun p hp8 => ?_⟩
  · unfold c2X
    rw [hW 81 (by decide)]
    congr 2
    unfold dcx
    rw [(pcT_c hh f D (K 81 61) 0 0 nt).2]
    congr 1
    refine sumr_c 8 0 0 (fun j _ y => ?_)
    unfold tDv
    dsimp only
    rw [hp j (by omega), hW 92 (by decide)]
    have z := hcu j (by omega)
    rw [hW (180 + j) (by omega), hW (171 + j) (by omega), hW (167 + (K 92 j).toNat) (by omega)]
  · unfold p2X
    rw [hW 81 (by decide), hp p hp8, hW (180 + p) (by omega)]
    exact (pcT_c hh f D (K 81 61) p _ nt).1
def LKp (K : bz_Mm) (nf nt D : Nat) (k : Int) (pc0 pc1 : Nat → Nat → Int) (dc : Nat → Int) : Prop := ∀ g, g < nf → dc g = dcx K g D k nt (pc0 g) (fun p => K (180 + p) D) (fun p => K (171 + p) D) (fun p => K (167 + (K 92 p).toNat) D) ∧ ∀ p, p < 8 → pc1 g p = pcT K g D k p (pSp2 (pc0 g p) (K (180 + p) D)) nt
theorem sf_closed {K M0 M1 Mu WR WB : bz_Mm} {k : Int} {n m nf nt nd nl T D f : Nat} {pc0 pc1 : Nat → Nat → Int} {dc : Nat → Int} (hS : STg K M0 k n m nf nt nd nl T) (hL : LKp K nf nt D k pc0 pc1 dc) (hf : f < nf) (ho : ¬ opn (K 82) D = true) (h : SF K M0 nf nd D f pc0 pc1 dc M1 Mu WR WB) : SF K M0 nf nd D (f + 1) pc0 pc1 dc M1 Mu (gGo D nt nd 0 0 WR f) (gGo D nt nd 1 0 WB f) := by
  have hd := hS.day
  obtain ⟨s1, s2, s3, s4, s5, s6, s7, s8, s9, s10, s11⟩ := h
  have hwR := hS.wok (W := WR) (fun q hq => (s4 q (by omega)).1)
  have hwB := hS.wok (W := WB) (fun q hq => (s4 q (by omega)).2)
  obtain ⟨hA, hT, hDA, ⟨h14, hnf⟩, hC, ⟨hK1, hK2, hK3⟩, _, h43, h7, h0, hal, _⟩ := hS
  have f4 : f < 4 := by omega
  obtain ⟨r1, r2, r3, r4⟩ := gGo_N (bk := 0) (D := D) f4 hwR (by rw [(s4 82 (by omega)).1]; exact ho)
  obtain ⟨b1, b2, b3, b4⟩ := gGo_N (bk := 1) (D := D) f4 hwB (by rw [(s4 82 (by omega)).2]; exact ho)
  obtain ⟨l1, l2⟩ := hL f hf
  have nod : ∀ F' i, i < nd → K 106 i = D → ¬ dnx K D F' i := fun F' i hi q z => by
    have : (K 106 i).toNat = D := by omega
    unfold dnx at z
    rw [this] at z
    exact ho z.1
  have zR : ∀ i, i < nd → WR 106 i = D → WR 189 i = 0 := fun i hi q => ((s10 i hi).2 (nod f i hi (by rw [← (s4 106 (by omega)).1]; exact q))).1
  have zB : ∀ i, i < nd → WB 106 i = D → WB 189 i = 0 := fun i hi q => ((s10 i hi).2 (nod f i hi (by rw [← (s4 106 (by omega)).2]; exact q))).2.1
  obtain ⟨cR1, cR2⟩ := c2K (f := f) (D := D) (nt := nt) (nd := nd) (pc0 := pc0 f) (fun q hq => (s4 q (by omega)).1) (fun p hp => (hC p hp).2) (fun p hp => ((s6 f p hf hp).2 (Nat.le_refl f)).1)
  obtain ⟨cB1, cB2⟩ := c2K (f := f) (D := D) (nt := nt) (nd := nd) (pc0 := pc0 f) (fun q hq => (s4 q (by omega)).2) (fun p hp => (hC p hp).2) (fun p hp => ((s6 f p hf hp).2 (Nat.le_refl f)).2)
  rw [hK2, ← l1, feS_z nd zR] at cR1
  rw [hK2, ← l1, feS_z nd zB] at cB1
  rw [hK2] at cR2 cB2
  have f0 := (s5 f hf).2 (Nat.le_refl f)
  rw [feF_z nd zR, feF_z nd zB] at f0
  have dne : ∀ i, i < nd → (dnx K D (f + 1) i ↔ dnx K D f i) := fun i hi => by
    by_cases q : K 106 i = D
    · exact ⟨fun z => absurd z (nod _ i hi q), fun z => absurd z (nod _ i hi q)⟩
    · unfold dnx
      constructor
      · rintro ⟨x, y⟩; exact ⟨x, by omega⟩
      · rintro ⟨x, y⟩; exact ⟨x, by omega⟩
  have sz : ∀ g t, (∀ i, i < nd → K 107 i = 0 → t i = 0) → sdl K g D t nd = 0 := fun g t ht => sdl_z nd (fun i hi _ q => ht i hi ((h0 i hi).1 (by
    have : (K 106 i).toNat = D := by omega
    rw [this]; exact ho)))
  refine ⟨s1, s2, s3, fun q hq => ⟨by rw [r4 q (by omega) (by omega)]; exact (s4 q hq).1, by rw [b4 q (by omega) (by omega)]; exact (s4 q hq).2⟩, fun g hg => ⟨fun q => ?_, fun q => ?_⟩, fun g p hg hp => ⟨fun q => ?_, fun q => ?_⟩, fun g hg => ?_, fun x y hx hy => ?_, fun g d hg hd' hop => ?_, fun i hi => ⟨fun q => ?_, fun q => ?_⟩, s11⟩
  · by_cases e : g = f
    · subst e
      rw [r1, b1, cR1, cB1]
      exact ⟨by omega, by omega⟩
    · rw [r2 g e, b2 g e]; exact (s5 g hg).1 (by omega)
  · rw [r2 g (by omega), b2 g (by omega)]
    have t := (s5 g hg).2 (by omega)
    rw [feF_z nd zR, feF_z nd zB] at t
    rw [feF_z nd (fun i hi w => by rw [r4 189 (by decide) (by omega)]; rw [r4 106 (by decide) (by omega)] at w; exact zR i hi w), feF_z nd (fun i hi w => by rw [b4 189 (by decide) (by omega)]; rw [b4 106 (by decide) (by omega)] at w; exact zB i hi w)]
    exact t
  · by_cases e : g = f
    · subst e
      rw [r3 p hp, b3 p hp, cR2 p hp, cB2 p hp, l2 p hp]; exact ⟨rfl, rfl⟩
    · rw [r4 (191 + g) (by omega) (by omega), b4 (191 + g) (by omega) (by omega)]; exact (s6 g p hg hp).1 (by omega)
  · rw [r4 (191 + g) (by omega) (by omega), b4 (191 + g) (by omega) (by omega)]; exact (s6 g p hg hp).2 (by omega)
  · rw [r4 210 (by decide) (by omega), b4 210 (by decide) (by omega)]
    obtain ⟨y1, y2, y3⟩ := s7 g hg
    refine ⟨y1, y2, ?_⟩
    rw [y3]
    by_cases e : g = f
    · subst e
      rw [if_neg (by omega), if_pos (by omega), usm_D, sz g (K 107) (fun i _ q => q), Int.add_zero]
    · by_cases e2 : g < f
      · rw [if_pos e2, if_pos (by omega)]
      · rw [if_neg e2, if_neg (by omega)]
  · rw [r4 (206 + y) (by omega) (by omega), b4 (206 + y) (by omega) (by omega)]
    obtain ⟨y1, y2, y3⟩ := s8 x y hx hy
    refine ⟨y1, y2, ?_⟩
    rw [y3]
    by_cases e : y = f
    · subst e
      rw [if_neg (by omega), if_pos (by omega), hsm_D, sz y _ (fun i _ q => by rw [q]; split <;> rfl), Int.add_zero]
    · by_cases e2 : y < f
      · rw [if_pos e2, if_pos (by omega)]
      · rw [if_neg e2, if_neg (by omega)]
  · have dD : d < D := by
      by_cases q : d < D
      · exact q
      · have : d = D := by omega
        rw [this] at hop; exact absurd hop ho
    rw [r4 (196 + g) (by omega) (by omega), r4 (201 + g) (by omega) (by omega)]
    exact s9 g d hg (Or.inl dD) hop
  · rw [r4 189 (by decide) (by omega), b4 189 (by decide) (by omega)]; exact (s10 i hi).1 ((dne i hi).mp q)
  · rw [r4 189 (by decide) (by omega), b4 189 (by decide) (by omega)]; exact (s10 i hi).2 (fun z => q ((dne i hi).mpr z))
