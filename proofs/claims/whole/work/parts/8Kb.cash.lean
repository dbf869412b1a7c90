/-! cash stays within bounds -/
theorem lv_r {M : bz_Mm} {s nr : Nat} {k : Int} {d : Nat} : ∀ (n : Nat) (v : Int), (∀ t, t < n → 0 ≤ M 86 t ∧ M 86 t ≤ 10000) → (0 ≤ v ∧ v ≤ 10000) → 0 ≤ lv M s nr k d n v ∧ lv M s nr k d n v ≤ 10000 := by
  intro n
  induction n with
  | zero => intro v _ h; exact h
  | succ n ih =>
    intro v h hv
    rw [lv_S]
    split
    · exact h n (by omega)
    · exact ih v (fun t ht => h t (by omega)) hv
theorem kv_r {M : bz_Mm} {s nr : Nat} {k : Int} {n : Nat} (h : ∀ t, t < n → 0 ≤ M 86 t ∧ M 86 t ≤ 10000) : ∀ d : Nat, 0 ≤ kv M s nr k n d ∧ kv M s nr k n d ≤ 10000 := by
  have p : 0 ≤ pln s ∧ pln s ≤ 10000 := by unfold pln; split <;> omega
  intro d
  induction d with
  | zero => exact lv_r n _ h p
  | succ d ih =>
    rw [kv_S]
    refine lv_r n _ h ?_
    split
    · exact ih
    · exact p
theorem sumr_b {t : Nat → Int} {B : Int} : ∀ (m i : Nat), (∀ w, i ≤ w → w < i + m → -B ≤ t w ∧ t w ≤ B) → -(B * m) ≤ sumr t i m 0 ∧ sumr t i m 0 ≤ B * m := by
  intro m
  induction m with
  | zero => intro i _; show -(B * 0) ≤ 0 ∧ 0 ≤ B * 0; omega
  | succ m ih =>
    intro i h
    rw [sumr_S, sumr_a]
    have a := ih (i + 1) (fun w x y => h w (by omega) (by omega))
    have b := h i (by omega) (by omega)
    have e : B * ((m + 1 : Nat) : Int) = B * m + B := by
      rw [show ((m + 1 : Nat) : Int) = (m : Int) + 1 by omega, Int.mul_add, Int.mul_one]
    rw [e]
    omega
theorem w32_rg (x : Int) : -2147483648 ≤ w32 x ∧ w32 x ≤ 2147483647 := by
  have := w32_r x
  exact ⟨this.1, this.2⟩
theorem csT_b {R : bz_Mm} {f D : Nat} {k : Int} : ∀ t : Nat, -(2147483648 * (t : Int)) ≤ csT R f D k t ∧ csT R f D k t ≤ 2147483648 * (t : Int) := by
  intro t
  induction t with
  | zero => show _ ≤ (0 : Int) ∧ (0 : Int) ≤ _; omega
  | succ t ih =>
    rw [csT_S]
    have h := w32_rg (R 101 t)
    split <;> omega
theorem feS_b {W : bz_Mm} {f D : Nat} : ∀ n : Nat, (∀ i, i < n → 0 ≤ W 189 i ∧ W 189 i ≤ 1000000000) → -(1000000000 * (n : Int)) ≤ feS W f D n ∧ feS W f D n ≤ 1000000000 * (n : Int) := by
  intro n
  induction n with
  | zero => intro _; show _ ≤ (0 : Int) ∧ (0 : Int) ≤ _; omega
  | succ n ih =>
    intro h
    have a := ih (fun i hi => h i (by omega))
    have b := h n (by omega)
    rw [feS_S]
    by_cases c : W 103 n = 16 + (f : Int) ∧ W 106 n = D
    · rw [if_pos c]; split <;> omega
    · rw [if_neg c]; omega
theorem sdl_b {R : bz_Mm} {f D : Nat} {t : Nat → Int} {B : Int} (hB : 0 ≤ B) : ∀ n : Nat, (∀ i, i < n → R 104 i = f → R 106 i = D → -B ≤ t i ∧ t i ≤ B) → -(B * n) ≤ sdl R f D t n ∧ sdl R f D t n ≤ B * n := by
  intro n
  induction n with
  | zero => intro _; show -(B * 0) ≤ (0 : Int) ∧ (0 : Int) ≤ B * 0; omega
  | succ n ih =>
    intro h
    have a := ih (fun i hi => h i (by omega))
    have e : B * ((n + 1 : Nat) : Int) = B * n + B := by
      rw [show ((n + 1 : Nat) : Int) = (n : Int) + 1 by omega, Int.mul_add, Int.mul_one]
    rw [sdl_S, e]
    by_cases c : R 104 n = f ∧ R 106 n = D
    · rw [if_pos c]; have := h n (by omega) c.1 c.2; omega
    · rw [if_neg c]; omega
theorem dcx_b {R : bz_Mm} {f D nt : Nat} {k : Int} {pc sp dv rt : Nat → Int} (hnt : nt ≤ 120) (h : ∀ p, p < 8 → (0 ≤ dv p ∧ dv p ≤ 10000) ∧ 0 ≤ rt p ∧ rt p ≤ 10000) : -2000000000000 ≤ dcx R f D k nt pc sp dv rt ∧ dcx R f D k nt pc sp dv rt ≤ 2000000000000 := by
  unfold dcx
  have c := csT_b (R := R) (f := f) (D := D) (k := k) nt
  have s := sumr_b (t := tDv (fun p => pSp2 (pc p) (sp p)) dv rt) (B := 100000000000) 8 0 (fun p _ hp => by
    obtain ⟨h1, h2⟩ := h p (by omega)
    have r := pSp2_r (pc p) (sp p)
    unfold tDv
    dsimp only
    rw [w32_id (x := dv p) (by omega) (by omega), w32_id (x := rt p) (by omega) (by omega)]
    generalize pSp2 (pc p) (sp p) = a at r
    generalize dv p = b at h1
    generalize rt p = c at h2
    have b1 : -(1000000 * b) ≤ a * b ∧ a * b ≤ 1000000 * b := ⟨by
      have := Int.mul_le_mul_of_nonneg_right r.1 h1.1
      omega, Int.mul_le_mul_of_nonneg_right r.2 h1.1⟩
    have b2 : -10000000000 ≤ a * b ∧ a * b ≤ 10000000000 := by omega
    have b3 : -(10000000000 * c) ≤ a * b * c ∧ a * b * c ≤ 10000000000 * c := ⟨by
      have := Int.mul_le_mul_of_nonneg_right b2.1 h2.1
      omega, Int.mul_le_mul_of_nonneg_right b2.2 h2.1⟩
    have b4 : -100000000000000 ≤ a * b * c ∧ a * b * c ≤ 100000000000000 := by omega
    rw [w64_id (x := a * b * c) (by omega) (by omega)]
    generalize a * b * c = w at b4
    by_cases z : 0 ≤ w
    · rw [Int.tdiv_eq_ediv_of_nonneg z]; omega
    · obtain ⟨v, hv⟩ : ∃ v, w = -v := ⟨-w, by omega⟩
      rw [hv, Int.neg_tdiv, Int.tdiv_eq_ediv_of_nonneg (by omega)]; omega)
  omega
/-- what a walk needs for its cash to be bounded -/
def CBK (K : bz_Mm) (nf nt nd nl N : Nat) : Prop := CH K nf nt nd nl ∧ nt ≤ 120 ∧ (∀ i, i < nd → 0 ≤ K 109 i ∧ K 109 i ≤ 1000000000) ∧ (∀ g d, g < nf → d < N → opn (K 82) d = true → -10000000000000 ≤ K (217 + g) d ∧ K (217 + g) d ≤ 10000000000000) ∧ ∀ d, d < N → (∀ p, p < 8 → 0 ≤ K (171 + p) d ∧ K (171 + p) d ≤ 10000) ∧ ∀ c, c < 3 → 0 ≤ K (167 + c) d ∧ K (167 + c) d ≤ 10000
def CBS (K : bz_Mm) (nf nd D f : Nat) (c : Int) (W : bz_Mm) : Prop := (∀ q, (q < 188 ∨ (210 < q ∧ q ≠ 222)) → W q = K q) ∧ (∀ g, g < 4 → W 210 g = usm K g (if g < f then D + 1 else D) nd) ∧ (∀ i, i < nd → 0 ≤ W 189 i ∧ W 189 i ≤ 1000000000) ∧ ∀ g, g < 4 → -(c + if g < f then 100000000000000 else 0) ≤ W 188 g ∧ W 188 g ≤ c + if g < f then 100000000000000 else 0
theorem cb_step {K W : bz_Mm} {bk c : Int} {nf nt nd nl N D f : Nat} (hbk : bk = 0 ∨ bk = 1) (hK : CBK K nf nt nd nl N) (hN : N ≤ 260) (hD : D < N) (hf : f < nf) (h : CBS K nf nd D f c W) : CBS K nf nd D (f + 1) c (gGo D nt nd bk 0 W f) := by
  obtain ⟨⟨k1, k2, k3, k4, k5⟩, kt, k6, k7, k8⟩ := hK
  obtain ⟨s1, s2, s3, s4⟩ := h
  have f4 : f < 4 := by omega
  have e : ∀ q, q < 188 → W q = K q := fun q hq => s1 q (by omega)
  have hw := k1.c e
  have w210 : W 210 f = usm K f D nd := by rw [s2 f f4, if_neg (by omega)]
  have usmr := usm_r (K := K) (g := f) (D := D) (fun i hi => (k4 i hi).1) nd (Nat.le_refl nd)
  have alp : 0 ≤ W 210 f ∧ W 210 f ≤ 2000000 := by rw [w210]; have := k5 f D f4; omega
  have dN : ∀ g, g ≠ f → (if g < f + 1 then D + 1 else D) = (if g < f then D + 1 else D) := fun g hg => by
    by_cases z : g < f
    · rw [if_pos z, if_pos (by omega)]
    · rw [if_neg z, if_neg (by omega)]
  have cN : ∀ g, g ≠ f → (if g < f + 1 then (100000000000000 : Int) else 0) = (if g < f then 100000000000000 else 0) := fun g hg => by
    by_cases z : g < f
    · rw [if_pos z, if_pos (by omega)]
    · rw [if_neg z, if_neg (by omega)]
  have sf := s4 f f4
  rw [if_neg (show ¬ f < f by omega)] at sf
  obtain ⟨k9, k10⟩ := k8 D hD
  have dc := dcx_b (R := W) (f := f) (D := D) (k := W 81 61) (pc := W (191 + f)) (sp := fun p => W (180 + p) D) (dv := fun p => W (171 + p) D) (rt := fun p => W (167 + (W 92 p).toNat) D) kt (fun p hp => by
    have cu := hw.1 p hp
    rw [e (171 + p) (by omega), e (167 + (W 92 p).toNat) (by omega)]
    exact ⟨k9 p hp, k10 _ (by omega)⟩)
  have fs := feS_b (W := W) (f := f) (D := D) nd s3
  have c2 : -(c + 3000000000000) ≤ c2X f D nt nd W ∧ c2X f D nt nd W ≤ c + 3000000000000 := by
    unfold c2X
    omega
  have usD : usm K f (D + 1) nd = W 210 f + sdl W f D (W 107) nd := by
    rw [usm_D, w210]
    congr 1
    exact sdl_c nd (fun i hi => ⟨⟨by rw [e 104 (by decide)], by rw [e 106 (by decide)]⟩, fun _ _ => by rw [e 107 (by decide)]⟩)
  by_cases ho : opn (W 82) D = true
  · rcases hbk with rfl | rfl
    · obtain ⟨r1, r2, r3, r4, r5, r6, r7, r8, r9, r10⟩ := gGo_R (f := f) (D := D) (nt := nt) (nd := nd) (W := W) f4 (by omega) k2 hw (fun i hi => by rw [e 107 (by decide)]; exact (k4 i hi).1) alp ho
      have pr : 0 ≤ prX2 f D nt nd W ∧ prX2 f D nt nd W ≤ 10000000 := swX_r (madeX_r alp.1)
      have fb : -10000000000000 ≤ feX2 f D nt nd W ∧ feX2 f D nt nd W ≤ 10000000000000 := feeX_r _ _
      have co : ∀ i, i < nd → 0 ≤ coX (W 107 i) (prX2 f D nt nd W) ∧ coX (W 107 i) (prX2 f D nt nd W) ≤ 1000000000 := fun i hi => coX_r (by rw [e 107 (by decide)]; exact (k4 i hi).1) pr
      have sd := sdl_b (R := W) (f := f) (D := D) (t := fun i => sgX (W 107 i) (coX (W 107 i) (prX2 f D nt nd W))) (B := 1000000000) (by decide) nd (fun i hi _ _ => by
        have := co i hi
        unfold sgX
        split <;> omega)
      refine ⟨fun q hq => by rw [r10 q (by omega) (by omega) (by omega) (by omega) (by omega) (by omega) (by omega) (by omega)]; exact s1 q hq, fun g hg => ?_, fun i hi => ?_, fun g hg => ?_⟩
      · by_cases z : g = f
        · subst z; rw [r8, if_pos (by omega), usD]
        · rw [r9 g z, dN g z]; exact s2 g hg
      · rw [r1 i]
        by_cases z : i < nd ∧ W 104 i = f ∧ W 106 i = D
        · rw [if_pos z]; exact co i hi
        · rw [if_neg z]; exact s3 i hi
      · by_cases z : g = f
        · subst z; rw [r2, if_pos (by omega)]; omega
        · rw [r3 g z, cN g z]; exact s4 g hg
    · obtain ⟨r1, r2, r3, r4, r5, r6, r7, r8⟩ := gGo_B (f := f) (D := D) (nt := nt) (nd := nd) (W := W) f4 hw ho
      have fb := k7 f D hf hD (by rw [← e 82 (by decide)]; exact ho)
      rw [← s1 (217 + f) (by omega)] at fb
      have co : ∀ i, i < nd → 0 ≤ W 109 i ∧ W 109 i ≤ 1000000000 := fun i hi => by rw [e 109 (by decide)]; exact k6 i hi
      have sd := sdl_b (R := W) (f := f) (D := D) (t := fun i => sgX (W 107 i) (W 109 i)) (B := 1000000000) (by decide) nd (fun i hi _ _ => by
        have := co i hi
        unfold sgX
        split <;> omega)
      refine ⟨fun q hq => by rw [r8 q (by omega) (by omega) (by omega) (by omega) (by omega)]; exact s1 q hq, fun g hg => ?_, fun i hi => ?_, fun g hg => ?_⟩
      · by_cases z : g = f
        · subst z; rw [r6, if_pos (by omega), usD]
        · rw [r7 g z, dN g z]; exact s2 g hg
      · rw [r1 i]
        by_cases z : i < nd ∧ W 104 i = f ∧ W 106 i = D
        · rw [if_pos z]; exact co i hi
        · rw [if_neg z]; exact s3 i hi
      · by_cases z : g = f
        · subst z; rw [r2, if_pos (by omega)]; omega
        · rw [r3 g z, cN g z]; exact s4 g hg
  · obtain ⟨r1, r2, r3, r4⟩ := gGo_N (bk := bk) (D := D) f4 hw ho
    refine ⟨fun q hq => by rw [r4 q (by omega) (by omega)]; exact s1 q hq, fun g hg => ?_, fun i hi => by rw [r4 189 (by decide) (by omega)]; exact s3 i hi, fun g hg => ?_⟩
    · rw [r4 210 (by decide) (by omega)]
      by_cases z : g = f
      · subst z
        rw [if_pos (by omega), usm_D, sdl_z nd (fun i hi _ q => (k4 i hi).2.2 (by
          have h0 := (k4 i hi).2.1
          have : (K 106 i).toNat = D := by omega
          rw [this, ← e 82 (by decide)]; exact ho)), Int.add_zero]
        exact w210
      · rw [dN g z]; exact s2 g hg
    · by_cases z : g = f
      · subst z; rw [r1, if_pos (by omega)]; omega
      · rw [r2 g z, cN g z]; exact s4 g hg
theorem cb_walk {K : bz_Mm} {bk : Int} {nf nt nd nl N : Nat} (hbk : bk = 0 ∨ bk = 1) (hK : CBK K nf nt nd nl N) (hN : N ≤ 260) (h104 : ∀ i, i < nd → 0 ≤ K 104 i ∧ K 104 i < nf) : ∀ m : Nat, m ≤ N → CBS K nf nd m 0 (3000000000 + 100000000000000 * (m : Int)) (wlk nf nt nd bk m K) := by
  intro m
  induction m with
  | zero =>
    intro _
    obtain ⟨a1, a2, a3⟩ := sBeg_cl (nd := nd) (K := K)
    have u0 : ∀ g, ∀ m, m ≤ nd → usm K g 0 m = 0 := fun g m => by
      induction m with
      | zero => intro _; rfl
      | succ m ih => intro hm; have := (hK.1.2.2.2.1 m (by omega)).2.1; rw [usm_S, ih (by omega), if_neg (by omega)]; omega
    refine ⟨fun q hq => a3 q (by omega), fun g hg => ?_, fun i hi => ?_, fun g hg => ?_⟩
    · show sBeg nd K 210 g = _
      rw [(a1 g hg).2.1, if_neg (by omega), u0 g nd (Nat.le_refl nd)]
    · show 0 ≤ sBeg nd K 189 i ∧ sBeg nd K 189 i ≤ _
      rw [a2 i hi]; omega
    · show _ ≤ sBeg nd K 188 g ∧ sBeg nd K 188 g ≤ _
      rw [(a1 g hg).1, if_neg (by omega)]
      have := w32_rg (K 93 g)
      omega
  | succ m ih =>
    intro hm
    have i0 := ih (by omega)
    rw [wlk_S]
    have lp : ∀ (j f : Nat) (W : bz_Mm), f + j = nf → CBS K nf nd m f (3000000000 + 100000000000000 * (m : Int)) W → CBS K nf nd m nf (3000000000 + 100000000000000 * (m : Int)) (itr (gGo m nt nd bk 0) f j W) := by
      intro j
      induction j with
      | zero => intro f W x1 x2; have e : f = nf := by omega
                subst e; exact x2
      | succ j ihj =>
        intro f W x1 x2
        rw [itr_S]
        exact ihj (f + 1) _ (by omega) (cb_step hbk hK hN (by omega) (by omega) x2)
    obtain ⟨s1, s2, s3, s4⟩ := lp nf 0 _ (by omega) i0
    refine ⟨s1, fun g hg => ?_, s3, fun g hg => ?_⟩
    · rw [s2 g hg, if_neg (c := g < 0) (by omega)]
      by_cases z : g < nf
      · rw [if_pos z]
      · rw [if_neg z, usm_D, sdl_z nd (fun i hi q _ => by have := h104 i hi; omega), Int.add_zero]
    · have := s4 g hg
      rw [if_neg (c := g < 0) (by omega)]
      by_cases z : g < nf
      · rw [if_pos z] at this; omega
      · rw [if_neg z] at this; omega
theorem cash_b {M X : bz_Mm} {k bk : Int} {n nf nt nd nl now N : Nat} (hbk : bk = 0 ∨ bk = 1) (hI : IT M n nf nt nd nl now) (hk : r32 k) (hX : KW M X k n) (hN : N ≤ now) : ∀ g, g < 4 → -30000000000000000 ≤ wlk nf nt nd bk N X 188 g ∧ wlk nf nt nd bk N X 188 g ≤ 30000000000000000 := by
  have hS := hI.stc hk hX
  have hwX := hS.wok (W := X) (fun _ _ => rfl)
  have hday := hS.day
  have n260 := hI.1.2.2
  obtain ⟨hA, hT, hDA, ⟨h14, hnf⟩, hC, hKN, hL, h43, h7, hz, hal, hfee⟩ := hS
  have e : ∀ q, (q = 82 ∨ 87 < q) → q < 158 → X q = M q := fun q a b => hX.2.1 q (by omega)
  have vb : ∀ t, t < n → 0 ≤ M 86 t ∧ M 86 t ≤ 10000 := fun t ht => (hI.2.2.2.2.2.2.2.2.2.2.2.2.1.1 t ht).2
  have cbk : CBK X nf nt nd nl N := by
    refine ⟨⟨hwX, hDA.1.2, hnf, fun i hi => ⟨(hDA.2.2 i hi).2.2.2.1, (hday i hi).1, (hz i hi).1⟩, hal⟩, hT.1.2, fun i hi => ?_, fun g d hg hd ho => ?_, fun d hd => ⟨fun p hp => ?_, fun c hc => ?_⟩⟩
    · rw [e 109 (by decide) (by decide)]; exact (hI.2.2.2.2.2.2.2.2.1 i hi).2.2.1
    · rw [e 82 (by decide) (by decide)] at ho
      have i11 := (hI.2.2.2.2.2.2.2.2.2.2.1 g d hg (by omega) ho).2
      rw [hX.2.1 (217 + g) (by omega), ← i11.1]; exact i11.2
    · rw [(hX.1.1 p d hp (by omega)).2.1]; exact kv_r vb d
    · obtain ⟨z0, z1, z2⟩ := hX.1.2 d (by omega)
      match c, hc with
      | 0, _ => rw [z0]; omega
      | 1, _ => rw [z1]; exact kv_r vb d
      | 2, _ => rw [z2]; exact kv_r vb d
  intro g hg
  have := (cb_walk hbk cbk (by omega) (fun i hi => (hDA.2.2 i hi).2.2.1) N (Nat.le_refl N)).2.2.2 g hg
  rw [if_neg (by omega)] at this
  omega
