/-! the reference's walk hangs on nothing but what is told of its days -/
def CG (K K' : bz_Mm) (nt nd nd' N : Nat) : Prop := (∀ q, ((q = 92 ∧ 0 < N) ∨ q = 93 ∨ (97 ≤ q ∧ q ≤ 102)) → K' q = K q) ∧ (∀ q d, 158 ≤ q → q < 188 → (q ≠ 166 ∧ q ≠ 170 ∧ q ≠ 179) → d < N → K' q d = K q d) ∧ (K' 81 61 = K 81 61 ∨ ∀ t, t < nt → K 102 t ≤ K 81 61 ∧ K 102 t ≤ K' 81 61) ∧ nd ≤ nd' ∧ (∀ i, i < nd → K' 103 i = K 103 i ∧ K' 104 i = K 104 i ∧ K' 105 i = K 105 i ∧ K' 106 i = K 106 i) ∧ (∀ i, i < nd → K 106 i < N → K' 107 i = K 107 i ∧ K' 109 i = K 109 i) ∧ (∀ i, nd ≤ i → i < nd' → (N : Int) ≤ K' 106 i) ∧ (∀ d, d < N → opn (K' 82) d = opn (K 82) d) ∧ (∀ f d w, f < 4 → w < 12 → d < N → rv K' f (d : Nat) w = rv K f (d : Nat) w) ∧ ∀ g d, g < 4 → d < N → K' (217 + g) d = K (217 + g) d
theorem pcT_kk {W K : bz_Mm} {k k' : Int} {nt : Nat} (h : ∀ q, 97 ≤ q → q ≤ 102 → W q = K q) (hk : k' = k ∨ ∀ t, t < nt → K 102 t ≤ k ∧ K 102 t ≤ k') (f D p : Nat) (v : Int) : pcT W f D k' p v nt = pcT K f D k p v nt ∧ csT W f D k' nt = csT K f D k nt := by
  have m : ∀ t, t < nt → mtc W f D k' t = mtc K f D k t := fun t ht => by
    rw [mtc_c h]
    rcases hk with e | e
    · rw [e]
    · have := e t ht
      unfold mtc
      rw [decide_eq_true (show ¬ k' < K 102 t by omega), decide_eq_true (show ¬ k < K 102 t by omega)]
  have g : ∀ t, t ≤ nt → pcT W f D k' p v t = pcT K f D k p v t ∧ csT W f D k' t = csT K f D k t := by
    intro t
    induction t with
    | zero => intro _; exact ⟨rfl, rfl⟩
    | succ t ih =>
      intro ht
      obtain ⟨a, b⟩ := ih (by omega)
      rw [pcT_S, pcT_S, csT_S, csT_S, a, b, m t (by omega), h 98 (by decide) (by decide), h 100 (by decide) (by decide), h 101 (by decide) (by decide)]
      exact ⟨rfl, rfl⟩
  exact g nt (Nat.le_refl nt)
theorem sdl_e {K K' : bz_Mm} {f D nd nd' : Nat} {t t' : Nat → Int} (h1 : nd ≤ nd') (h2 : ∀ i, i < nd → K' 104 i = K 104 i ∧ K' 106 i = K 106 i ∧ (K 104 i = f → K 106 i = D → t' i = t i)) (h3 : ∀ i, nd ≤ i → i < nd' → K' 106 i ≠ D) : sdl K' f D t' nd' = sdl K f D t nd := by
  rw [sdl_k nd' nd h1 h3]
  exact sdl_c nd (fun i hi => by obtain ⟨a, b, c⟩ := h2 i hi; exact ⟨⟨a, b⟩, fun x y => c (by rw [← a]; exact x) (by rw [← b]; exact y)⟩)
theorem fwS_e {K K' : bz_Mm} {f D nd nd' : Nat} (h1 : nd ≤ nd') (h2 : ∀ i, i < nd → K' 104 i = K 104 i ∧ K' 106 i = K 106 i ∧ (K 104 i = f → K 106 i = D → K' 107 i = K 107 i)) (h3 : ∀ i, nd ≤ i → i < nd' → K' 106 i ≠ D) : fwS K' f D nd' = fwS K f D nd := by
  rw [fwS_k nd' nd h1 h3]
  have : ∀ n, n ≤ nd → fwS K' f D n = fwS K f D n := by
    intro n
    induction n with
    | zero => intro _; rfl
    | succ n ih =>
      intro hn
      obtain ⟨a, b, c⟩ := h2 n (by omega)
      rw [fwS_S, fwS_S, ih (by omega), a, b]
      by_cases q : K 104 n = f ∧ K 106 n = D
      · rw [if_pos q, if_pos q, c q.1 q.2]
      · rw [if_neg q, if_neg q]
  exact this nd (Nat.le_refl nd)
theorem feS_e {W W' : bz_Mm} {f D nd nd' : Nat} (h1 : nd ≤ nd') (h2 : ∀ i, i < nd → W' 103 i = W 103 i ∧ W' 105 i = W 105 i ∧ W' 106 i = W 106 i ∧ W' 189 i = W 189 i) (h3 : ∀ i, nd ≤ i → i < nd' → W' 106 i ≠ D) : feS W' f D nd' = feS W f D nd := by
  have k : ∀ (y x : Nat), x ≤ y → (∀ u, x ≤ u → u < y → W' 106 u ≠ D) → feS W' f D y = feS W' f D x := by
    intro y
    induction y with
    | zero => intro x h _; have : x = 0 := by omega
              rw [this]
    | succ y ih =>
      intro x a b
      by_cases c : x = y + 1
      · rw [c]
      · rw [feS_S, if_neg (fun q => b y (by omega) (by omega) q.2), Int.add_zero]
        exact ih x (by omega) (fun u p q => b u p (by omega))
  rw [k nd' nd h1 h3]
  exact feS_c nd (fun i hi => by obtain ⟨a, b, c, e⟩ := h2 i hi; exact ⟨a, c, b, fun _ _ => e⟩)
/-- two walks alike, within day D, funds below f done -/
def WW (K K' : bz_Mm) (bk : Int) (nf nd D f : Nat) (W W' : bz_Mm) : Prop := (∀ q, (q < 188 ∨ (210 < q ∧ q ≠ 222)) → W q = K q ∧ W' q = K' q) ∧ (∀ g, g < 4 → W' 188 g = W 188 g ∧ W' 210 g = W 210 g ∧ W 210 g = usm K g (if g < f then D + 1 else D) nd ∧ (∀ p, p < 8 → W' (191 + g) p = W (191 + g) p) ∧ ∀ w, w < 20 → W' (206 + g) w = W (206 + g) w) ∧ (bk = 0 → ∀ g d, g < nf → (d < D ∨ (d = D ∧ g < f)) → opn (K 82) d = true → W' (196 + g) d = W (196 + g) d ∧ W' (201 + g) d = W (201 + g) d) ∧ ∀ i, i < nd → W' 189 i = W 189 i
def CH (K : bz_Mm) (nf nt nd nl : Nat) : Prop := WOK nl nt nd K ∧ nd ≤ 200 ∧ nf ≤ 4 ∧ (∀ i, i < nd → (-10000 ≤ K 107 i ∧ K 107 i ≤ 10000) ∧ (0 ≤ K 106 i) ∧ (¬ opn (K 82) (K 106 i).toNat = true → K 107 i = 0)) ∧ ∀ g D, g < 4 → 0 ≤ usm K g D nd
theorem cg_step {K K' W W' : bz_Mm} {bk : Int} {nf nt nd nd' nl nl' N D f : Nat} (hbk : bk = 0 ∨ bk = 1) (hC : CG K K' nt nd nd' N) (hK : CH K nf nt nd nl) (hK' : WOK nl' nt nd' K') (hnd' : nd' ≤ 200) (hu' : ∀ i, i < nd' → -10000 ≤ K' 107 i ∧ K' 107 i ≤ 10000) (hN : N ≤ 260) (hD : D < N) (hf : f < nf) (h : WW K K' bk nf nd D f W W') : WW K K' bk nf nd D (f + 1) (gGo D nt nd bk 0 W f) (gGo D nt nd' bk 0 W' f) := by
  obtain ⟨g1, gk, g2, g3, g4, g4b, g5, g6, g7, g8⟩ := hC
  obtain ⟨k1, k2, k3, k4, k5⟩ := hK
  obtain ⟨s1, s2, s3, s4⟩ := h
  have f4 : f < 4 := by omega
  have e : ∀ q, q < 188 → W q = K q := fun q hq => (s1 q (by omega)).1
  have e' : ∀ q, q < 188 → W' q = K' q := fun q hq => (s1 q (by omega)).2
  have hw := k1.c e
  have hw' := hK'.c e'
  have nD : ∀ i, nd ≤ i → i < nd' → K' 106 i ≠ D := fun i a b => by have := g5 i a b; omega
  obtain ⟨c1, c2, c3, c4, c5⟩ := s2 f f4
  -- cash and pieces ahead of assets
  have hh : ∀ q, 97 ≤ q → q ≤ 102 → W' q = W q := fun q a b => by rw [e' q (by omega), e q (by omega)]; exact g1 q (by omega)
  have w61 : W' 81 61 = W 81 61 ∨ ∀ t, t < nt → W 102 t ≤ W 81 61 ∧ W 102 t ≤ W' 81 61 := by rw [e' 81 (by decide), e 81 (by decide), e 102 (by decide)]; exact g2
  have w92 : W' 92 = W 92 := by rw [e' 92 (by decide), e 92 (by decide)]; exact g1 92 (by omega)
  have kn : ∀ q, 158 ≤ q → q < 188 → (q ≠ 166 ∧ q ≠ 170 ∧ q ≠ 179) → W' q D = W q D := fun q a b c => by rw [e' q b, e q b]; exact gk q D a b c hD
  have ec : c2X f D nt nd' W' = c2X f D nt nd W := by
    unfold c2X
    rw [c1, feS_e (W := W) (W' := W') g3 (fun i hi => ?_) (fun i a b => by rw [e' 106 (by decide)]; exact nD i a b)]
    · congr 2
      unfold dcx
      rw [(pcT_kk hh w61 f D 0 0).2]
      congr 1
      refine sumr_c 8 0 0 (fun j _ y => ?_)
      have cu := hw.1 j (by omega)
      unfold tDv
      dsimp only
      rw [c4 j (by omega), w92, kn (180 + j) (by omega) (by omega) (by omega), kn (171 + j) (by omega) (by omega) (by omega), kn (167 + (W 92 j).toNat) (by omega) (by omega) (by omega)]
    · obtain ⟨z1, z2, z3, z4⟩ := g4 i hi
      rw [e' 103 (by decide), e' 105 (by decide), e' 106 (by decide), e 103 (by decide), e 105 (by decide), e 106 (by decide)]
      exact ⟨z1, z3, z4, s4 i hi⟩
  have ep : ∀ p, p < 8 → p2X f D nt W' p = p2X f D nt W p := fun p hp => by
    unfold p2X
    rw [c4 p hp, kn (180 + p) (by omega) (by omega) (by omega)]
    exact (pcT_kk hh w61 f D p _).1
  have d3 : ∀ t t' : Nat → Int, (∀ i, i < nd → W 106 i = D → t' i = t i) → sdl W' f D t' nd' = sdl W f D t nd := fun t t' ht => sdl_e g3 (fun i hi => by
    obtain ⟨z1, z2, z3, z4⟩ := g4 i hi
    rw [e' 104 (by decide), e' 106 (by decide), e 104 (by decide), e 106 (by decide)]
    exact ⟨z2, z4, fun _ y => ht i hi (by rw [e 106 (by decide)]; exact y)⟩) (fun i a b => by rw [e' 106 (by decide)]; exact nD i a b)
  have k107 : ∀ i, i < nd → W 106 i = D → W' 107 i = W 107 i := fun i hi y => by rw [e' 107 (by decide), e 107 (by decide)]; exact (g4b i hi (by rw [e 106 (by decide)] at y; omega)).1
  have k103 : ∀ i, i < nd → W' 103 i = W 103 i := fun i hi => by rw [e' 103 (by decide), e 103 (by decide)]; exact (g4 i hi).1
  have cond : ∀ i, i < nd → ((i < nd' ∧ W' 104 i = f ∧ W' 106 i = D) ↔ (i < nd ∧ W 104 i = f ∧ W 106 i = D)) := fun i hi => by
    obtain ⟨z1, z2, z3, z4⟩ := g4 i hi
    rw [e' 104 (by decide), e' 106 (by decide), e 104 (by decide), e 106 (by decide), z2, z4]
    exact ⟨fun q => ⟨hi, q.2⟩, fun q => ⟨by omega, q.2⟩⟩
  have opW : opn (W' 82) D = opn (W 82) D := by rw [e' 82 (by decide), e 82 (by decide)]; exact g6 D hD
  have usmr := usm_r (K := K) (g := f) (D := D) (fun i hi => (k4 i hi).1) nd (Nat.le_refl nd)
  have w210 : W 210 f = usm K f D nd := by rw [c3, if_neg (by omega)]
  have alp : 0 ≤ W 210 f ∧ W 210 f ≤ 2000000 := by rw [w210]; have := k5 f D f4; omega
  have usmE : ∀ g, g < 4 → (g = f → usm K g (D + 1) nd = W 210 g + sdl W g D (W 107) nd) := fun g hg q => by
    subst q
    rw [usm_D, w210]
    congr 1
    exact sdl_c nd (fun i hi => ⟨⟨by rw [e 104 (by decide)], by rw [e 106 (by decide)]⟩, fun _ _ => by rw [e 107 (by decide)]⟩)
  have usmN : ∀ g, ¬ g = f → (if g < f then D + 1 else D) = (if g < f + 1 then D + 1 else D) := fun g q => by
    by_cases z : g < f
    · rw [if_pos z, if_pos (by omega)]
    · rw [if_neg z, if_neg (by omega)]
  by_cases ho : opn (W 82) D = true
  · have ho' : opn (W' 82) D = true := by rw [opW]; exact ho
    rcases hbk with rfl | rfl
    · -- RIGHT
      have n43 : (W 81 43).toNat ≤ 6 := by have := hw.2.2.2.2.1; have := hw.2.2.2.2.2.1; omega
      have n43' : (W' 81 43).toNat ≤ 6 := by have := hw'.2.2.2.2.1; have := hw'.2.2.2.2.2.1; omega
      have n43K : (K 81 43).toNat ≤ 6 := by have := k1.2.2.2.2.1; have := k1.2.2.2.2.2.1; omega
      have n43K' : (K' 81 43).toNat ≤ 6 := by have := hK'.2.2.2.2.1; have := hK'.2.2.2.2.2.1; omega
      have rvE : ∀ w, w < 12 → rv W' f D w = rv W f D w := fun w hw12 => by
        rw [rv_c (M := K') (M' := W') (fun q a b => e' q (by omega)) (by rw [e' 81 (by decide)]) n43K' f f4 D w, rv_c (M := K) (M' := W) (fun q a b => e q (by omega)) (by rw [e 81 (by decide)]) n43K f f4 D w]
        exact g7 f D w f4 hw12 hD
      have ea : a2X f D nt nd' W' = a2X f D nt nd W := by
        unfold a2X
        rw [ec]
        have e1 : sumr (fun p => (w64 (p2X f D nt W' p * w32 (W' (158 + p) D) * w32 (W' (167 + (W' 92 p).toNat) D))).tdiv 1000) 0 8 (c2X f D nt nd W) = sumr (fun p => (w64 (p2X f D nt W p * w32 (W (158 + p) D) * w32 (W (167 + (W 92 p).toNat) D))).tdiv 1000) 0 8 (c2X f D nt nd W) := by
          refine sumr_c 8 0 _ (fun j _ y => ?_)
          have cu := hw.1 j (by omega)
          rw [ep j (by omega), w92, kn (158 + j) (by omega) (by omega) (by omega), kn (167 + (W 92 j).toNat) (by omega) (by omega) (by omega)]
        rw [e1]
        refine sumr_c f 0 _ (fun j _ y => ?_)
        unfold tHe
        rw [(s2 j (by omega)).2.2.2.2 (16 + f) (by omega), (s3 rfl j D (by omega) (Or.inr ⟨rfl, by omega⟩) (by rw [← e 82 (by decide)]; exact ho)).1]
      have ef : feX2 f D nt nd' W' = feX2 f D nt nd W := by unfold feX2; rw [ea, rvE _ (by decide)]
      have fwE : fwS W' f D nd' = fwS W f D nd := fwS_e g3 (fun i hi => by
        obtain ⟨z1, z2, z3, z4⟩ := g4 i hi
        rw [e' 104 (by decide), e' 106 (by decide), e 104 (by decide), e 106 (by decide)]
        exact ⟨z2, z4, fun _ y => k107 i hi (by rw [e 106 (by decide)]; exact y)⟩) (fun i a b => by rw [e' 106 (by decide)]; exact nD i a b)
      have epr : prX2 f D nt nd' W' = prX2 f D nt nd W := by
        unfold prX2
        rw [ea, ef, c2, fwE, rvE 2 (by decide), rvE 1 (by decide)]
      obtain ⟨r1, r2, r3, r4, r5, r6, r7, r8, r9, r10⟩ := gGo_R (f := f) (D := D) (nt := nt) (nd := nd) (W := W) f4 (by omega) k2 hw (fun i hi => by rw [e 107 (by decide)]; exact (k4 i hi).1) alp ho
      obtain ⟨q1, q2, q3, q4, q5, q6, q7, q8, q9, q10⟩ := gGo_R (f := f) (D := D) (nt := nt) (nd := nd') (W := W') f4 (by omega) hnd' hw' (fun i hi => by rw [e' 107 (by decide)]; exact hu' i hi) (by rw [c2]; exact alp) ho'
      rw [ec, ef, epr] at q2
      rw [epr] at q1 q5
      rw [ef] at q6
      refine ⟨fun q hq => ⟨by rw [r10 q (by omega) (by omega) (by omega) (by omega) (by omega) (by omega) (by omega) (by omega)]; exact (s1 q hq).1, by rw [q10 q (by omega) (by omega) (by omega) (by omega) (by omega) (by omega) (by omega) (by omega)]; exact (s1 q hq).2⟩, fun g hg => ?_, fun hb0 g d hg hd hop => ?_, fun i hi => ?_⟩
      · obtain ⟨y1, y2, y3, y4, y5⟩ := s2 g hg
        by_cases z : g = f
        · subst z
          refine ⟨?_, ?_, ?_, fun p hp => by rw [r4 p hp, q4 p hp]; exact ep p hp, fun w hw => ?_⟩
          · rw [r2, q2, d3 (fun i => sgX (W 107 i) (coX (W 107 i) (prX2 g D nt nd W))) _ (fun i hi y => by rw [k107 i hi y])]
          · rw [r8, q8, y2, d3 (W 107) (W' 107) k107]
          · rw [r8, if_pos (by omega), usmE g hg rfl]
          · rw [r7 w, q7 w, y5 w hw, d3 (fun i => if W 103 i = (w : Int) then W 107 i else 0) _ (fun i hi y => by rw [k103 i hi, k107 i hi y])]
        · rw [r3 g z, q3 g z, r9 g z, q9 g z, r10 (191 + g) (by omega) (by omega) (by omega) (by omega) (by omega) (by omega) (by omega) (by omega), q10 (191 + g) (by omega) (by omega) (by omega) (by omega) (by omega) (by omega) (by omega) (by omega), r10 (206 + g) (by omega) (by omega) (by omega) (by omega) (by omega) (by omega) (by omega) (by omega), q10 (206 + g) (by omega) (by omega) (by omega) (by omega) (by omega) (by omega) (by omega) (by omega)]
          rw [usmN g z] at y3
          exact ⟨y1, y2, y3, y4, y5⟩
      · by_cases z : g = f
        · subst z
          rw [r5, r6, q5, q6]
          by_cases z2 : d = D
          · subst z2; rw [ud_eq, ud_eq, ud_eq, ud_eq]; exact ⟨rfl, rfl⟩
          · rw [ud_ne z2, ud_ne z2, ud_ne z2, ud_ne z2]; exact s3 rfl g d hg (by omega) hop
        · rw [r10 (196 + g) (by omega) (by omega) (by omega) (by omega) (by omega) (by omega) (by omega) (by omega), q10 (196 + g) (by omega) (by omega) (by omega) (by omega) (by omega) (by omega) (by omega) (by omega), r10 (201 + g) (by omega) (by omega) (by omega) (by omega) (by omega) (by omega) (by omega) (by omega), q10 (201 + g) (by omega) (by omega) (by omega) (by omega) (by omega) (by omega) (by omega) (by omega)]
          exact s3 rfl g d hg (by omega) hop
      · rw [r1 i, q1 i, s4 i hi]
        by_cases z : i < nd ∧ W 104 i = f ∧ W 106 i = D
        · rw [if_pos z, if_pos ((cond i hi).mpr z), k107 i hi z.2.2]
        · rw [if_neg z, if_neg (fun y => z ((cond i hi).mp y))]
    · -- as BOOKED
      obtain ⟨r1, r2, r3, r4, r5, r6, r7, r8⟩ := gGo_B (f := f) (D := D) (nt := nt) (nd := nd) (W := W) f4 hw ho
      obtain ⟨q1, q2, q3, q4, q5, q6, q7, q8⟩ := gGo_B (f := f) (D := D) (nt := nt) (nd := nd') (W := W') f4 hw' ho'
      have k109 : ∀ i, i < nd → W 106 i = D → W' 109 i = W 109 i := fun i hi y => by rw [e' 109 (by decide), e 109 (by decide)]; exact (g4b i hi (by rw [e 106 (by decide)] at y; omega)).2
      have e217 : W' (217 + f) D = W (217 + f) D := by rw [(s1 (217 + f) (by omega)).2, (s1 (217 + f) (by omega)).1]; exact g8 f D f4 hD
      rw [ec, e217] at q2
      refine ⟨fun q hq => ⟨by rw [r8 q (by omega) (by omega) (by omega) (by omega) (by omega)]; exact (s1 q hq).1, by rw [q8 q (by omega) (by omega) (by omega) (by omega) (by omega)]; exact (s1 q hq).2⟩, fun g hg => ?_, fun hb0 g d hg hd hop => ?_, fun i hi => ?_⟩
      · obtain ⟨y1, y2, y3, y4, y5⟩ := s2 g hg
        by_cases z : g = f
        · subst z
          refine ⟨?_, ?_, ?_, fun p hp => by rw [r4 p hp, q4 p hp]; exact ep p hp, fun w hw => ?_⟩
          · rw [r2, q2, d3 (fun i => sgX (W 107 i) (W 109 i)) _ (fun i hi y => by rw [k107 i hi y, k109 i hi y])]
          · rw [r6, q6, y2, d3 (W 107) (W' 107) k107]
          · rw [r6, if_pos (by omega), usmE g hg rfl]
          · rw [r5 w, q5 w, y5 w hw, d3 (fun i => if W 103 i = (w : Int) then W 107 i else 0) _ (fun i hi y => by rw [k103 i hi, k107 i hi y])]
        · rw [r3 g z, q3 g z, r7 g z, q7 g z, r8 (191 + g) (by omega) (by omega) (by omega) (by omega) (by omega), q8 (191 + g) (by omega) (by omega) (by omega) (by omega) (by omega), r8 (206 + g) (by omega) (by omega) (by omega) (by omega) (by omega), q8 (206 + g) (by omega) (by omega) (by omega) (by omega) (by omega)]
          rw [usmN g z] at y3
          exact ⟨y1, y2, y3, y4, y5⟩
      · exact absurd hb0 (by decide)
      · rw [r1 i, q1 i, s4 i hi]
        by_cases z : i < nd ∧ W 104 i = f ∧ W 106 i = D
        · rw [if_pos z, if_pos ((cond i hi).mpr z), k109 i hi z.2.2]
        · rw [if_neg z, if_neg (fun y => z ((cond i hi).mp y))]
  · have ho' : ¬ opn (W' 82) D = true := by rw [opW]; exact ho
    obtain ⟨r1, r2, r3, r4⟩ := gGo_N (bk := bk) (D := D) f4 hw ho
    obtain ⟨q1, q2, q3, q4⟩ := gGo_N (bk := bk) (D := D) f4 hw' ho'
    have sz : sdl K f D (K 107) nd = 0 := sdl_z nd (fun i hi _ q => (k4 i hi).2.2 (by
      have h0 := (k4 i hi).2.1
      have : (K 106 i).toNat = D := by omega
      rw [this, ← e 82 (by decide)]; exact ho))
    refine ⟨fun q hq => ⟨by rw [r4 q (by omega) (by omega)]; exact (s1 q hq).1, by rw [q4 q (by omega) (by omega)]; exact (s1 q hq).2⟩, fun g hg => ?_, fun hb0 g d hg hd hop => ?_, fun i hi => ?_⟩
    · obtain ⟨y1, y2, y3, y4, y5⟩ := s2 g hg
      rw [r4 210 (by decide) (by omega), q4 210 (by decide) (by omega), r4 (206 + g) (by omega) (by omega), q4 (206 + g) (by omega) (by omega)]
      by_cases z : g = f
      · subst z
        refine ⟨by rw [r1, q1]; exact ec, y2, ?_, fun p hp => by rw [r3 p hp, q3 p hp]; exact ep p hp, y5⟩
        rw [if_pos (by omega), usm_D, sz, Int.add_zero]; exact w210
      · rw [r2 g z, q2 g z, r4 (191 + g) (by omega) (by omega), q4 (191 + g) (by omega) (by omega)]
        rw [usmN g z] at y3
        exact ⟨y1, y2, y3, y4, y5⟩
    · have dD : d < D := by
        by_cases q : d < D
        · exact q
        · have : d = D := by omega
          rw [this, ← e 82 (by decide)] at hop; exact absurd hop ho
      rw [r4 (196 + g) (by omega) (by omega), q4 (196 + g) (by omega) (by omega), r4 (201 + g) (by omega) (by omega), q4 (201 + g) (by omega) (by omega)]
      exact s3 hb0 g d hg (Or.inl dD) hop
    · rw [r4 189 (by decide) (by omega), q4 189 (by decide) (by omega)]; exact s4 i hi
theorem cg_day {K K' : bz_Mm} {bk : Int} {nf nt nd nd' nl nl' N : Nat} (hbk : bk = 0 ∨ bk = 1) (hC : CG K K' nt nd nd' N) (hK : CH K nf nt nd nl) (h104 : ∀ i, i < nd → 0 ≤ K 104 i ∧ K 104 i < nf) (hK' : WOK nl' nt nd' K') (hnd' : nd' ≤ 200) (hu' : ∀ i, i < nd' → -10000 ≤ K' 107 i ∧ K' 107 i ≤ 10000) (hN : N ≤ 260) : ∀ (m D : Nat) (W W' : bz_Mm), D + m ≤ N → WW K K' bk nf nd D 0 W W' → WW K K' bk nf nd (D + m) 0 (itr (fun X d => itr (gGo d nt nd bk 0) 0 nf X) D m W) (itr (fun X d => itr (gGo d nt nd' bk 0) 0 nf X) D m W') := by
  intro m
  induction m with
  | zero => intro D W W' _ h; exact h
  | succ m ih =>
    intro D W W' hm h
    rw [itr_S, itr_S, show D + (m + 1) = (D + 1) + m by omega]
    refine ih (D + 1) _ _ (by omega) ?_
    have fl : ∀ (j f : Nat) (A B : bz_Mm), f + j = nf → WW K K' bk nf nd D f A B → WW K K' bk nf nd D nf (itr (gGo D nt nd bk 0) f j A) (itr (gGo D nt nd' bk 0) f j B) := by
      intro j
      induction j with
      | zero => intro f A B x1 x2; have e : f = nf := by omega
                subst e; exact x2
      | succ j ihj =>
        intro f A B x1 x2
        rw [itr_S, itr_S]
        exact ihj (f + 1) _ _ (by omega) (cg_step hbk hC hK hK' hnd' hu' hN (by omega) (by omega) x2)
    obtain ⟨s1, s2, s3, s4⟩ := fl nf 0 W W' (by omega) h
    have hnf := hK.2.2.1
    refine ⟨s1, fun g hg => ?_, fun hb0 g d hg hd hop => ?_, s4⟩
    · obtain ⟨y1, y2, y3, y4, y5⟩ := s2 g hg
      refine ⟨y1, y2, ?_, y4, y5⟩
      rw [y3, if_neg (c := g < 0) (by omega)]
      by_cases z : g < nf
      · rw [if_pos z]
      · rw [if_neg z, usm_D, sdl_z nd (fun i hi q _ => by have := h104 i hi; omega), Int.add_zero]
    · exact s3 hb0 g d hg (by omega) hop
/-- the beginning is alike -/
theorem cg_beg {K K' : bz_Mm} {bk : Int} {nf nt nd nd' N : Nat} (hC : CG K K' nt nd nd' N) (h6 : ∀ i, i < nd → 0 ≤ K 106 i) : WW K K' bk nf nd 0 0 (sBeg nd K) (sBeg nd' K') := by
  obtain ⟨g1, gk, g2, g3, g4, g4b, g5, g6, g7, g8⟩ := hC
  obtain ⟨a1, a2, a3⟩ := sBeg_cl (nd := nd) (K := K)
  obtain ⟨b1, b2, b3⟩ := sBeg_cl (nd := nd') (K := K')
  have u0 : ∀ g, ∀ m, m ≤ nd → usm K g 0 m = 0 := fun g m => by
    induction m with
    | zero => intro _; rfl
    | succ m ih => intro hm; have := h6 m (by omega); rw [usm_S, ih (by omega), if_neg (by omega)]; omega
  refine ⟨fun q hq => ⟨a3 q (by omega), b3 q (by omega)⟩, fun g hg => ?_, fun _ g d hg hd _ => by omega, fun i hi => by rw [a2 i hi, b2 i (by omega)]⟩
  obtain ⟨x1, x2, x3, x4⟩ := a1 g hg
  obtain ⟨y1, y2, y3, y4⟩ := b1 g hg
  refine ⟨by rw [x1, y1, g1 93 (by omega)], by rw [x2, y2], ?_, fun p hp => by rw [x3 p hp, y3 p hp], fun w hw => by rw [x4 w hw, y4 w hw]⟩
  rw [x2, if_neg (by omega), u0 g nd (Nat.le_refl nd)]
/-- two walks of N days, alike -/
theorem cg_walk {K K' : bz_Mm} {bk : Int} {nf nt nd nd' nl nl' N m : Nat} (hbk : bk = 0 ∨ bk = 1) (hC : CG K K' nt nd nd' N) (hK : CH K nf nt nd nl) (h104 : ∀ i, i < nd → 0 ≤ K 104 i ∧ K 104 i < nf) (hK' : WOK nl' nt nd' K') (hnd' : nd' ≤ 200) (hu' : ∀ i, i < nd' → -10000 ≤ K' 107 i ∧ K' 107 i ≤ 10000) (hN : N ≤ 260) (hm : m ≤ N) : WW K K' bk nf nd m 0 (itr (fun X d => itr (gGo d nt nd bk 0) 0 nf X) 0 m (sBeg nd K)) (itr (fun X d => itr (gGo d nt nd' bk 0) 0 nf X) 0 m (sBeg nd' K')) := by
  have := cg_day hbk hC hK h104 hK' hnd' hu' hN m 0 (sBeg nd K) (sBeg nd' K') (by omega) (cg_beg hC (fun i hi => (hK.2.2.2.1 i hi).2.1))
  rw [Nat.zero_add] at this
  exact this
