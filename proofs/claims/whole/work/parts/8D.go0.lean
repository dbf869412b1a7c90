/-! the walk as BOOKED holds what everybody has -/
theorem hw_step {K W : bz_Mm} {f D nt nd nl : Nat} (hf : f < 4) (hK : WOK nl nt nd K) (hz : ∀ i, i < nd → 0 ≤ K 106 i ∧ (¬ opn (K 82) (K 106 i).toNat = true → K 107 i = 0)) (h1 : ∀ q, q < 188 ∨ (210 < q ∧ q ≠ 222) → W q = K q) (h : ∀ w g, w < 20 → g < 4 → W (206 + g) w = hwm K w g (if g < f then D + 1 else D) nd) : (∀ q, q < 188 ∨ (210 < q ∧ q ≠ 222) → gGo D nt nd 1 0 W f q = K q) ∧ ∀ w g, w < 20 → g < 4 → gGo D nt nd 1 0 W f (206 + g) w = hwm K w g (if g < f + 1 then D + 1 else D) nd := by
  have e : ∀ q, q < 188 → W q = K q := fun q hq => h1 q (Or.inl hq)
  have hw := hK.c e
  have dN : ∀ g, g ≠ f → (if g < f + 1 then D + 1 else D) = (if g < f then D + 1 else D) := fun g hg => by
    by_cases z : g < f
    · rw [if_pos z, if_pos (by omega)]
    · rw [if_neg z, if_neg (by omega)]
  by_cases ho : opn (W 82) D = true
  · obtain ⟨r1, r2, r3, r4, r5, r6, r7, r8⟩ := gGo_B (f := f) (D := D) (nt := nt) (nd := nd) (W := W) hf hw ho
    refine ⟨fun q hq => by rw [r8 q (by omega) (by omega) (by omega) (by omega) (by omega)]; exact h1 q hq, fun w g hw hg => ?_⟩
    by_cases c : g = f
    · subst c
      have t := h w g hw hg
      rw [if_neg (by omega)] at t
      rw [r5 w, if_pos (by omega), hwm_D, t]
      congr 1
      exact sdl_c nd (fun i hi => ⟨⟨by rw [e 104 (by decide)], by rw [e 106 (by decide)]⟩, fun _ _ => by rw [e 103 (by decide), e 107 (by decide)]⟩)
    · rw [r8 (206 + g) (by omega) (by omega) (by omega) (by omega) (by omega), dN g c]; exact h w g hw hg
  · obtain ⟨r1, r2, r3, r4⟩ := gGo_N (bk := 1) (D := D) hf hw ho
    refine ⟨fun q hq => by rw [r4 q (by omega) (by omega)]; exact h1 q hq, fun w g hw hg => ?_⟩
    rw [r4 (206 + g) (by omega) (by omega), h w g hw hg]
    by_cases c : g = f
    · subst c
      rw [if_neg (by omega), if_pos (by omega), hwm_D, sdl_z nd (fun i hi _ q => ?_), Int.add_zero]
      have z := (hz i hi).2 (by
        have : (K 106 i).toNat = D := by omega
        rw [this, ← e 82 (by decide)]; exact ho)
      rw [z]; split <;> rfl
    · rw [dN g c]
theorem wlk_hw {K : bz_Mm} {nf nt nd nl : Nat} (hnf : nf ≤ 4) (hK : WOK nl nt nd K) (h104 : ∀ i, i < nd → K 104 i < nf) (hz : ∀ i, i < nd → 0 ≤ K 106 i ∧ (¬ opn (K 82) (K 106 i).toNat = true → K 107 i = 0)) : ∀ N : Nat, (∀ q, q < 188 ∨ (210 < q ∧ q ≠ 222) → wlk nf nt nd 1 N K q = K q) ∧ ∀ w g, w < 20 → g < 4 → wlk nf nt nd 1 N K (206 + g) w = hwm K w g N nd := by
  intro N
  induction N with
  | zero =>
    obtain ⟨a1, a2, a3⟩ := sBeg_cl (nd := nd) (K := K)
    refine ⟨fun q hq => a3 q (by omega), fun w g hw hg => ?_⟩
    show sBeg nd K (206 + g) w = _
    rw [(a1 g hg).2.2.2 w hw]
    have : ∀ m, m ≤ nd → hwm K w g 0 m = 0 := fun m => by
      induction m with
      | zero => intro _; rfl
      | succ m ih => intro hm; have := (hz m (by omega)).1; rw [hwm_S, ih (by omega), if_neg (by omega)]; omega
    rw [this nd (Nat.le_refl nd)]
  | succ N ih =>
    obtain ⟨a, b⟩ := ih
    have e : wlk nf nt nd 1 (N + 1) K = itr (gGo N nt nd 1 0) 0 nf (wlk nf nt nd 1 N K) := by
      unfold wlk
      rw [itr_cat, Nat.zero_add]
    rw [e]
    have lp : ∀ (m f : Nat) (W : bz_Mm), f + m = nf → (∀ q, q < 188 ∨ (210 < q ∧ q ≠ 222) → W q = K q) → (∀ w g, w < 20 → g < 4 → W (206 + g) w = hwm K w g (if g < f then N + 1 else N) nd) → (∀ q, q < 188 ∨ (210 < q ∧ q ≠ 222) → itr (gGo N nt nd 1 0) f m W q = K q) ∧ ∀ w g, w < 20 → g < 4 → itr (gGo N nt nd 1 0) f m W (206 + g) w = hwm K w g (if g < nf then N + 1 else N) nd := by
      intro m
      induction m with
      | zero => intro f W x1 x2 x3; have e : f = nf := by omega
                subst e; exact ⟨x2, x3⟩
      | succ m ihm =>
        intro f W x1 x2 x3
        rw [itr_S]
        obtain ⟨y1, y2⟩ := hw_step (f := f) (D := N) (by omega) hK hz x2 x3
        exact ihm (f + 1) _ (by omega) y1 y2
    obtain ⟨c, d⟩ := lp nf 0 _ (by omega) a (fun w g hw hg => by rw [if_neg (by omega)]; exact b w g hw hg)
    refine ⟨c, fun w g hw hg => ?_⟩
    rw [d w g hw hg]
    by_cases z : g < nf
    · rw [if_pos z]
    · rw [if_neg z, hwm_D, sdl_z nd (fun i hi q _ => by have := h104 i hi; omega), Int.add_zero]
/-! the beginning of bookings -/
theorem RT.cc {nl nt nd : Nat} {M M' : bz_Mm} (hI : RT nl nt nd M) (h : ∀ q, (44 < q ∧ q < 48) ∨ (80 < q ∧ q < 156) → M' q = M q) : RT nl nt nd M' := by
  obtain ⟨a1, a2, a3, a4, a5, a6, a7, a8, a9⟩ := hI
  refine ⟨by rw [h 81 (by decide)]; exact a1, by rw [h 81 (by decide)]; exact a2, by rw [h 81 (by decide)]; exact a3, by rw [h 81 (by decide)]; exact a4, ?_, ?_, ?_, iv_la.c (fun q hq => h q (by omega)) (by rw [h 81 (by decide)]) a8, ?_⟩
  · rw [h 97 (by decide), h 98 (by decide), h 99 (by decide), h 102 (by decide)]; exact a5
  · rw [h 103 (by decide), h 104 (by decide), h 105 (by decide), h 106 (by decide)]; exact a6
  · rw [h 92 (by decide)]; exact a7
  · rw [h 82 (by decide)]; exact a9
theorem TE.cc {n : Nat} {M M' : bz_Mm} (hI : TE n M) (h : ∀ q, (80 < q ∧ q < 156) → M' q = M q) : TE n M' := by
  obtain ⟨a1, a2, a3⟩ := hI
  refine ⟨by rw [h 81 (by decide)]; exact a1, by rw [h 81 (by decide)]; exact a2, ?_⟩
  rw [h 83 (by decide), h 84 (by decide), h 85 (by decide), h 87 (by decide)]; exact a3
theorem it_bx {M R : bz_Mm} {n nf nt nd nl now : Nat} (hI : IT M n nf nt nd nl now) (hC : CW M (now : Int) n nf nt nd now) (hn : now < 260) (hR : ∀ q, (44 < q ∧ q < 48) ∨ 80 < q → R q = M q) : BX n nf nt nd nl now M R := by
  have hrt := hI.rt
  have hI0 := hI
  obtain ⟨i1, i2, ⟨i3, i3b⟩, ⟨i4, i4b⟩, ⟨i5, i5b, i5c⟩, i6, i7, i8, i9, i10, i11, i12, i13, i14⟩ := hI
  have eR : ∀ q, 80 < q → R q = M q := fun q hq => hR q (Or.inr hq)
  have hwR : ∀ w g D', hwm R w g D' nd = hwm M w g D' nd := fun w g D' => hwm_e nd (fun i hi => by rw [eR 103 (by decide), eR 104 (by decide), eR 106 (by decide), eR 107 (by decide)]; exact ⟨rfl, rfl, rfl, fun _ _ => rfl⟩)
  refine ⟨⟨by rw [eR 81 (by decide)]; exact i1.2.1, by rw [eR 81 (by decide)]; exact i2.2.1, hrt.cc (fun q hq => hR q (by omega)), i3b.cc (fun q hq => eR q (by omega))⟩, ?_, ?_, ?_, ?_, ?_, ?_, fun K hK => ?_⟩
  · rw [eR 87 (by decide), eR 102 (by decide), eR 86 (by decide)]; exact i13
  · rw [eR 106 (by decide), eR 107 (by decide)]; exact fun i hi => (i9 i hi).2.2.2.1
  · rw [eR 106 (by decide), eR 108 (by decide), eR 82 (by decide)]; exact fun i hi => (i9 i hi).2.2.2.2
  · refine ⟨fun w g D' hw hg => by rw [hwR]; exact i10.1 w g D' hw hg, fun i hi => ?_⟩
    have : hbi R nd i = hbi M nd i := by
      unfold hbi
      have e : ∀ (g D : Nat) (t : Nat → Int), sdl R g D t i = sdl M g D t i := fun g D t => sdl_c i (fun j _ => ⟨⟨by rw [eR 104 (by decide)], by rw [eR 106 (by decide)]⟩, fun _ _ => rfl⟩)
      rw [hwR, e, eR 103 (by decide), eR 104 (by decide), eR 106 (by decide), eR 107 (by decide)]
    rw [this, eR 107 (by decide)]; exact i10.2 i hi
  · intro g d hg hd hop
    rw [eR 82 (by decide)] at hop
    rw [eR (212 + g) (by omega)]; exact ⟨(i11 g d hg hd hop).1.1, (i11 g d hg hd hop).1.2.1, (i11 g d hg hd hop).1.2.2, (i11 g d hg hd hop).2.2⟩
  · rw [eR 105 (by decide)]; exact i5c
  · have hK' : KW M K (now : Int) n := hK.cc (fun q hq => hR q (by omega)) (by rw [eR 81 (by decide)]) (fun q t u v _ => by rw [eR q (by omega)])
    have hS := hI0.stc (k := (now : Int)) ⟨by omega, by omega⟩ hK'
    refine ⟨hS, ?_⟩
    have hday := hS.day
    have hwK := hS.wok (W := K) (fun _ _ => rfl)
    obtain ⟨⟨s1, s2, s3, s4, s5, s6, s7, s8, s9, s10, s11⟩, hP, hT, hG, hKn, hj⟩ := hC K hK'
    have eK : ∀ q, (q = 82 ∨ 87 < q) → q < 158 → K q = M q := fun q a b => hK'.2.1 q (by omega)
    obtain ⟨_, _, hDA, _, _, _, _, _, _, hz, _, _⟩ := hS
    have f104 : ∀ i, i < nd → 0 ≤ K 104 i ∧ K 104 i < nf := fun i hi => (hDA.2.2 i hi).2.2.1
    obtain ⟨h1, h2⟩ := wlk_hw (nf := nf) (nt := nt) i2.2.2 hwK (fun i hi => (f104 i hi).2) (fun i hi => ⟨(hday i hi).1, (hz i hi).1⟩) now
    have us : ∀ g, usm K g now nd = usm M g now nd := fun g => usm_e nd (fun i hi => by rw [eK 104 (by decide) (by decide), eK 106 (by decide) (by decide), eK 107 (by decide) (by decide)]; exact ⟨rfl, rfl, fun _ _ => rfl⟩)
    have hs : ∀ w g D', hwm K w g D' nd = hwm M w g D' nd := fun w g D' => hwm_e nd (fun i hi => by rw [eK 103 (by decide) (by decide), eK 104 (by decide) (by decide), eK 106 (by decide) (by decide), eK 107 (by decide) (by decide)]; exact ⟨rfl, rfl, rfl, fun _ _ => rfl⟩)
    refine ⟨h1, fun g hg => ?_, fun g p hg hp => ?_, fun g hg => ?_, fun w g hw hg => ?_, fun x y hx hy => (s8 x y hx hy).2.1, fun i hi => ?_, hP, hT, hG, hKn⟩
    · have := ((s5 g hg).2 (by omega)).2
      rw [feF_0 nd (fun i hi => by rw [(s4 104 (by omega)).2]; exact (f104 i hi).1)] at this
      dsimp only at this
      omega
    · exact (((s6 g p hg hp).2 (by omega)).2).symm
    · obtain ⟨y1, y2, y3⟩ := s7 g hg
      rw [if_neg (by omega)] at y3
      refine ⟨y2, ?_, ?_⟩
      · rw [← y2, y3, us]; exact i14.2 g hg
      · rw [← y2, y3]
    · rw [h2 w g hw hg, hs]
      exact ⟨i14.1 w g hw hg, i10.1 w g now hw hg, rfl⟩
    · have e9 : K 109 i = M 109 i := by rw [eK 109 (by decide) (by decide)]
      rw [e9]
      refine ⟨?_, (i9 i hi).2.2.1⟩
      by_cases c : dnx K now 0 i
      · rw [((s10 i hi).1 c).2.1, e9]
      · rw [((s10 i hi).2 c).2.1]
        have z : M 107 i = 0 := by
          by_cases o : opn (M 82) (M 106 i).toNat = true
          · refine (i9 i hi).2.2.2.1 ?_
            have : ¬ M 106 i < (now : Int) := fun q => c ⟨by rw [eK 82 (by decide) (by decide), eK 106 (by decide) (by decide)]; exact o, Or.inl (by rw [eK 106 (by decide) (by decide)]; exact q)⟩
            omega
          · exact (i9 i hi).1 o
        exact ((i9 i hi).2.1 z).symm
