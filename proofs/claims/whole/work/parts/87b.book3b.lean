/-! as BOOKED once booked: the same day again -/
def NB (K' : bz_Mm) (nd : Nat) (W A : bz_Mm) : Prop := (∀ q, q < 188 ∨ (210 < q ∧ q ≠ 222) → A q = K' q) ∧ (∀ g, g < 4 → A 188 g = W 188 g ∧ A 210 g = W 210 g ∧ (∀ p, p < 8 → A (191 + g) p = W (191 + g) p) ∧ ∀ w, w < 20 → A (206 + g) w = W (206 + g) w) ∧ ∀ i, i < nd → A 189 i = W 189 i
def KK (K K' : bz_Mm) (nt nd nl D : Nat) : Prop := (∀ q, (q = 92 ∨ (97 ≤ q ∧ q ≤ 102)) → K' q = K q) ∧ (∀ q, 158 ≤ q → q < 188 → (q ≠ 166 ∧ q ≠ 170 ∧ q ≠ 179) → K' q D = K q D) ∧ (K' 81 61 = K 81 61 ∨ ∀ t, t < nt → K 102 t ≤ K 81 61 ∧ K 102 t ≤ K' 81 61) ∧ (∀ i, i < nd → K' 103 i = K 103 i ∧ K' 104 i = K 104 i ∧ K' 105 i = K 105 i ∧ K' 106 i = K 106 i) ∧ opn (K' 82) D = opn (K 82) D ∧ WOK nl nt nd K'
theorem nb_c2 {K K' V A : bz_Mm} {f D nt nd nl : Nat} (f4 : f < 4) (kV : ∀ q, q < 188 → q ≠ 107 → V q = K q) (hk : KK K K' nt nd nl D) (h : NB K' nd V A) : c2X f D nt nd A = c2X f D nt nd V ∧ ∀ p, p < 8 → p2X f D nt A p = p2X f D nt V p := by
  obtain ⟨g1, gk, g2, g4, g6, gw⟩ := hk
  obtain ⟨s1, s2, s4⟩ := h
  obtain ⟨c1, c2, c4, c5⟩ := s2 f f4
  have e' : ∀ q, q < 188 → A q = K' q := fun q hq => s1 q (by omega)
  have hh : ∀ q, 97 ≤ q → q ≤ 102 → A q = V q := fun q a b => by rw [e' q (by omega), kV q (by omega) (by omega)]; exact g1 q (by omega)
  have w61 : A 81 61 = V 81 61 ∨ ∀ t, t < nt → V 102 t ≤ V 81 61 ∧ V 102 t ≤ A 81 61 := by rw [e' 81 (by decide), kV 81 (by decide) (by decide), kV 102 (by decide) (by decide)]; exact g2
  have w92 : A 92 = V 92 := by rw [e' 92 (by decide), kV 92 (by decide) (by decide)]; exact g1 92 (by omega)
  have kn : ∀ q, 158 ≤ q → q < 188 → (q ≠ 166 ∧ q ≠ 170 ∧ q ≠ 179) → A q D = V q D := fun q a b c => by rw [e' q b, kV q b (by omega)]; exact gk q a b c
  refine ⟨?_, fun p hp => ?_⟩
  · unfold c2X
    rw [c1, feS_e (W := V) (W' := A) (Nat.le_refl nd) (fun i hi => ?_) (fun i a b => by omega)]
    · congr 2
      unfold dcx
      rw [(pcT_kk hh w61 f D 0 0).2]
      congr 1
      refine sumr_c 8 0 0 (fun j _ y => ?_)
      have cu := gw.1 j (by omega)
      rw [← e' 92 (by decide), w92] at cu
      unfold tDv
      dsimp only
      rw [c4 j (by omega), w92, kn (180 + j) (by omega) (by omega) (by omega), kn (171 + j) (by omega) (by omega) (by omega), kn (167 + (V 92 j).toNat) (by omega) (by omega) (by omega)]
    · obtain ⟨z1, z2, z3, z4⟩ := g4 i hi
      rw [e' 103 (by decide), e' 105 (by decide), e' 106 (by decide), kV 103 (by decide) (by decide), kV 105 (by decide) (by decide), kV 106 (by decide) (by decide)]
      exact ⟨z1, z3, z4, s4 i hi⟩
  · unfold p2X
    rw [c4 p hp, kn (180 + p) (by omega) (by omega) (by omega)]
    exact (pcT_kk hh w61 f D p _).1
theorem nb_open {K K' V W A : bz_Mm} {f D nt nd nl nl' : Nat} (f4 : f < 4) (hD : D < 260) (nd2 : nd ≤ 200) (hwV : WOK nl nt nd V) (hu : ∀ i, i < nd → -10000 ≤ V 107 i ∧ V 107 i ≤ 10000) (hal : 0 ≤ V 210 f ∧ V 210 f ≤ 2000000) (ho : opn (V 82) D = true) (vo : ∀ q, q ≠ 107 → V q = W q) (kV : ∀ q, q < 188 → q ≠ 107 → V q = K q) (hk : KK K K' nt nd nl' D) (hx : (∀ i, i < nd → K 104 i = f → K 106 i = D → K' 107 i = gGo D nt nd 0 0 V f 107 i ∧ K' 109 i = gGo D nt nd 0 0 V f 189 i) ∧ K' (217 + f) D = gGo D nt nd 0 0 V f (201 + f) D) (h : NB K' nd W A) : NB K' nd (gGo D nt nd 0 0 V f) (gGo D nt nd 1 0 A f) := by
  have h' : NB K' nd V A := by
    obtain ⟨s1, s2, s4⟩ := h
    refine ⟨s1, fun g hg => ?_, fun i hi => by rw [vo 189 (by decide)]; exact s4 i hi⟩
    rw [vo 188 (by decide), vo 210 (by decide), vo (191 + g) (by omega), vo (206 + g) (by omega)]
    exact s2 g hg
  obtain ⟨ec, ep⟩ := nb_c2 (f := f) (D := D) f4 kV hk h'
  obtain ⟨s1, s2, s4⟩ := h'
  obtain ⟨g1, gk, g2, g4, g6, gw⟩ := hk
  have e' : ∀ q, q < 188 → A q = K' q := fun q hq => s1 q (by omega)
  have ho' : opn (A 82) D = true := by rw [e' 82 (by decide), g6, ← kV 82 (by decide) (by decide)]; exact ho
  obtain ⟨r1, r2, r3, r4, r5, r6, r7, r8, r9, r10⟩ := gGo_R (f := f) (D := D) (nt := nt) (nd := nd) (W := V) f4 hD nd2 hwV hu hal ho
  obtain ⟨q1, q2, q3, q4, q5, q6, q7, q8⟩ := gGo_B (f := f) (D := D) (nt := nt) (nd := nd) (W := A) f4 (gw.c e') ho'
  obtain ⟨x1, x2⟩ := hx
  rw [r6, ud_eq] at x2
  have k7 : ∀ i, i < nd → V 104 i = f → V 106 i = D → A 107 i = V 107 i ∧ A 109 i = coX (V 107 i) (prX2 f D nt nd V) := fun i hi a b => by
    have a' := a
    have b' := b
    rw [kV 104 (by decide) (by decide)] at a'
    rw [kV 106 (by decide) (by decide)] at b'
    obtain ⟨y1, y2⟩ := x1 i hi a' b'
    rw [r10 107 (by decide) (by decide) (by omega) (by omega) (by omega) (by omega) (by decide) (by decide)] at y1
    rw [r1 i, if_pos ⟨hi, a, b⟩] at y2
    rw [e' 107 (by decide), e' 109 (by decide)]
    exact ⟨y1, y2⟩
  have rows : ∀ i, i < nd → A 103 i = V 103 i ∧ A 104 i = V 104 i ∧ A 106 i = V 106 i := fun i hi => by
    obtain ⟨z1, z2, z3, z4⟩ := g4 i hi
    rw [e' 103 (by decide), e' 104 (by decide), e' 106 (by decide), kV 103 (by decide) (by decide), kV 104 (by decide) (by decide), kV 106 (by decide) (by decide)]
    exact ⟨z1, z2, z4⟩
  have d3 : ∀ t t' : Nat → Int, (∀ i, i < nd → V 104 i = f → V 106 i = D → t' i = t i) → sdl A f D t' nd = sdl V f D t nd := fun t t' ht => sdl_e (Nat.le_refl nd) (fun i hi => ⟨(rows i hi).2.1, (rows i hi).2.2, ht i hi⟩) (fun i a b => by omega)
  refine ⟨fun q hq => by rw [q8 q (by omega) (by omega) (by omega) (by omega) (by omega)]; exact s1 q hq, fun g hg => ?_, fun i hi => ?_⟩
  · obtain ⟨y1, y2, y4, y5⟩ := s2 g hg
    by_cases z : g = f
    · subst z
      refine ⟨?_, ?_, fun p hp => by rw [r4 p hp, q4 p hp]; exact ep p hp, fun w hw => ?_⟩
      · rw [r2, q2, ec, s1 (217 + g) (by omega), x2, d3 (fun i => sgX (V 107 i) (coX (V 107 i) (prX2 g D nt nd V))) _ (fun i hi a b => by rw [(k7 i hi a b).1, (k7 i hi a b).2])]
      · rw [r8, q6, y2, d3 (V 107) (A 107) (fun i hi a b => (k7 i hi a b).1)]
      · rw [r7 w, q5 w, y5 w hw, d3 (fun i => if V 103 i = (w : Int) then V 107 i else 0) _ (fun i hi a b => by rw [(rows i hi).1, (k7 i hi a b).1])]
    · rw [r3 g z, q3 g z, r9 g z, q7 g z, r10 (191 + g) (by omega) (by omega) (by omega) (by omega) (by omega) (by omega) (by omega) (by omega), q8 (191 + g) (by omega) (by omega) (by omega) (by omega) (by omega), r10 (206 + g) (by omega) (by omega) (by omega) (by omega) (by omega) (by omega) (by omega) (by omega), q8 (206 + g) (by omega) (by omega) (by omega) (by omega) (by omega)]
      exact ⟨y1, y2, y4, y5⟩
  · rw [r1 i, q1 i, s4 i hi, (rows i hi).2.1, (rows i hi).2.2]
    by_cases z : i < nd ∧ V 104 i = f ∧ V 106 i = D
    · rw [if_pos z, if_pos z, (k7 i hi z.2.1 z.2.2).2]
    · rw [if_neg z, if_neg z]
theorem nb_closed {K K' W A : bz_Mm} {f D nt nd nl nl' : Nat} (f4 : f < 4) (hwW : WOK nl nt nd W) (ho : ¬ opn (W 82) D = true) (kW : ∀ q, q < 188 → q ≠ 107 → W q = K q) (hk : KK K K' nt nd nl' D) (h : NB K' nd W A) : NB K' nd (gGo D nt nd 0 0 W f) (gGo D nt nd 1 0 A f) := by
  obtain ⟨ec, ep⟩ := nb_c2 (f := f) (D := D) f4 kW hk h
  obtain ⟨s1, s2, s4⟩ := h
  obtain ⟨g1, gk, g2, g4, g6, gw⟩ := hk
  have e' : ∀ q, q < 188 → A q = K' q := fun q hq => s1 q (by omega)
  have ho' : ¬ opn (A 82) D = true := by rw [e' 82 (by decide), g6, ← kW 82 (by decide) (by decide)]; exact ho
  obtain ⟨r1, r2, r3, r4⟩ := gGo_N (bk := 0) (D := D) f4 hwW ho
  obtain ⟨q1, q2, q3, q4⟩ := gGo_N (bk := 1) (D := D) f4 (gw.c e') ho'
  refine ⟨fun q hq => by rw [q4 q (by omega) (by omega)]; exact s1 q hq, fun g hg => ?_, fun i hi => by rw [r4 189 (by decide) (by omega), q4 189 (by decide) (by omega)]; exact s4 i hi⟩
  obtain ⟨y1, y2, y4, y5⟩ := s2 g hg
  rw [r4 210 (by decide) (by omega), q4 210 (by decide) (by omega), r4 (206 + g) (by omega) (by omega), q4 (206 + g) (by omega) (by omega)]
  by_cases z : g = f
  · subst z
    exact ⟨by rw [r1, q1]; exact ec, y2, fun p hp => by rw [r3 p hp, q3 p hp]; exact ep p hp, y5⟩
  · rw [r2 g z, q2 g z, r4 (191 + g) (by omega) (by omega), q4 (191 + g) (by omega) (by omega)]
    exact ⟨y1, y2, y4, y5⟩
/-! what other funds' bookings leave alone -/
theorem gGo_keep {f D nt nd : Nat} {bk new : Int} {W : bz_Mm} : (∀ i, ¬ (W 104 i = f ∧ W 106 i = D) → gGo D nt nd bk new W f 189 i = W 189 i ∧ gGo D nt nd bk new W f 107 i = W 107 i) ∧ ∀ g, g < 4 → g ≠ f → f < 4 → gGo D nt nd bk new W f (201 + g) = W (201 + g) ∧ gGo D nt nd bk new W f (196 + g) = W (196 + g) := by
  -- ahead of the deals
  have a : ∀ q, q ≠ 188 → q ≠ 191 + f → itr (gFe f D) 0 nd (sPap f D nt W) q = W q := fun q h1 h2 => by
    rw [itr_o (fun M i => gFe_o h1 M i)]
    unfold sPap
    rw [itr_o (fun M i => by unfold gPt; repeat' split
                             all_goals first | rfl | rw [st_ne h1, st_ne h2]), itr_o (fun M i => by unfold gPd; exact st_ne h1), itr_o (fun M i => by unfold gPs; exact st_ne h2)]
  generalize hY : itr (gFe f D) 0 nd (sPap f D nt W) = Y at a
  have b : ∀ q, q ≠ 188 → q ≠ 191 + f → q ≠ 201 + f → q ≠ 196 + f → q ≠ 222 → sMo f D nd bk new Y q = W q := fun q h1 h2 h3 h4 h5 => by
    unfold sMo
    split
    · unfold sPr
      rw [st_ne h4]
      unfold sFl
      rw [gFl_o h5]
      show itr (gFc f) 0 20 (sPm f D Y) q = _
      rw [itr_o (fun M i => by unfold gFc; exact st_ne h5)]
      unfold sPm
      rw [st_ne h3, st_ne h1]
      exact a q h1 h2
    · rw [st_ne h1]; exact a q h1 h2
  have c : ∀ (m i : Nat) (X : bz_Mm), X 104 = W 104 → X 106 = W 106 → (∀ j, ¬ (W 104 j = f ∧ W 106 j = D) → X 189 j = W 189 j ∧ X 107 j = W 107 j) → ∀ j, ¬ (W 104 j = f ∧ W 106 j = D) → itr (gDe f D bk new) i m X 189 j = W 189 j ∧ itr (gDe f D bk new) i m X 107 j = W 107 j := by
    intro m
    induction m with
    | zero => intro i X _ _ h; exact h
    | succ m ih =>
      intro i X h1 h2 h3
      rw [itr_S]
      refine ih (i + 1) _ (by rw [gDe_o (by decide) (by decide)]; exact h1) (by rw [gDe_o (by decide) (by decide)]; exact h2) (fun j hj => ?_)
      unfold gDe
      by_cases d1 : X 104 i = (f : Int)
      · by_cases d2 : X 106 i = (D : Int)
        · rw [if_pos d1, if_pos d2]
          have ne : j ≠ i := fun e => by
            subst e
            rw [h1] at d1; rw [h2] at d2; exact hj ⟨d1, d2⟩
          unfold sDe2 sDe1
          have n1 : ∀ q, (189 : Nat) ≠ 206 + q := fun q => by omega
          have n2 : ∀ q, (107 : Nat) ≠ 206 + q := fun q => by omega
          split
          · rw [st_ne (by decide), st_ne (n1 f), st_ne (by decide), st_eq, ud_ne ne, st_ne (by decide), st_ne (n2 f), st_ne (by decide), st_ne (by decide)]; exact h3 j hj
          · rw [st_ne (show (189 : Nat) ≠ 107 by decide), st_ne (show (189 : Nat) ≠ 210 by decide), st_ne (n1 f), st_ne (show (189 : Nat) ≠ 188 by decide), st_eq, ud_ne ne, st_eq, ud_ne ne, st_ne (show (107 : Nat) ≠ 210 by decide), st_ne (n2 f), st_ne (show (107 : Nat) ≠ 188 by decide), st_ne (show (107 : Nat) ≠ 189 by decide)]; exact h3 j hj
        · rw [if_pos d1, if_neg d2]; exact h3 j hj
      · rw [if_neg d1]; exact h3 j hj
  unfold gGo
  rw [hY]
  refine ⟨fun i hi => ?_, fun g hg hn hf => ?_⟩
  · split
    · exact c nd 0 _ (b 104 (by decide) (by omega) (by omega) (by omega) (by decide)) (b 106 (by decide) (by omega) (by omega) (by omega) (by decide)) (fun j _ => by rw [b 189 (by decide) (by omega) (by omega) (by omega) (by decide), b 107 (by decide) (by omega) (by omega) (by omega) (by decide)]; exact ⟨rfl, rfl⟩) i hi
    · rw [a 189 (by decide) (by omega), a 107 (by decide) (by omega)]; exact ⟨rfl, rfl⟩
  · have o : ∀ q, (q = 201 + g ∨ q = 196 + g) → ∀ X i, gDe f D bk new X i q = X q := fun q hq X i => by
      unfold gDe sDe2 sDe1
      repeat' split
      all_goals first | rfl | rw [st_ne (by omega), st_ne (by omega), st_ne (by omega), st_ne (by omega), st_ne (by omega)] | rw [st_ne (by omega), st_ne (by omega), st_ne (by omega), st_ne (by omega)]
    split
    · rw [itr_o (o _ (Or.inl rfl)), itr_o (o _ (Or.inr rfl)), b (201 + g) (by omega) (by omega) (by omega) (by omega) (by omega), b (196 + g) (by omega) (by omega) (by omega) (by omega) (by omega)]; exact ⟨rfl, rfl⟩
    · rw [a (201 + g) (by omega) (by omega), a (196 + g) (by omega) (by omega)]; exact ⟨rfl, rfl⟩
theorem keep_itr {D nt nd : Nat} {bk new : Int} : ∀ (m f : Nat) (W : bz_Mm), f + m ≤ 4 → (∀ i, W 104 i < f → itr (gGo D nt nd bk new) f m W 189 i = W 189 i ∧ itr (gGo D nt nd bk new) f m W 107 i = W 107 i) ∧ ∀ g, g < f → itr (gGo D nt nd bk new) f m W (201 + g) = W (201 + g) ∧ itr (gGo D nt nd bk new) f m W (196 + g) = W (196 + g) := by
  intro m
  induction m with
  | zero => intro f W _; exact ⟨fun _ _ => ⟨rfl, rfl⟩, fun _ _ => ⟨rfl, rfl⟩⟩
  | succ m ih =>
    intro f W h
    obtain ⟨a, b⟩ := gGo_keep (f := f) (D := D) (nt := nt) (nd := nd) (bk := bk) (new := new) (W := W)
    obtain ⟨c, d⟩ := ih (f + 1) (gGo D nt nd bk new W f) (by omega)
    rw [itr_S]
    refine ⟨fun i hi => ?_, fun g hg => ?_⟩
    · obtain ⟨x1, x2⟩ := c i (by rw [gGo_o (by decide) (by decide)]; omega)
      obtain ⟨y1, y2⟩ := a i (fun q => by omega)
      rw [x1, x2, y1, y2]; exact ⟨rfl, rfl⟩
    · obtain ⟨x1, x2⟩ := d g (by omega)
      obtain ⟨y1, y2⟩ := b g (by omega) (by omega) (by omega)
      rw [x1, x2, y1, y2]; exact ⟨rfl, rfl⟩
