/-! what asking leaves alone -/
def FR (n : Nat) (M y : bz_Mm) : Prop := (∀ q, (q < 42 ∨ (42 < q ∧ q < 53) ∨ (77 < q ∧ q < 81) ∨ q = 82 ∨ (87 < q ∧ q < 158) ∨ (210 < q ∧ q < 221) ∨ (226 < q ∧ q < 230) ∨ 234 < q) → y q = M q) ∧ (∀ q t, 83 ≤ q → q ≤ 87 → t < n → y q t = M q t) ∧ (∀ j, (j < 61 ∨ (61 < j ∧ j < 70)) → y 81 j = M 81 j) ∧ r32 (y 81 61) ∧ ∀ j, (j < 11 ∨ 18 < j) → y 53 j = M 53 j
theorem FR.t {n : Nat} {M X Y : bz_Mm} (h1 : FR n M X) (h2 : FR n X Y) : FR n M Y := by
  obtain ⟨a1, a2, a3, a4, a5⟩ := h1
  obtain ⟨b1, b2, b3, b4, b5⟩ := h2
  exact ⟨fun q hq => by rw [b1 q hq]; exact a1 q hq, fun q t u v w => by rw [b2 q t u v w]; exact a2 q t u v w, fun j hj => by rw [b3 j hj]; exact a3 j hj, b4, fun j hj => by rw [b5 j hj]; exact a5 j hj⟩
theorem iv_la.fr {M M' : bz_Mm} {n : Nat} (hI : iv_la M n) (h : ∀ q, (44 < q ∧ q < 48) ∨ (87 < q ∧ q < 158) → M' q = M q) (h43 : M' 81 43 = M 81 43) : iv_la M' n := iv_la.c (fun q hq => h q (by omega)) h43 hI
theorem IT.fr {M y : bz_Mm} {n nf nt nd nl now : Nat} (hI : IT M n nf nt nd nl now) (h : FR n M y) : IT y n nf nt nd nl now := by
  obtain ⟨fe, ft, f81, f61, _⟩ := h
  have us : ∀ g D', usm y g D' nd = usm M g D' nd := fun g D' => usm_e nd (fun i hi => by rw [fe 104 (by decide), fe 106 (by decide), fe 107 (by decide)]; exact ⟨rfl, rfl, fun _ _ => rfl⟩)
  have hs : ∀ w g D', hwm y w g D' nd = hwm M w g D' nd := fun w g D' => hwm_e nd (fun i hi => by rw [fe 103 (by decide), fe 104 (by decide), fe 106 (by decide), fe 107 (by decide)]; exact ⟨rfl, rfl, rfl, fun _ _ => rfl⟩)
  obtain ⟨i1, i2, ⟨i3, i3b⟩, ⟨i4, i4b⟩, ⟨i5, i5b, i5c⟩, i6, i7, i8, i9, i10, i11, i12, i13, i14⟩ := hI
  refine ⟨by rw [fe 1 (by decide), f81 0 (by decide)]; exact i1, by rw [fe 1 (by decide), f81 19 (by decide)]; exact i2, ⟨i3.p (fun q u v => fe q (by omega)) ft, ?_⟩, ⟨?_, by rw [f81 27 (by decide)]; exact i4b⟩, ⟨?_, by rw [f81 35 (by decide)]; exact i5b, by rw [fe 39 (by decide), fe 105 (by decide)]; exact i5c⟩, by rw [fe 6 (by decide), fe 92 (by decide)]; exact i6, i7.fr (fun q hq => fe q (by omega)) (f81 43 (by decide)), by rw [fe 7 (by decide), fe 82 (by decide)]; exact i8, by rw [fe 82 (by decide), fe 106 (by decide), fe 107 (by decide), fe 108 (by decide), fe 109 (by decide)]; exact i9, ⟨fun w g D' hw hg => by rw [hs]; exact i10.1 w g D' hw hg, fun i hi => by
      have : hbi y nd i = hbi M nd i := by
        unfold hbi
        have e : ∀ (g D : Nat) (t : Nat → Int), sdl y g D t i = sdl M g D t i := fun g D t => sdl_c i (fun j _ => ⟨⟨by rw [fe 104 (by decide)], by rw [fe 106 (by decide)]⟩, fun _ _ => rfl⟩)
        rw [hs, e, fe 103 (by decide), fe 104 (by decide), fe 106 (by decide), fe 107 (by decide)]
      rw [this, fe 107 (by decide)]; exact i10.2 i hi⟩, fun g dd hg hd hop => ?_, by rw [fe 2 (by decide), fe 93 (by decide)]; exact i12, ⟨fun t ht => by rw [ft 87 t (by decide) (by decide) ht, ft 86 t (by decide) (by decide) ht]; exact i13.1 t ht, by rw [fe 102 (by decide)]; exact i13.2⟩, ⟨fun w g hw hg => by rw [fe 43 (by decide), hs]; exact i14.1 w g hw hg, fun g hg => by rw [fe 44 (by decide), us]; exact i14.2 g hg⟩⟩
  · obtain ⟨z1, z2, z3⟩ := i3b
    refine ⟨by rw [f81 12 (by decide)]; exact z1, f61, fun t ht => ?_⟩
    rw [ft 83 t (by decide) (by decide) ht, ft 84 t (by decide) (by decide) ht, ft 85 t (by decide) (by decide) ht, ft 87 t (by decide) (by decide) ht]
    exact z3 t ht
  · unfold TA at i4 ⊢
    rw [fe 25 (by decide), fe 26 (by decide), fe 27 (by decide), fe 28 (by decide), fe 29 (by decide), fe 30 (by decide), fe 31 (by decide), fe 32 (by decide), fe 97 (by decide), fe 98 (by decide), fe 99 (by decide), fe 100 (by decide), fe 101 (by decide), fe 102 (by decide)]; exact i4
  · unfold DA at i5 ⊢
    rw [fe 34 (by decide), fe 35 (by decide), fe 36 (by decide), fe 37 (by decide), fe 38 (by decide), fe 40 (by decide), fe 41 (by decide), fe 103 (by decide), fe 104 (by decide), fe 105 (by decide), fe 106 (by decide), fe 107 (by decide), fe 109 (by decide)]; exact i5
  · rw [fe 82 (by decide)] at hop
    rw [fe 48 (by decide), fe 49 (by decide), fe (212 + g) (by omega), fe (217 + g) (by omega)]; exact i11 g dd hg hd hop
theorem CW.fr {M y : bz_Mm} {k : Int} {n nf nt nd N : Nat} (hC : CW M k n nf nt nd N) (h : FR n M y) (hq : ∀ q, (q = 42 ∨ (52 < q ∧ q < 65)) → y q = M q) : CW y k n nf nt nd N := fun K hK => by
  obtain ⟨fe, ft, f81, f61, _⟩ := h
  exact sd_self (hC K (hK.cc (fun q a => fe q (by omega)) (f81 43 (by decide)) ft)) (fun q a b => by
    by_cases c : q = 42 ∨ 52 < q
    · exact hq q (by omega)
    · exact fe q (by omega)) (fun j hj => by rw [hq 53 (by decide)])
theorem FR.w {n : Nat} {M M' : bz_Mm} (h61 : r32 (M 81 61)) (h1 : ∀ q, q ≠ 42 → (q < 53 ∨ 62 < q ∧ q ≠ 63 ∧ q ≠ 64) → M' q = M q) (h2 : ∀ j, (j < 11 ∨ 18 < j) → M' 53 j = M 53 j) : FR n M M' := ⟨fun q hq => h1 q (by omega) (by omega), fun q t a b _ => by rw [h1 q (by omega) (by omega)], fun j _ => by rw [h1 81 (by decide) (by decide)], by rw [h1 81 (by decide) (by decide)]; exact h61, h2⟩
theorem w32_64 (x : Int) : w32 (w64 x) = w32 x := by
  unfold w32 w64
  exact Int.bmod_bmod_of_dvd (by decide)
theorem told_eq (x : Int) : w32 (fU_told x) = w32 (fM_told x) := by
  unfold fU_told fM_told fM_near fJM_max1 fJM_min1
  have e1 : w64 (-2000000000) = -2000000000 := by decide
  have e2 : w64 2000000000 = 2000000000 := by decide
  have h := w32_64 x
  rw [e1, e2]
  by_cases c1 : w64 x < -2000000000
  · rw [if_pos c1, if_pos (c := w64 x < 2000000000) (by omega), if_neg (by omega)]
  · rw [if_neg c1]
    by_cases c2 : 2000000000 < w64 x
    · rw [if_pos c2, if_neg (c := w64 x < 2000000000) (by omega), e2, if_pos (by decide)]
    · rw [if_neg c2]
      by_cases c3 : w64 x < 2000000000
      · rw [if_pos c3]
        by_cases c4 : -2000000000 < w64 x
        · rw [if_pos c4]
        · rw [if_neg c4, ← h, show w64 x = -2000000000 by omega]
      · rw [if_neg c3, e2, if_pos (by decide), ← h, show w64 x = 2000000000 by omega]
/-! rows that the walk does not touch -/
theorem gGo_o2 {f D nt nd : Nat} {bk : Int} {W : bz_Mm} (hf : f < 4) : ∀ q, (q < 188 ∨ (210 < q ∧ q ≠ 222)) → gGo D nt nd bk 0 W f q = W q := by
  intro q hq
  have a : itr (gFe f D) 0 nd (sPap f D nt W) q = W q := by
    rw [itr_o (fun M i => gFe_o (by omega) M i)]
    unfold sPap
    rw [itr_o (fun M i => by unfold gPt; repeat' split
                             all_goals first | rfl | rw [st_ne (by omega), st_ne (by omega)]), itr_o (fun M i => by unfold gPd; exact st_ne (by omega)), itr_o (fun M i => by unfold gPs; exact st_ne (by omega))]
  generalize hY : itr (gFe f D) 0 nd (sPap f D nt W) = Y at a
  have b : sMo f D nd bk 0 Y q = W q := by
    unfold sMo
    split
    · unfold sPr
      rw [st_ne (by omega)]
      unfold sFl
      rw [gFl_o (by omega)]
      show itr (gFc f) 0 20 (sPm f D Y) q = _
      rw [itr_o (fun M i => by unfold gFc; exact st_ne (by omega))]
      unfold sPm
      rw [st_ne (by omega), st_ne (by omega)]
      exact a
    · rw [st_ne (by omega)]; exact a
  unfold gGo
  rw [hY]
  split
  · rw [itr_o (fun X i => ?_)]
    · exact b
    · unfold gDe sDe2 sDe1
      repeat' split
      all_goals first | rfl | (exfalso; omega) | rw [st_ne (by omega), st_ne (by omega), st_ne (by omega), st_ne (by omega)]
  · exact a
theorem gGo_pre {f D nt nd : Nat} {bk : Int} {W : bz_Mm} (hf : f < 4) : ∀ g d, g < 4 → d ≠ D → gGo D nt nd bk 0 W f (196 + g) d = W (196 + g) d ∧ gGo D nt nd bk 0 W f (201 + g) d = W (201 + g) d := by
  intro g d hg hd
  by_cases e : g = f
  · subst e
    have ww : ∀ q, (q = 196 + g ∨ q = 201 + g) → gGo D nt nd bk 0 W g q d = W q d := fun q hq => by
      have a : itr (gFe g D) 0 nd (sPap g D nt W) q = W q := by
        rw [itr_o (fun M i => gFe_o (by omega) M i)]
        unfold sPap
        rw [itr_o (fun M i => by unfold gPt; repeat' split
                                 all_goals first | rfl | rw [st_ne (by omega), st_ne (by omega)]), itr_o (fun M i => by unfold gPd; exact st_ne (by omega)), itr_o (fun M i => by unfold gPs; exact st_ne (by omega))]
      generalize hY : itr (gFe g D) 0 nd (sPap g D nt W) = Y at a
      have b : sMo g D nd bk 0 Y q d = W q d := by
        have inner : (sFl g D nd 0 (sPm g D Y)).2 q d = W q d := by
          unfold sFl
          rw [gFl_o (by omega)]
          show itr (gFc g) 0 20 (sPm g D Y) q d = _
          rw [itr_o (fun M i => by unfold gFc; exact st_ne (by omega))]
          unfold sPm
          by_cases c : q = 201 + g
          · rw [c, st_eq, ud_ne hd, st_ne (by omega), ← c, a]
          · rw [st_ne c, st_ne (by omega), a]
        unfold sMo
        split
        · unfold sPr
          by_cases c : q = 196 + g
          · rw [c, st_eq, ud_ne hd, ← c]; exact inner
          · rw [st_ne c]; exact inner
        · rw [st_ne (by omega), a]
      unfold gGo
      rw [hY]
      split
      · rw [itr_o (fun X i => ?_)]
        · exact b
        · unfold gDe sDe2 sDe1
          repeat' split
          all_goals first | rfl | (exfalso; omega) | rw [st_ne (by omega), st_ne (by omega), st_ne (by omega), st_ne (by omega)]
      · rw [a]
    exact ⟨ww _ (Or.inl rfl), ww _ (Or.inr rfl)⟩
  · obtain ⟨x, y⟩ := (gGo_keep (f := f) (D := D) (nt := nt) (nd := nd) (bk := bk) (new := 0) (W := W)).2 g hg e hf
    rw [x, y]; exact ⟨rfl, rfl⟩
theorem wlk_S {nf nt nd N : Nat} {bk : Int} {K : bz_Mm} : wlk nf nt nd bk (N + 1) K = itr (gGo N nt nd bk 0) 0 nf (wlk nf nt nd bk N K) := by
  unfold wlk
  rw [itr_cat, Nat.zero_add]
theorem wlk_o {nf nt nd : Nat} {bk : Int} {K : bz_Mm} (hnf : nf ≤ 4) : ∀ (N q : Nat), (q < 188 ∨ (210 < q ∧ q ≠ 222)) → wlk nf nt nd bk N K q = K q := by
  intro N
  induction N with
  | zero => intro q hq; exact (sBeg_cl (nd := nd) (K := K)).2.2 q (by omega)
  | succ N ih =>
    intro q hq
    rw [wlk_S]
    have lp : ∀ (m f : Nat) (W : bz_Mm), f + m ≤ 4 → itr (gGo N nt nd bk 0) f m W q = W q := by
      intro m
      induction m with
      | zero => intro f W _; rfl
      | succ m ihm => intro f W h; rw [itr_S, ihm (f + 1) _ (by omega), gGo_o2 (by omega) q hq]
    rw [lp nf 0 _ (by omega)]; exact ih q hq
theorem wlk_pre {nf nt nd : Nat} {bk : Int} {K : bz_Mm} (hnf : nf ≤ 4) {g d N : Nat} (hg : g < 4) (hd : d < N) : ∀ m : Nat, wlk nf nt nd bk (N + m) K (196 + g) d = wlk nf nt nd bk N K (196 + g) d ∧ wlk nf nt nd bk (N + m) K (201 + g) d = wlk nf nt nd bk N K (201 + g) d := by
  intro m
  induction m with
  | zero => exact ⟨rfl, rfl⟩
  | succ m ih =>
    rw [show N + (m + 1) = (N + m) + 1 by omega, wlk_S]
    have lp : ∀ (j f : Nat) (W : bz_Mm), f + j ≤ 4 → itr (gGo (N + m) nt nd bk 0) f j W (196 + g) d = W (196 + g) d ∧ itr (gGo (N + m) nt nd bk 0) f j W (201 + g) d = W (201 + g) d := by
      intro j
      induction j with
      | zero => intro f W _; exact ⟨rfl, rfl⟩
      | succ j ihj =>
        intro f W h
        rw [itr_S]
        obtain ⟨a, b⟩ := ihj (f + 1) (gGo (N + m) nt nd bk 0 W f) (by omega)
        obtain ⟨c, e⟩ := gGo_pre (f := f) (D := N + m) (nt := nt) (nd := nd) (bk := bk) (W := W) (by omega) g d hg (by omega)
        rw [a, b, c, e]; exact ⟨rfl, rfl⟩
    obtain ⟨a, b⟩ := lp nf 0 (wlk nf nt nd bk (N + m) K) (by omega)
    rw [a, b]; exact ih
/-! the reference's walk from a told state -/
theorem r_thr0 {F : Nat} {M : bz_Mm} {k : Int} {n nf nt nd nl now : Nat} (hF : 500 < F) (hk : r32 k) (hI : IT M n nf nt nd nl now) : ∃ X, KW M X k n ∧ (∀ m : Nat, m ≤ 260 → fM_through F M ((m : Int) - 1) k 0 = some (wlk nf nt nd 0 m X) ∧ fM_through F M ((m : Int) - 1) k 2 = some (wlk nf nt nd 1 m X)) ∧ (∀ q, q ≠ 81 → (q < 158 ∨ 222 < q ∨ (210 < q ∧ q < 221)) → X q = M q) ∧ X 81 = ud (M 81) 61 k ∧ ∀ (m : Nat) (bk : Int), FR n M (wlk nf nt nd bk m X) := by
  have hRT := hI.rt
  have hTE := hI.2.2.1.2
  have h19 := hI.2.1.2.1
  have hnf := hI.2.1.2.2
  obtain ⟨X, a1, a2, a3, a4⟩ := r_knows hF hk hTE
  have hX := hRT.k hk a3 a4
  refine ⟨X, ⟨a2, fun q hq => a3 q (by omega) (by omega), ⟨by rw [a4, ud_eq], by rw [a4, ud_ne (by decide)]⟩, fun q t u v _ => by rw [a3 q (by omega) (by omega)]⟩, fun m hm => ⟨?_, ?_⟩, fun q h1 h2 => a3 q h1 (by omega), a4, fun m bk => ?_⟩
  · obtain ⟨Y, b1, _, _, _, _, b6⟩ := r_through (F := F) (how := 0) (N := m) (k := k) hF hk hm (by decide) hRT hTE h19
    have : X = Y := by rw [a1] at b1; exact Option.some.inj b1
    rw [← this, wlk_0] at b6; exact b6
  · obtain ⟨Y, b1, _, _, _, _, b6⟩ := r_through (F := F) (how := 2) (N := m) (k := k) hF hk hm (by decide) hRT hTE h19
    have : X = Y := by rw [a1] at b1; exact Option.some.inj b1
    rw [← this, wlk_2] at b6; exact b6
  · have o := fun q hq => wlk_o (nf := nf) (nt := nt) (nd := nd) (bk := bk) (K := X) hnf m q hq
    refine ⟨fun q hq => by rw [o q (by omega)]; exact a3 q (by omega) (by omega), fun q t u v _ => by rw [o q (by omega), a3 q (by omega) (by omega)], fun j hj => by rw [o 81 (by omega), a4, ud_ne (by omega)], by rw [o 81 (by omega), a4, ud_eq]; exact hk, fun j _ => by rw [o 53 (by omega), a3 53 (by decide) (by decide)]⟩
/-- a walk's query: class and reference -/
theorem q_walk {F : Nat} {M : bz_Mm} {k : Int} {n nf nt nd nl now : Nat} (hF : 500 < F) (hI : IT M n nf nt nd nl now) (hC : CA M n nf nt nd now) (hk : 0 ≤ k ∧ k ≤ 259) (hch : 0 ≤ M 1 17 ∧ M 1 17 ≤ 10000) (hch2 : 0 ≤ M 53 18 ∧ M 53 18 ≤ 10000) (h17 : r32 (M 53 17)) : ∃ M', fUC_walkTo F M k = some M' ∧ FR n M M' ∧ (∀ q, 64 < q → M' q = M q) ∧ (M' 53 17 = k ∧ M' 53 18 = M 1 17) ∧ IT M' n nf nt nd nl now ∧ CW M' k n nf nt nd (lastN now k) ∧ ∀ i, (i < nd → ¬ (opn (M 82) (M 106 i).toNat = true ∧ M 106 i < (now : Int))) → M' 42 i = M 42 i := by
  obtain ⟨M', w1, w2, w3, w4, w6, w7⟩ := walk_any (F := F) hF hI hC hk hch hch2 h17
  have fr : FR n M M' := FR.w hI.2.2.1.2.2.1 w2 w3
  exact ⟨M', w1, fr, fun q hq => w2 q (by omega) (by omega), w4, hI.fr fr, w6, w7⟩
/-- what stays after a query -/
theorem q_end {M' y : bz_Mm} {k : Int} {n nf nt nd nl now : Nat} (hI : IT M' n nf nt nd nl now) (hC : CW M' k n nf nt nd (lastN now k)) (hk : 0 ≤ k ∧ k ≤ 259) (h53 : M' 53 17 = k) (hF : FR n M' y) (hq : ∀ q, (q = 42 ∨ (52 < q ∧ q < 65)) → y q = M' q) : IT y n nf nt nd nl now ∧ CA y n nf nt nd now := by
  refine ⟨hI.fr hF, Or.inr (Or.inr ?_)⟩
  have e : y 53 17 = k := by rw [hq 53 (by decide)]; exact h53
  rw [e]
  exact ⟨hk.1, hk.2, hC.fr hF hq⟩
