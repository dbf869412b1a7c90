/-! dealt -/
theorem z189 {nf nt nd : Nat} {K : bz_Mm} (hnf : nf ≤ 4) : ∀ (N i : Nat), i < nd → K 107 i = 0 → wlk nf nt nd 0 N K 189 i = 0 := by
  intro N
  induction N with
  | zero => intro i hi _; exact (sBeg_cl (nd := nd) (K := K)).2.1 i hi
  | succ N ih =>
    intro i hi hz
    rw [wlk_S]
    have st1 : ∀ (f : Nat) (W : bz_Mm), f < 4 → W 107 i = 0 → W 189 i = 0 → gGo N nt nd 0 0 W f 189 i = 0 := fun f W hf h7 h9 => by
      have o := gGo_o2 (f := f) (D := N) (nt := nt) (nd := nd) (bk := 0) (W := W) hf
      have a : ∀ q, (q = 107 ∨ q = 189) → itr (gFe f N) 0 nd (sPap f N nt W) q = W q := fun q hq => by
        rw [itr_o (fun M i => gFe_o (by omega) M i)]
        unfold sPap
        rw [itr_o (fun M i => by unfold gPt; repeat' split
                                 all_goals first | rfl | rw [st_ne (by omega), st_ne (by omega)]), itr_o (fun M i => by unfold gPd; exact st_ne (by omega)), itr_o (fun M i => by unfold gPs; exact st_ne (by omega))]
      generalize hY : itr (gFe f N) 0 nd (sPap f N nt W) = Y at a
      have b : ∀ q, (q = 107 ∨ q = 189) → sMo f N nd 0 0 Y q = W q := fun q hq => by
        unfold sMo
        rw [if_pos rfl]
        unfold sPr
        rw [st_ne (by omega)]
        unfold sFl
        rw [gFl_o (by omega)]
        show itr (gFc f) 0 20 (sPm f N Y) q = _
        rw [itr_o (fun M i => by unfold gFc; exact st_ne (by omega))]
        unfold sPm
        rw [st_ne (by omega), st_ne (by omega)]
        exact a q hq
      unfold gGo
      rw [hY]
      split
      · have lp : ∀ (m j : Nat) (X : bz_Mm), X 107 i = 0 → X 189 i = 0 → itr (gDe f N 0 0) j m X 189 i = 0 := by
          intro m
          induction m with
          | zero => intro j X _ h; exact h
          | succ m ihm =>
            intro j X x7 x9
            rw [itr_S]
            have n1 : (189 : Nat) ≠ 206 + f := by omega
            have n2 : (107 : Nat) ≠ 206 + f := by omega
            refine ihm (j + 1) _ ?_ ?_
            · unfold gDe sDe2 sDe1
              repeat' split
              all_goals first | exact x7 | (exfalso; omega) | (rw [st_ne (by decide), st_ne n2, st_ne (by decide), st_ne (by decide)]; exact x7)
            · unfold gDe
              by_cases c1 : X 104 j = (f : Int)
              · by_cases c2 : X 106 j = (N : Int)
                · rw [if_pos c1, if_pos c2]
                  unfold sDe2 sDe1
                  rw [if_pos rfl, st_ne (by decide), st_ne n1, st_ne (by decide), st_eq]
                  by_cases e : i = j
                  · subst e
                    rw [ud_eq]
                    unfold sCo sDo
                    rw [if_pos rfl, if_pos rfl, x7, w32_0, w64_z, if_neg (by decide), show -(0 : Int) = 0 from rfl, Int.zero_mul, w64_z]
                    rfl
                  · rw [ud_ne e]; exact x9
                · rw [if_pos c1, if_neg c2]; exact x9
              · rw [if_neg c1]; exact x9
        exact lp nd 0 _ (by rw [b 107 (Or.inl rfl)]; exact h7) (by rw [b 189 (Or.inr rfl)]; exact h9)
      · rw [a 189 (Or.inr rfl)]; exact h9
    have lp : ∀ (m f : Nat) (W : bz_Mm), f + m ≤ 4 → W 107 i = 0 → W 189 i = 0 → itr (gGo N nt nd 0 0) f m W 189 i = 0 := by
      intro m
      induction m with
      | zero => intro f W _ _ h; exact h
      | succ m ihm =>
        intro f W h h7 h9
        rw [itr_S]
        exact ihm (f + 1) _ (by omega) (by rw [gGo_o2 (by omega) 107 (by omega)]; exact h7) (st1 f W (by omega) h7 h9)
    exact lp nf 0 _ (by omega) (by rw [wlk_o hnf N 107 (by omega)]; exact hz) (ih i hi hz)
theorem it_108 {M : bz_Mm} {n nf nt nd nl now : Nat} (hI : IT M n nf nt nd nl now) : ∀ d, d < nd → (M 108 d = 0 ∨ M 108 d = 1) ∧ (M 108 d = 0 → M 107 d = 0) ∧ (M 108 d = 1 → opn (M 82) (M 106 d).toNat = true ∧ M 106 d < (now : Int)) ∧ (M 108 d = 0 → ¬ (opn (M 82) (M 106 d).toNat = true ∧ M 106 d < (now : Int))) := fun d hd => by
  obtain ⟨z1, z2, z3, z4, z5⟩ := hI.2.2.2.2.2.2.2.2.1 d hd
  by_cases c : M 106 d < (now : Int) ∧ opn (M 82) (M 106 d).toNat = true
  · rw [if_pos c] at z5
    exact ⟨by omega, fun q => by omega, fun _ => ⟨c.2, c.1⟩, fun q => by omega⟩
  · rw [if_neg c] at z5
    refine ⟨by omega, fun _ => ?_, fun q => by omega, fun _ q => c ⟨q.2, q.1⟩⟩
    by_cases o : opn (M 82) (M 106 d).toNat = true
    · exact z4 (by
        have : ¬ M 106 d < (now : Int) := fun q => c ⟨q, o⟩
        omega)
    · exact z1 o
theorem it_tok {M : bz_Mm} {c : Nat → Int} {n nf nt nd nl now : Nat} (hI : IT M n nf nt nd nl now) (hc : ∀ d, d < nd → (0 ≤ c d ∧ c d ≤ 1000000000) ∧ (M 107 d = 0 → c d = 0)) : TOK M c nd := by
  have hRT := hI.rt
  obtain ⟨i1, i2, _, _, ⟨i5, i5b, i5c⟩, _, _, _, i9, i10, _⟩ := hI
  refine ⟨i5.1.2, hc, i10.2, fun d hd => ?_⟩
  obtain ⟨⟨e1, e2, e3, e4⟩, ew, er, eu, _⟩ := i5.2.2 d hd
  have := i5.2.1.2.2.2 d hd
  have := i2.2.2
  exact ⟨eu, (hRT.2.2.2.2.2.1 d hd).1, by omega, by omega⟩
theorem TOK.c {M y : bz_Mm} {c : Nat → Int} {nd : Nat} (h : TOK M c nd) (hq : ∀ q, 102 < q → q < 108 → y q = M q) : TOK y c nd := by
  obtain ⟨a, b, d, e⟩ := h
  have hb : ∀ i, hbi y nd i = hbi M nd i := fun i => by
    unfold hbi
    have e1 : ∀ (g D : Nat) (t : Nat → Int), sdl y g D t i = sdl M g D t i := fun g D t => sdl_c i (fun j _ => ⟨⟨by rw [hq 104 (by decide) (by decide)], by rw [hq 106 (by decide) (by decide)]⟩, fun _ _ => rfl⟩)
    have e2 : ∀ w g D, hwm y w g D nd = hwm M w g D nd := fun w g D => hwm_e nd (fun j _ => by rw [hq 103 (by decide) (by decide), hq 104 (by decide) (by decide), hq 106 (by decide) (by decide), hq 107 (by decide) (by decide)]; exact ⟨rfl, rfl, rfl, fun _ _ => rfl⟩)
    rw [e1, e2, hq 103 (by decide) (by decide), hq 104 (by decide) (by decide), hq 106 (by decide) (by decide), hq 107 (by decide) (by decide)]
  refine ⟨a, by rw [hq 107 (by decide) (by decide)]; exact b, fun i hi => by rw [hb, hq 107 (by decide) (by decide)]; exact d i hi, by rw [hq 103 (by decide) (by decide), hq 104 (by decide) (by decide), hq 106 (by decide) (by decide), hq 107 (by decide) (by decide)]; exact e⟩
theorem eq_dealt {F : Nat} {M : bz_Mm} {a1 a2 : Int} {n nf nt nd nl now : Nat} (hF : 500 < F) (h1 : r32 a1) (h2 : r32 a2) (h : IQ M n nf nt nd nl now) : ∃ x y, fU_dealt F M a1 a2 = some x ∧ fM_dealt F x.2 a1 a2 = some y ∧ w32 x.1 = w32 y.1 ∧ QY M y.2 n nf nt nd nl now := by
  have hI := h.1
  have nf4 := hI.2.1.2.2
  have n260 := hI.1.2.2
  obtain ⟨k1, k2, k3, k4, k5⟩ := kn_U hI
  have hDA := hI.2.2.2.2.1.1
  have nd2 := hDA.1.2
  have e34 : M 34 2 = nd := hDA.1.1
  have inn : ∀ X, IT X n nf nt nd nl now → ((w32 (fM_in (w32 a1) 0 (w32 (X 81 35 - 1))) = 0) ↔ ¬ (0 ≤ a1 ∧ a1 < (nd : Int))) := fun X hX => by
    rw [hX.2.2.2.2.1.2.1, r32_w h1, w32_id (x := (nd : Int) - 1) (by omega) (by omega)]
    refine (fM_in_0 h1 ⟨by decide, by decide⟩ ⟨by omega, by omega⟩).trans (not_congr ?_)
    omega
  unfold fU_dealt fM_dealt
  rw [e34, w32_n (show nd ≤ 2147483647 by omega), r32_w h1, r32_w h2]
  by_cases c : 0 ≤ a1 ∧ a1 < (nd : Int)
  · obtain ⟨i, rfl⟩ : ∃ i : Nat, a1 = i := ⟨a1.toNat, by omega⟩
    have hi : i < nd := by omega
    rw [if_neg (show ¬ (i : Int) < 0 by omega), if_pos (show (i : Int) < nd by omega)]
    obtain ⟨⟨e1, e2, e3, e4⟩, ew, er, eu, _⟩ := hDA.2.2 i hi
    obtain ⟨d1, d2, d3, d4⟩ := it_108 hI i hi
    have inM : ∀ X, IT X n nf nt nd nl now → ¬ (w32 (fM_in (i : Int) 0 (w32 (X 81 35 - 1))) = 0) := fun X hX q => (inn X hX).mp (by rw [r32_w h1]; exact q) c
    by_cases b0 : a2 = 0
    · refine ⟨(M 37 i, M), (M 37 i, M), ?_, ?_, rfl, QY.r h⟩
      · rw [if_pos b0, rd_s (by omega) (by decide)]
      · dsimp only
        rw [if_neg (inM M hI), if_pos b0, rd_s (by omega) (by decide), w32_id (x := M 103 i) (by omega) (by omega)]
        by_cases z : M 103 i < 16
        · rw [if_pos z, rd_s (by omega) (by decide), show M 103 i = M 37 i by omega]
        · rw [if_neg z, rd_s (by omega) (by decide), show M 103 i - 16 + 20 = M 37 i by omega]
    rw [if_neg b0]
    by_cases b1 : a2 = 1
    · refine ⟨(M 38 i, M), (M 104 i, M), ?_, ?_, by dsimp only; rw [e1], QY.r h⟩
      · rw [if_pos b1, rd_s (by omega) (by decide)]
      · dsimp only
        rw [if_neg (inM M hI), if_neg b0, if_pos b1, rd_s (by omega) (by decide)]
    rw [if_neg b1]
    by_cases b2 : a2 = 2
    · refine ⟨(M 35 i, M), (M 106 i, M), ?_, ?_, by dsimp only; rw [e2], QY.r h⟩
      · rw [if_pos b2, rd_s (by omega) (by decide)]
      · dsimp only
        rw [if_neg (inM M hI), if_neg b0, if_neg b1, if_pos b2, rd_s (by omega) (by decide)]
    rw [if_neg b2]
    by_cases b3 : a2 = 3
    · refine ⟨(M 40 i, M), (M 107 i, M), ?_, ?_, by dsimp only; rw [e3], QY.r h⟩
      · rw [if_pos b3, rd_s (by omega) (by decide)]
      · dsimp only
        rw [if_neg (inM M hI), if_neg b0, if_neg b1, if_neg b2, if_pos b3, rd_s (by omega) (by decide)]
    rw [if_neg b3]
    by_cases b4 : a2 = 4
    · refine ⟨(fU_told (M 41 i), M), (fM_told (M 109 i), M), ?_, ?_, by dsimp only; rw [told_eq, e4], QY.r h⟩
      · rw [if_pos b4, rd_s (by omega) (by decide)]
      · dsimp only
        rw [if_neg (inM M hI), if_neg b0, if_neg b1, if_neg b2, if_neg b3, if_pos b4, rd_s (by omega) (by decide)]
    rw [if_neg b4]
    -- what the walk gives
    obtain ⟨M', X, q1, q2, q3, q4, q5, q6, _, _, q7, q8, q9, q10⟩ := q_all (k := (knw now : Int)) hF h (by omega)
    rw [k5] at q6
    obtain ⟨p1, p2, _, _, _⟩ := kn_U q2
    have lo := (lo_M (k := (knw now : Int)) q2 (by omega)).1
    rw [k5] at lo
    obtain ⟨⟨s1, s2, s3, s4, s5, s6, s7, s8, s9, s10, s11⟩, _⟩ := q6
    have fr := q3.2.1.1
    have o := fun q hq => wlk_o (nf := nf) (nt := nt) (nd := nd) (bk := 0) (K := X) nf4 now q hq
    have coin : ∀ d, d < nd → M' 42 d = wlk nf nt nd 0 now X 189 d ∧ (0 ≤ M' 42 d ∧ M' 42 d ≤ 1000000000) ∧ (M' 108 d = 0 → M' 42 d = 0) := fun d hd => by
      obtain ⟨z1, z2, z3, z4⟩ := it_108 q2 d hd
      by_cases dn : dnx X now 0 d
      · obtain ⟨y1, y2, y3⟩ := (s10 d hd).1 dn
        refine ⟨y1, by rw [y1]; exact y3, fun q => absurd ?_ (z4 q)⟩
        obtain ⟨w1, w2⟩ := dn
        rw [q8 82 (by decide) (by decide), q8 106 (by decide) (by decide)] at w1
        rw [q8 106 (by decide) (by decide), q8 104 (by decide) (by decide)] at w2
        have t0 := (q2.2.2.2.2.1.1.2.2 d hd).2.2.1.1
        rcases w2 with w2 | w2
        · exact ⟨w1, w2⟩
        · exact absurd w2.2 (Int.not_lt.mpr t0)
      · obtain ⟨y1, y2, y3⟩ := (s10 d hd).2 dn
        have : M' 42 d = 0 := q3.1.2.2.2.2.2 d (fun _ w => dn ⟨by rw [q8 82 (by decide) (by decide), q8 106 (by decide) (by decide)]; exact w.1, by rw [q8 106 (by decide) (by decide)]; exact Or.inl w.2⟩)
        rw [this, y1]; exact ⟨rfl, by omega, fun _ => rfl⟩
    have e108 : M' 108 i = M 108 i := by rw [fr 108 (by decide)]
    by_cases b5 : a2 = 5
    · rw [if_pos b5, k1, q1, cl_s]
      by_cases dl : M' 108 i = 0
      · refine ⟨(fU_told (M' 42 i), M'), (0, M'), ?_, ?_, ?_, q3⟩
        · rw [rd_s (by omega) (by decide)]
        · dsimp only
          rw [if_neg (inM M' q2), if_neg b0, if_neg b1, if_neg b2, if_neg b3, if_neg b4, if_pos b5, rd_s (by omega) (by decide), dl, w32_0, if_pos rfl]
        · dsimp only
          rw [(coin i hi).2.2 dl]; decide
      · refine ⟨(fU_told (M' 42 i), M'), (fM_told (wlk nf nt nd 0 now X 189 i), wlk nf nt nd 0 now X), ?_, ?_, ?_, q10 now 0⟩
        · rw [rd_s (by omega) (by decide)]
        · dsimp only
          rw [if_neg (inM M' q2), if_neg b0, if_neg b1, if_neg b2, if_neg b3, if_neg b4, if_pos b5, rd_s (by omega) (by decide), w32_id (x := M' 108 i) (by omega) (by omega), if_neg dl, p2, lo, (q7 now n260).1, cl_s, if_pos b5, rd_s (by omega) (by decide), cl1_s]
        · dsimp only
          rw [told_eq, (coin i hi).1]
    rw [if_neg b5]
    obtain ⟨w, hw⟩ : ∃ w : Nat, M 103 i = w := ⟨(M 103 i).toNat, by omega⟩
    obtain ⟨g, hg⟩ : ∃ g : Nat, M 104 i = g := ⟨(M 104 i).toNat, by omega⟩
    have day := hDA.2.1.2.2.2 i hi
    obtain ⟨D, hD⟩ : ∃ D : Nat, M 106 i = D := ⟨(M 106 i).toNat, by omega⟩
    by_cases b6 : a2 = 6
    · have tok : TOK M (M 109) nd := it_tok hI (fun d hd => by
        obtain ⟨z1, z2, z3, z4, z5⟩ := hI.2.2.2.2.2.2.2.2.1 d hd
        exact ⟨z3, z2⟩)
      have tu := u_tax_41 (F := F) (M := M) (y := M) (c := M 109) (q := i) (by omega) hI.2.2.2.2.2.2.1 nf4 hDA tok (fun d hd => (hDA.2.2 d hd).1.2.2.2) hi hw hg hD rfl
      by_cases dl : M 108 i = 0
      · refine ⟨(fU_told (txT M (M 109) g D i (txB M (M 109) w g nd D i)), M), (0, M), ?_, ?_, ?_, QY.r h⟩
        · rw [if_pos b6, tu, cl_s]
        · dsimp only
          rw [if_neg (inM M hI), if_neg b0, if_neg b1, if_neg b2, if_neg b3, if_neg b4, if_neg b5, if_pos b6, rd_s (by omega) (by decide), dl, w32_0, if_pos rfl]
        · dsimp only
          unfold txT
          rw [d2 dl, if_neg (by decide)]; decide
      · have tm := r_tax_109 (F := F) (y := M) (q := i) (by omega) hI.2.2.2.2.2.2.1 hI.2.2.2.2.1.2.1 tok (fun d hd => ⟨(it_108 hI d hd).1, (it_108 hI d hd).2.1⟩) hi hw hg hD (by omega)
        refine ⟨(fU_told (txT M (M 109) g D i (txB M (M 109) w g nd D i)), M), (fM_told (txT M (M 109) g D i (txB M (M 109) w g nd D i)), M), ?_, ?_, told_eq _, QY.r h⟩
        · rw [if_pos b6, tu, cl_s]
        · dsimp only
          rw [if_neg (inM M hI), if_neg b0, if_neg b1, if_neg b2, if_neg b3, if_neg b4, if_neg b5, if_pos b6, rd_s (by omega) (by decide), w32_id (x := M 108 i) (by omega) (by omega), if_neg dl, tm, cl_s]
    rw [if_neg b6]
    by_cases b7 : a2 = 7
    · have yI := (q10 now 0).1.1
      have y102 : ∀ q, 102 < q → q < 110 → wlk nf nt nd 0 now X q = M' q := fun q a b => by rw [o q (by omega)]; exact q8 q (by omega) (by omega)
      have tok' : TOK M' (wlk nf nt nd 0 now X 189) nd := it_tok q2 (fun d hd => by
        rw [← (coin d hd).1]
        refine ⟨(coin d hd).2.1, fun z => ?_⟩
        rw [(coin d hd).1]; exact z189 nf4 now d hd (by rw [q8 107 (by decide) (by decide)]; exact z))
      have tok : TOK (wlk nf nt nd 0 now X) (wlk nf nt nd 0 now X 189) nd := tok'.c (fun q a b => y102 q a (by omega))
      have hDAy : DA M' (wlk nf nt nd 0 now X) nf nd := by
        have hD2 := q2.2.2.2.2.1.1
        unfold DA at hD2 ⊢
        rw [y102 103 (by decide) (by decide), y102 104 (by decide) (by decide), y102 105 (by decide) (by decide), y102 106 (by decide) (by decide), y102 107 (by decide) (by decide), y102 109 (by decide) (by decide)]; exact hD2
      have hw' : wlk nf nt nd 0 now X 103 i = w := by rw [y102 103 (by decide) (by decide), fr 103 (by decide)]; exact hw
      have hg' : wlk nf nt nd 0 now X 104 i = g := by rw [y102 104 (by decide) (by decide), fr 104 (by decide)]; exact hg
      have hD' : wlk nf nt nd 0 now X 106 i = D := by rw [y102 106 (by decide) (by decide), fr 106 (by decide)]; exact hD
      have rve : rv M' g D 10 = rv (wlk nf nt nd 0 now X) g D 10 := (rv_c (fun q a b => by rw [o q (by omega), q8 q (by omega) (by omega)]) (by rw [o 81 (by omega), q9, ud_ne (by decide)]) (by have := q2.2.2.2.2.2.2.1.2.1; have := q2.2.2.2.2.2.2.1.2.2.1; omega) g (by omega) _ 10).symm
      have tu := u_tax_42 (F := F) (M := M') (y := wlk nf nt nd 0 now X) (c := wlk nf nt nd 0 now X 189) (q := i) (by omega) q2.2.2.2.2.2.2.1 nf4 hDAy tok (fun d hd => (coin d hd).1) hi hw' hg' hD' rve
      rw [if_pos b7, k1, q1, cl_s, tu, cl_s]
      by_cases dl : M' 108 i = 0
      · refine ⟨(fU_told (txT (wlk nf nt nd 0 now X) (wlk nf nt nd 0 now X 189) g D i (txB (wlk nf nt nd 0 now X) (wlk nf nt nd 0 now X 189) w g nd D i)), M'), (0, M'), rfl, ?_, ?_, q3⟩
        · dsimp only
          rw [if_neg (inM M' q2), if_neg b0, if_neg b1, if_neg b2, if_neg b3, if_neg b4, if_neg b5, if_neg b6, if_pos b7, rd_s (by omega) (by decide), dl, w32_0, if_pos rfl]
        · dsimp only
          unfold txT
          have z7 : wlk nf nt nd 0 now X 107 i = 0 := by rw [y102 107 (by decide) (by decide)]; exact (it_108 q2 i hi).2.1 dl
          rw [z7, if_neg (by decide)]; decide
      · have tm := r_tax_189 (F := F) (y := wlk nf nt nd 0 now X) (q := i) (by omega) yI.2.2.2.2.2.2.1 yI.2.2.2.2.1.2.1 tok (fun d hd => ⟨(it_108 yI d hd).1, (it_108 yI d hd).2.1⟩) hi hw' hg' hD' (by rw [y102 108 (by decide) (by decide)]; omega)
        refine ⟨(fU_told (txT (wlk nf nt nd 0 now X) (wlk nf nt nd 0 now X 189) g D i (txB (wlk nf nt nd 0 now X) (wlk nf nt nd 0 now X 189) w g nd D i)), M'), (fM_told (txT (wlk nf nt nd 0 now X) (wlk nf nt nd 0 now X 189) g D i (txB (wlk nf nt nd 0 now X) (wlk nf nt nd 0 now X 189) w g nd D i)), wlk nf nt nd 0 now X), rfl, ?_, told_eq _, q10 now 0⟩
        dsimp only
        rw [if_neg (inM M' q2), if_neg b0, if_neg b1, if_neg b2, if_neg b3, if_neg b4, if_neg b5, if_neg b6, if_pos b7, rd_s (by omega) (by decide), w32_id (x := M' 108 i) (by omega) (by omega), if_neg dl, p2, lo, (q7 now n260).1, cl_s, if_neg b5, tm, cl_s, cl1_s]
    rw [if_neg b7]
    refine ⟨(-2147483648, M), (-2147483648, M), rfl, ?_, rfl, QY.r h⟩
    dsimp only
    rw [if_neg (inM M hI), if_neg b0, if_neg b1, if_neg b2, if_neg b3, if_neg b4, if_neg b5, if_neg b6, if_neg b7]
  · refine ⟨(-2147483648, M), (-2147483648, M), ?_, ?_, rfl, QY.r h⟩
    · by_cases z : a1 < 0
      · rw [if_pos z]
      · rw [if_neg z, if_neg (by omega)]
    · dsimp only
      rw [if_pos]
      rw [← r32_w h1]
      exact (inn M hI).mpr c
