/-! explain, rivals -/
theorem KX.q {M y X : bz_Mm} {h n ns now : Nat} (h1 : ∀ q, ((44 < q ∧ q < 48) ∨ q = 82 ∨ (87 < q ∧ q < 158) ∨ (210 < q ∧ q < 221)) → y q = M q) (h2 : y 81 43 = M 81 43) (h3 : ∀ q t, 83 ≤ q → q ≤ 87 → t < n → y q t = M q t) (hX : KX M X h n ns now) : KX y X h n ns now := by
  obtain ⟨a1, a2, a3, a4, a5⟩ := hX
  refine ⟨fun q hq => by rw [h1 q hq]; exact a1 q hq, by rw [h2]; exact a2, fun q t u v w => by rw [h3 q t u v w]; exact a3 q t u v w, fun i i1 i2 => by rw [h1 88 (by decide), h1 89 (by decide), h1 90 (by decide), h1 91 (by decide)]; exact a4 i i1 i2, a5⟩
theorem ex_.fr {M y : bz_Mm} {n nf nt nd ns now na : Nat} (f : FR n M y) : ex_ y n nf nt nd ns now na = ex_ M n nf nt nd ns now na := by
  obtain ⟨fe, ft, f81, _⟩ := f
  funext h
  refine propext ⟨fun ⟨X, a, b⟩ => ⟨X, a.q (fun q hq => (fe q (by omega)).symm) (f81 43 (by decide)).symm (fun q t u v w => (ft q t u v w).symm), ?_⟩, fun ⟨X, a, b⟩ => ⟨X, a.q (fun q hq => fe q (by omega)) (f81 43 (by decide)) ft, ?_⟩⟩
  · unfold EXP at b ⊢; rw [fe 227 (by decide), fe 228 (by decide), fe 229 (by decide)] at b; exact b
  · unfold EXP at b ⊢; rw [fe 227 (by decide), fe 228 (by decide), fe 229 (by decide)]; exact b
/-- what the last search kept -/
def SC (M : bz_Mm) (n nf nt nd ns now na : Nat) : Prop := (0 ≤ M 77 7 ∧ M 77 7 ≤ M 1 17) ∧ (M 77 4 = 0 ∨ M 77 4 = 1) ∧ (M 77 4 = 0 ∨ ¬ M 77 7 = M 1 17 ∨ (M 77 5 = (srch (ex_ M n nf nt nd ns now na) ns).1 ∧ M 77 6 = (srch (ex_ M n nf nt nd ns now na) ns).2))
theorem SC.fr {M y : bz_Mm} {n nf nt nd ns now na : Nat} (h : SC M n nf nt nd ns now na) (f : FR n M y) (h77 : y 77 = M 77) : SC y n nf nt nd ns now na := by
  unfold SC at h ⊢
  rw [ex_.fr f, h77, f.1 1 (by decide)]; exact h
theorem CA.q {M y : bz_Mm} {n nf nt nd nl now : Nat} (hI : IT M n nf nt nd nl now) (hC : CA M n nf nt nd now) (hF : FR n M y) (hq : ∀ q, (q = 42 ∨ (52 < q ∧ q < 65)) → y q = M q) : CA y n nf nt nd now := by
  rcases hC with c | c | ⟨c1, c2, c3⟩
  · exact Or.inl (by rw [hq 53 (by decide)]; exact c)
  · exact Or.inr (Or.inl (by rw [hq 53 (by decide), hF.1 1 (by decide)]; exact c))
  · exact (q_end hI c3 ⟨c1, c2⟩ rfl hF hq).2
theorem r_srch {F : Nat} {M V : bz_Mm} {n nf nt nd nl now ns na : Nat} (hF : 500 < F) (hI : IT M n nf nt nd nl now) (h77 : M 77 3 = na) (hS : ISu M ns) (hA : IAu M nf now na) (f : FR n M V) : ∃ Y, fM_searches F V = some Y ∧ SYr M Y n (srch (ex_ M n nf nt nd ns now na) ns) ∧ ∀ q, (q < 81 ∨ 222 < q) → Y q = V q := by
  have ns7 := hS.1.2.2
  obtain ⟨Y, y1, y2, y3⟩ := r_12 hF hI h77 hS hA (ns + 1) F 0 (st_ (st_ V 81 70 (-1)) 81 71 0) (-1, -1) (by omega) (by omega) ⟨⟨by decide, by decide⟩, fun _ => rfl⟩ ⟨f.k81 (fun q hq => by rw [st_ne hq, st_ne hq]) (fun j hj => by rw [st_eq, ud_ne (by omega), st_eq, ud_ne (by omega)]), by rw [st_eq, ud_ne (by decide), st_eq, ud_eq], by rw [st_eq, ud_eq]; rfl⟩
  refine ⟨Y, ?_, y2, fun q hq => by rw [y3 q hq, st_ne (by omega), st_ne (by omega)]⟩
  rw [show ((0 : Nat) : Int) = 0 from rfl] at y1
  unfold fM_searches
  rw [wf_s, wf_s, y1, cl1_s]
theorem eq_search {F : Nat} {M : bz_Mm} {n nf nt nd nl now ns na : Nat} (hF : 500 < F) (hQ : IQ M n nf nt nd nl now) (h77 : M 77 3 = na) (hS : ISu M ns) (hA : IAu M nf now na) (hC : SC M n nf nt nd ns now na) : ∃ V Y, fUA_search F M = some V ∧ fM_searches F V = some Y ∧ (V 77 5 = Y 81 70 ∧ V 77 6 = Y 81 71 - 1) ∧ bcO (Y 81 70, Y 81 71 - 1) ∧ IQ Y n nf nt nd nl now ∧ FR n M Y ∧ Y 77 3 = na ∧ SC Y n nf nt nd ns now na := by
  obtain ⟨hI, hCA, hch, hch2, h17, h42⟩ := hQ
  have ns7 := hS.1.2.2
  have so := srch_o (E := ex_ M n nf nt nd ns now na) ns7
  obtain ⟨c1, c2, c3⟩ := hC
  have w4 : w32 (M 77 4) = M 77 4 := by rcases c2 with c | c <;> rw [c] <;> decide
  have w7 : w32 (M 77 7) = M 77 7 := w32_id (by omega) (by omega)
  have w17 : w32 (M 1 17) = M 1 17 := w32_id (by omega) (by omega)
  have f0 : FR n M M := FR.r hI.2.2.1.2.2.1
  by_cases cc : M 77 4 = 1 ∧ M 77 7 = M 1 17
  · -- kept
    obtain ⟨d1, d2⟩ : M 77 5 = (srch (ex_ M n nf nt nd ns now na) ns).1 ∧ M 77 6 = (srch (ex_ M n nf nt nd ns now na) ns).2 := by
      rcases c3 with c | c | c
      · rw [cc.1] at c; exact absurd c (by decide)
      · exact absurd cc.2 c
      · exact c
    obtain ⟨Y, y1, y2, y3⟩ := r_srch hF hI h77 hS hA f0
    obtain ⟨z1, z2, z3⟩ := y2
    refine ⟨M, Y, ?_, y1, ⟨by rw [z2]; exact d1, by rw [z3, d2]; omega⟩, ?_, ?_, z1, by rw [y3 77 (by decide)]; exact h77, ?_⟩
    · unfold fUA_search
      rw [w4, w7, w17, if_neg (by rw [cc.1]; decide), if_pos cc.2]
    · rw [z2, z3, show (srch (ex_ M n nf nt nd ns now na) ns).2 + 1 - 1 = (srch (ex_ M n nf nt nd ns now na) ns).2 by omega]; exact so
    · exact ⟨hI.fr z1, hCA.q hI z1 (fun q hq => y3 q (by omega)), by rw [y3 1 (by decide)]; exact hch, by rw [y3 53 (by decide), y3 1 (by decide)]; exact hch2, by rw [y3 53 (by decide)]; exact h17, by rw [y3 42 (by decide), z1.1 82 (by decide), z1.1 106 (by decide)]; exact h42⟩
    · exact SC.fr ⟨c1, c2, c3⟩ z1 (y3 77 (by decide))
  · obtain ⟨V, v1, v2, v3, v4⟩ := u_43 hF hI h77 hS hA (ns + 1) F 0 (st_ (st_ M 77 5 (-1)) 77 6 (-1)) (-1, -1) (by omega) (by omega) ⟨⟨by decide, by decide⟩, fun _ => rfl⟩ ⟨f0.k77 (fun q hq => by rw [st_ne hq, st_ne hq]), fun j a b => by rw [st_eq, ud_ne b, st_eq, ud_ne a], ⟨by rw [st_eq, ud_ne (by decide), st_eq, ud_eq], by rw [st_eq, ud_eq]⟩, fun q a b => by rw [st_ne b, st_ne b], fun i a => by rw [st_ne (by decide), st_ne (by decide)], by rw [st_ne (by decide), st_ne (by decide)]⟩
    obtain ⟨s1, s2, ⟨s3, s3'⟩, s4, s5, s6⟩ := v3
    have e17 : V 1 17 = M 1 17 := by rw [s1.1 1 (by decide)]
    have en : (st_ (st_ M 77 5 (-1)) 77 6 (-1)) 17 2 = ns := by rw [st_ne (by decide), st_ne (by decide)]; exact hS.1.1
    have cu : fUA_search F M = some (st_ (st_ V 77 4 1) 77 7 (V 1 17)) := by
      unfold fUA_search
      rw [w4, w7, w17]
      by_cases d : M 77 4 = 0
      · rw [if_pos d, wf_s, wf_s, lt_x, en, show (0 : Int) = ((0 : Nat) : Int) from rfl, v1, cl1_s]; rfl
      · rw [if_neg d, if_neg (fun q => cc ⟨c2.resolve_left d, q⟩), wf_s, wf_s, lt_x, en, show (0 : Int) = ((0 : Nat) : Int) from rfl, v2, cl1_s]; rfl
    have fV : FR n M (st_ (st_ V 77 4 1) 77 7 (V 1 17)) := s1.k77 (fun q hq => by rw [st_ne hq, st_ne hq])
    have v17 : V 53 17 = -1 := v4 (Or.inr ⟨rfl, rfl, Nat.succ_pos ns⟩)
    obtain ⟨Y, y1, y2, y3⟩ := r_srch hF hI h77 hS hA fV
    obtain ⟨z1, z2, z3⟩ := y2
    have x5 : (st_ (st_ V 77 4 1) 77 7 (V 1 17)) 77 5 = (srch (ex_ M n nf nt nd ns now na) ns).1 := by rw [st_eq, ud_ne (by decide), st_eq, ud_ne (by decide)]; exact s3
    have x6 : (st_ (st_ V 77 4 1) 77 7 (V 1 17)) 77 6 = (srch (ex_ M n nf nt nd ns now na) ns).2 := by rw [st_eq, ud_ne (by decide), st_eq, ud_ne (by decide)]; exact s3'
    have x4 : (st_ (st_ V 77 4 1) 77 7 (V 1 17)) 77 4 = 1 := by rw [st_eq, ud_ne (by decide), st_eq, ud_eq]
    have x7 : (st_ (st_ V 77 4 1) 77 7 (V 1 17)) 77 7 = M 1 17 := by rw [st_eq, ud_eq]; exact e17
    have x3 : (st_ (st_ V 77 4 1) 77 7 (V 1 17)) 77 3 = na := by rw [st_eq, ud_ne (by decide), st_eq, ud_ne (by decide), s2 3 (by decide) (by decide)]; exact h77
    have x53 : (st_ (st_ V 77 4 1) 77 7 (V 1 17)) 53 17 = -1 := by rw [st_ne (by decide), st_ne (by decide)]; exact v17
    have x18 : (st_ (st_ V 77 4 1) 77 7 (V 1 17)) 53 18 = M 53 18 := by rw [st_ne (by decide), st_ne (by decide)]; exact s6
    have x42 : (st_ (st_ V 77 4 1) 77 7 (V 1 17)) 42 = V 42 := by rw [st_ne (by decide), st_ne (by decide)]
    have x1 : (st_ (st_ V 77 4 1) 77 7 (V 1 17)) 1 17 = M 1 17 := by rw [st_ne (by decide), st_ne (by decide)]; exact e17
    refine ⟨_, Y, cu, y1, ⟨by rw [z2]; exact x5, by rw [z3, x6]; omega⟩, ?_, ?_, z1, by rw [y3 77 (by decide)]; exact x3, ?_⟩
    · rw [z2, z3, show (srch (ex_ M n nf nt nd ns now na) ns).2 + 1 - 1 = (srch (ex_ M n nf nt nd ns now na) ns).2 by omega]; exact so
    · refine ⟨hI.fr z1, Or.inl (by rw [y3 53 (by decide)]; exact x53), by rw [y3 1 (by decide), x1]; exact hch, by rw [y3 53 (by decide), x18, y3 1 (by decide), x1]; exact hch2, by rw [y3 53 (by decide), x53]; exact ⟨by decide, by decide⟩, fun i hz => ?_⟩
      rw [z1.1 82 (by decide), z1.1 106 (by decide)] at hz
      rw [y3 42 (by decide), x42, s5 i hz]; exact h42 i hz
    · unfold SC
      rw [ex_.fr z1, y3 77 (by decide), y3 1 (by decide), x7, x1, x4, x5, x6]
      exact ⟨⟨hch.1, Int.le_refl _⟩, Or.inr rfl, Or.inr (Or.inr ⟨rfl, rfl⟩)⟩
theorem eq_explain {F : Nat} {M : bz_Mm} {n nf nt nd nl now ns na : Nat} (hF : 500 < F) (hQ : IQ M n nf nt nd nl now) (h77 : M 77 3 = na) (hS : ISu M ns) (hA : IAu M nf now na) (hC : SC M n nf nt nd ns now na) : ∃ x y, fU_explain F M = some x ∧ fM_explain F x.2 = some y ∧ w32 x.1 = w32 y.1 ∧ IQ y.2 n nf nt nd nl now ∧ FR n M y.2 ∧ y.2 77 3 = na ∧ SC y.2 n nf nt nd ns now na := by
  obtain ⟨V, Y, a1, a2, ⟨a3, a3'⟩, a4, a5⟩ := eq_search hF hQ h77 hS hA hC
  refine ⟨(V 77 5, V), (Y 81 70, Y), ?_, ?_, by rw [a3], a5⟩
  · unfold fU_explain; rw [a1, cl_s]
  · unfold fM_explain; dsimp only; rw [a2, cl_s]
theorem eq_rivals {F : Nat} {M : bz_Mm} {n nf nt nd nl now ns na : Nat} (hF : 500 < F) (hQ : IQ M n nf nt nd nl now) (h77 : M 77 3 = na) (hS : ISu M ns) (hA : IAu M nf now na) (hC : SC M n nf nt nd ns now na) : ∃ x y, fU_rivals F M = some x ∧ fM_rivals F x.2 = some y ∧ w32 x.1 = w32 y.1 ∧ IQ y.2 n nf nt nd nl now ∧ FR n M y.2 ∧ y.2 77 3 = na ∧ SC y.2 n nf nt nd ns now na := by
  obtain ⟨V, Y, a1, a2, ⟨a3, a3'⟩, a4, a5⟩ := eq_search hF hQ h77 hS hA hC
  obtain ⟨⟨b1, b2⟩, b3⟩ := a4
  dsimp only at b1 b2 b3
  refine ⟨(V 77 6, V), (if Y 81 70 = -1 then -1 else Y 81 71 - 1, Y), ?_, ?_, ?_, a5⟩
  · unfold fU_rivals; rw [a1, cl_s]
  · unfold fM_rivals; dsimp only; rw [a2, cl_s, w32_id (x := Y 81 70) (by omega) (by omega)]
    by_cases c : Y 81 70 = -1
    · rw [if_pos c, if_pos c]
    · rw [if_neg c, if_neg c]
  · dsimp only
    by_cases c : Y 81 70 = -1
    · rw [if_pos c, a3', b3 c]
    · rw [if_neg c, a3']
