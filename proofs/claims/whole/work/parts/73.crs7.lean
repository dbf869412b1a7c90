/-! a fund's day in the reference, in closed form -/
theorem rv_c {M M' : bz_Mm} (h : ∀ q, 119 ≤ q → q ≤ 154 → M' q = M q) (h43 : M' 81 43 = M 81 43) (hn : (M 81 43).toNat ≤ 6) (f : Nat) (hf : f < 4) (day : Int) (w : Nat) : rv M' f day w = rv M f day w := by
  unfold rv
  rw [h43, h 154 (by decide) (by decide)]
  have := lw_r (M 154) day (M 81 43).toNat
  by_cases c : lw (M 154) day (M 81 43).toNat = -1
  · rw [if_pos c, if_pos c]
  · rw [if_neg c, if_neg c]
    exact ru_c (h _ (by omega) (by omega)) (h _ (by omega) (by omega))
/-- what the spec's closed forms want of a memory -/
def WOK (nl nt nd : Nat) (W : bz_Mm) : Prop := (∀ p, p < 8 → 0 ≤ W 92 p ∧ W 92 p < 3) ∧ (∀ u, u < nt → 0 ≤ W 98 u) ∧ (∀ i, i < nd → r32 (W 107 i) ∧ 0 ≤ W 103 i ∧ W 103 i < 20) ∧ iv_la W nl
theorem WOK.c {nl nt nd : Nat} {W W' : bz_Mm} (h : WOK nl nt nd W) (h2 : ∀ q, q < 188 → W' q = W q) : WOK nl nt nd W' := by
  obtain ⟨a, b, c, e⟩ := h
  refine ⟨by rw [h2 92 (by decide)]; exact a, by rw [h2 98 (by decide)]; exact b, by rw [h2 107 (by decide), h2 103 (by decide)]; exact c, iv_la.c (fun q hq => h2 q (by omega)) (by rw [h2 81 (by decide)]) e⟩
/-- cash ahead of assets -/
def c2X (f D nt nd : Nat) (W : bz_Mm) : Int := W 188 f + dcx W f D (W 81 61) nt (W (191 + f)) (fun p => W (180 + p) D) (fun p => W (171 + p) D) (fun p => W (167 + (W 92 p).toNat) D) + feS W f D nd
/-- pieces behind trades -/
def p2X (f D nt : Nat) (W : bz_Mm) (p : Nat) : Int := pcT W f D (W 81 61) p (pSp2 (W (191 + f) p) (W (180 + p) D)) nt
theorem gGo_1 {f D nt nd nl : Nat} {W : bz_Mm} (hf : f < 4) (hW : WOK nl nt nd W) : itr (gFe f D) 0 nd (sPap f D nt W) 188 f = c2X f D nt nd W ∧ (∀ j, j ≠ f → itr (gFe f D) 0 nd (sPap f D nt W) 188 j = W 188 j) ∧ (∀ p, p < 8 → itr (gFe f D) 0 nd (sPap f D nt W) (191 + f) p = p2X f D nt W p) ∧ ∀ q, q ≠ 188 → q ≠ 191 + f → itr (gFe f D) 0 nd (sPap f D nt W) q = W q := by
  obtain ⟨s1, s2, s3, s4⟩ := sPap_cl (f := f) (d := D) (nt := nt) (W := W) hf hW.1 hW.2.1
  obtain ⟨f1, f2, f3⟩ := gFe_cl (f := f) (D := D) (W := sPap f D nt W) nd
  refine ⟨?_, fun j hj => by rw [f2 j hj, s4 j hj], fun p hp => by rw [f3 _ (by omega), s1 p hp]; rfl, fun q x y => by rw [f3 q x, s3 q x y]⟩
  rw [f1, s2]
  have e : feS (sPap f D nt W) f D nd = feS W f D nd := feS_c nd (fun i _ => by
    rw [s3 103 (by decide) (by omega), s3 106 (by decide) (by omega), s3 105 (by decide) (by omega), s3 189 (by decide) (by omega)]
    exact ⟨rfl, rfl, rfl, fun _ _ => rfl⟩)
  rw [e]
  rfl
theorem gGo_N {f D nt nd nl : Nat} {bk : Int} {W : bz_Mm} (hf : f < 4) (hW : WOK nl nt nd W) (ho : ¬ opn (W 82) D = true) : gGo D nt nd bk 0 W f 188 f = c2X f D nt nd W ∧ (∀ j, j ≠ f → gGo D nt nd bk 0 W f 188 j = W 188 j) ∧ (∀ p, p < 8 → gGo D nt nd bk 0 W f (191 + f) p = p2X f D nt W p) ∧ ∀ q, q ≠ 188 → q ≠ 191 + f → gGo D nt nd bk 0 W f q = W q := by
  unfold gGo
  rw [if_neg ho]
  exact gGo_1 hf hW
/-- assets in the reference -/
def a2X (f D nt nd : Nat) (W : bz_Mm) : Int := sumr (tHe f D W) 0 f (sumr (fun p => (w64 (p2X f D nt W p * w32 (W (158 + p) D) * w32 (W (167 + (W 92 p).toNat) D))).tdiv 1000) 0 8 (c2X f D nt nd W))
def feX2 (f D nt nd : Nat) (W : bz_Mm) : Int := feeX (a2X f D nt nd W) (rv W f D 0)
def prX2 (f D nt nd : Nat) (W : bz_Mm) : Int := swX (madeX (a2X f D nt nd W) (feX2 f D nt nd W) (W 210 f)) (fwS W f D nd) (W 210 f) (rv W f D 2) (rv W f D 1)
theorem gGo_R {f D nt nd nl : Nat} {W : bz_Mm} (hf : f < 4) (hD : D < 260) (hnd : nd ≤ 200) (hW : WOK nl nt nd W) (hu : ∀ i, i < nd → -10000 ≤ W 107 i ∧ W 107 i ≤ 10000) (hal : 0 ≤ W 210 f ∧ W 210 f ≤ 2000000) (ho : opn (W 82) D = true) : (∀ i, gGo D nt nd 0 0 W f 189 i = if i < nd ∧ W 104 i = f ∧ W 106 i = D then coX (W 107 i) (prX2 f D nt nd W) else W 189 i) ∧ gGo D nt nd 0 0 W f 188 f = c2X f D nt nd W - feX2 f D nt nd W + sdl W f D (fun i => sgX (W 107 i) (coX (W 107 i) (prX2 f D nt nd W))) nd ∧ (∀ j, j ≠ f → gGo D nt nd 0 0 W f 188 j = W 188 j) ∧ (∀ p, p < 8 → gGo D nt nd 0 0 W f (191 + f) p = p2X f D nt W p) ∧ gGo D nt nd 0 0 W f (196 + f) = ud (W (196 + f)) D (prX2 f D nt nd W) ∧ gGo D nt nd 0 0 W f (201 + f) = ud (W (201 + f)) D (feX2 f D nt nd W) ∧ (∀ w : Nat, gGo D nt nd 0 0 W f (206 + f) w = W (206 + f) w + sdl W f D (fun i => if W 103 i = (w : Int) then W 107 i else 0) nd) ∧ gGo D nt nd 0 0 W f 210 f = W 210 f + sdl W f D (W 107) nd ∧ (∀ j, j ≠ f → gGo D nt nd 0 0 W f 210 j = W 210 j) ∧ ∀ q, q ≠ 188 → q ≠ 189 → q ≠ 191 + f → q ≠ 196 + f → q ≠ 201 + f → q ≠ 206 + f → q ≠ 210 → q ≠ 222 → gGo D nt nd 0 0 W f q = W q := by
  obtain ⟨g1, g2, g3, g4⟩ := gGo_1 (D := D) hf hW
  have eG : gGo D nt nd 0 0 W f = itr (gDe f D 0 0) 0 nd (sPr f D nd 0 (itr (gFe f D) 0 nd (sPap f D nt W))) := by
    unfold gGo sMo
    rw [if_pos ho, if_pos rfl]
  generalize hY : itr (gFe f D) 0 nd (sPap f D nt W) = Y at g1 g2 g3 g4 eG
  have yl : ∀ q, q < 188 → Y q = W q := fun q hq => g4 q (by omega) (by omega)
  have hla := hW.2.2.2
  have n43 : (W 81 43).toNat ≤ 6 := by have := hla.2.1; have := hla.2.2.1; omega
  have rvY : ∀ w, rv Y f D w = rv W f D w := fun w => rv_c (fun q x y => yl q (by omega)) (by rw [yl 81 (by decide)]) n43 f hf D w
  -- assets
  have eA : sAs f D Y = a2X f D nt nd W := by
    unfold sAs a2X
    have e1 : sumr (tPx f D Y) 0 8 (Y 188 f) = sumr (fun p => (w64 (p2X f D nt W p * w32 (W (158 + p) D) * w32 (W (167 + (W 92 p).toNat) D))).tdiv 1000) 0 8 (c2X f D nt nd W) := by
      rw [g1]
      refine sumr_c 8 0 _ (fun j _ y => ?_)
      have cu := hW.1 j (by omega)
      unfold tPx
      rw [g3 j (by omega), yl (158 + j) (by omega), yl 92 (by decide), yl (167 + (W 92 j).toNat) (by omega)]
    rw [e1]
    refine sumr_c f 0 _ (fun j _ y => ?_)
    unfold tHe
    rw [g4 (206 + j) (by omega) (by omega), g4 (196 + j) (by omega) (by omega)]
  have y210 : Y 210 = W 210 := g4 210 (by omega) (by omega)
  have eF : sFee Y f D = feX2 f D nt nd W := by
    unfold sFee feX2 feeX
    rw [eA, rvY]
  have eM : sMade Y f D = madeX (a2X f D nt nd W) (feX2 f D nt nd W) (W 210 f) := by
    unfold sMade madeX
    rw [eA, eF, y210, r64_w (x := W 210 f) ⟨by omega, by omega⟩]
  -- flow
  have pm : ∀ q, q ≠ 188 → q ≠ 201 + f → sPm f D Y q = Y q := fun q x y => by unfold sPm; rw [st_ne y, st_ne x]
  obtain ⟨l1, l2⟩ := sFl_cl (f := f) (D := D) (nd := nd) (W := sPm f D Y) (fun i hi => by rw [pm 107 (by decide) (by omega), yl 107 (by decide)]; exact (hW.2.2.1 i hi).1)
  have fw : fwS (sPm f D Y) f D nd = fwS W f D nd := by
    have : ∀ n : Nat, fwS (sPm f D Y) f D n = fwS W f D n := by
      intro n
      induction n with
      | zero => rfl
      | succ n ih => rw [fwS_S, fwS_S, ih, pm 104 (by decide) (by omega), pm 106 (by decide) (by omega), pm 107 (by decide) (by omega), yl 104 (by decide), yl 106 (by decide), yl 107 (by decide)]
    exact this nd
  have fr := fwS_r (R := W) (f := f) (D := D) (nd := nd) hu nd (Nat.le_refl nd)
  -- price
  obtain ⟨_, _, o2, _⟩ := rule_M (F := 400) (w := 2) (by decide) hla hf hD (by decide)
  have o2' : 0 ≤ rv W f D 2 ∧ rv W f D 2 ≤ 10000 := ⟨o2.2, o2.1⟩
  have z210 : (sFl f D nd 0 (sPm f D Y)).2 210 = W 210 := by rw [l2 210 (by decide), pm 210 (by decide) (by omega), y210]
  have rvZ : ∀ w, rv (sFl f D nd 0 (sPm f D Y)).2 f D w = rv W f D w := fun w => rv_c (fun q x y => by rw [l2 q (by omega), pm q (by omega) (by omega), yl q (by omega)]) (by rw [l2 81 (by decide), pm 81 (by decide) (by omega), yl 81 (by decide)]) n43 f hf D w
  have eP : sSw (sFl f D nd 0 (sPm f D Y)).2 f D (sMade Y f D) (sFl f D nd 0 (sPm f D Y)).1 = prX2 f D nt nd W := by
    unfold sSw prX2 swX
    rw [l1, fw, rvZ, rvZ, z210, eM]
    generalize fwS W f D nd = g at fr
    have mur : 0 ≤ rv W f D 2 * W 210 f ∧ rv W f D 2 * W 210 f ≤ 20000000000 := by
      refine ⟨Int.mul_nonneg o2'.1 hal.1, ?_⟩
      have := Int.mul_le_mul o2'.2 hal.2 hal.1 (by decide)
      omega
    have abr : 0 ≤ (if g < 0 then -g else g) ∧ (if g < 0 then -g else g) ≤ 2000000 := by split <;> omega
    rw [r64_w (x := g) ⟨by omega, by omega⟩, r64_w (x := rv W f D 2 * W 210 f) ⟨by omega, by omega⟩, r64_w (x := 10000 * (if g < 0 then -g else g)) ⟨by omega, by omega⟩]
  have sp : ∀ q, q ≠ 188 → q ≠ 196 + f → q ≠ 201 + f → q ≠ 222 → sPr f D nd 0 Y q = Y q := fun q x1 x2 x3 x4 => by
    unfold sPr
    rw [st_ne x2, l2 q x4, pm q x1 x3]
  have sp196 : sPr f D nd 0 Y (196 + f) = ud (W (196 + f)) D (prX2 f D nt nd W) := by
    unfold sPr
    rw [st_eq, eP, l2 (196 + f) (by omega), pm (196 + f) (by omega) (by omega), g4 (196 + f) (by omega) (by omega)]
  have sp201 : sPr f D nd 0 Y (201 + f) = ud (W (201 + f)) D (feX2 f D nt nd W) := by
    unfold sPr
    rw [st_ne (by omega), l2 (201 + f) (by omega)]
    unfold sPm
    rw [st_eq, st_ne (by omega), eF, g4 (201 + f) (by omega) (by omega)]
  have sp188 : sPr f D nd 0 Y 188 = ud (Y 188) f (c2X f D nt nd W - feX2 f D nt nd W) := by
    unfold sPr
    rw [st_ne (by omega), l2 188 (by decide)]
    unfold sPm
    rw [st_ne (by omega), st_eq, eF, g1]
  generalize sPr f D nd 0 Y = Z at sp sp196 sp201 sp188 eG
  have zl : ∀ q, q < 188 → Z q = W q := fun q hq => by rw [sp q (by omega) (by omega) (by omega) (by omega)]; exact yl q hq
  obtain ⟨d1, d2, d3, d4, d5, d6, d7⟩ := gDe_cl (f := f) (D := D) (nd := nd) (bk := 0) (W := Z) hf (fun i hi => by rw [zl 107 (by decide), zl 103 (by decide)]; exact hW.2.2.1 i hi)
  rw [← eG] at d1 d2 d3 d4 d5 d6 d7
  have cD : ∀ i, coD f D 0 Z i = coX (W 107 i) (prX2 f D nt nd W) := fun i => by
    unfold coD
    rw [if_pos rfl, zl 107 (by decide), sp196, ud_eq]
  have zo : ∀ q, q ≠ 188 → q ≠ 191 + f → q ≠ 196 + f → q ≠ 201 + f → q ≠ 222 → Z q = W q := fun q x1 x2 x3 x4 x5 => by rw [sp q x1 x3 x4 x5]; exact g4 q x1 x2
  refine ⟨fun i => ?_, ?_, fun j hj => ?_, fun p hp => ?_, ?_, ?_, fun w => ?_, ?_, fun j hj => ?_, fun q x1 x2 x3 x4 x5 x6 x7 x8 => ?_⟩
  · rw [d1 i, zl 104 (by decide), zl 106 (by decide), cD, zo 189 (by decide) (by omega) (by omega) (by omega) (by decide)]
  · rw [d2, sp188, ud_eq]
    congr 1
    refine sdl_c nd (fun i _ => ⟨⟨by rw [zl 104 (by decide)], by rw [zl 106 (by decide)]⟩, fun _ _ => ?_⟩)
    rw [cD, zl 107 (by decide)]
  · rw [d3 j hj, sp188, ud_ne hj, g2 j hj]
  · rw [d7 (191 + f) (by omega) (by omega) (by omega) (by omega), sp (191 + f) (by omega) (by omega) (by omega) (by omega), g3 p hp]
  · rw [d7 (196 + f) (by omega) (by omega) (by omega) (by omega)]; exact sp196
  · rw [d7 (201 + f) (by omega) (by omega) (by omega) (by omega)]; exact sp201
  · rw [d4 w, zo (206 + f) (by omega) (by omega) (by omega) (by omega) (by omega)]
    congr 1
    refine sdl_c nd (fun i _ => ⟨⟨by rw [zl 104 (by decide)], by rw [zl 106 (by decide)]⟩, fun _ _ => ?_⟩)
    rw [zl 103 (by decide), zl 107 (by decide)]
  · rw [d5, zo 210 (by decide) (by omega) (by omega) (by omega) (by decide)]
    congr 1
    exact sdl_c nd (fun i _ => ⟨⟨by rw [zl 104 (by decide)], by rw [zl 106 (by decide)]⟩, fun _ _ => by rw [zl 107 (by decide)]⟩)
  · rw [d6 j hj, zo 210 (by decide) (by omega) (by omega) (by omega) (by decide)]
  · rw [d7 q x1 x2 x6 x7]; exact zo q x1 x3 x4 x5 x8
theorem gGo_B {f D nt nd nl : Nat} {W : bz_Mm} (hf : f < 4) (hW : WOK nl nt nd W) (ho : opn (W 82) D = true) : (∀ i, gGo D nt nd 1 0 W f 189 i = if i < nd ∧ W 104 i = f ∧ W 106 i = D then W 109 i else W 189 i) ∧ gGo D nt nd 1 0 W f 188 f = c2X f D nt nd W - W (217 + f) D + sdl W f D (fun i => sgX (W 107 i) (W 109 i)) nd ∧ (∀ j, j ≠ f → gGo D nt nd 1 0 W f 188 j = W 188 j) ∧ (∀ p, p < 8 → gGo D nt nd 1 0 W f (191 + f) p = p2X f D nt W p) ∧ (∀ w : Nat, gGo D nt nd 1 0 W f (206 + f) w = W (206 + f) w + sdl W f D (fun i => if W 103 i = (w : Int) then W 107 i else 0) nd) ∧ gGo D nt nd 1 0 W f 210 f = W 210 f + sdl W f D (W 107) nd ∧ (∀ j, j ≠ f → gGo D nt nd 1 0 W f 210 j = W 210 j) ∧ ∀ q, q ≠ 188 → q ≠ 189 → q ≠ 191 + f → q ≠ 206 + f → q ≠ 210 → gGo D nt nd 1 0 W f q = W q := by
  obtain ⟨g1, g2, g3, g4⟩ := gGo_1 (D := D) hf hW
  have eG : gGo D nt nd 1 0 W f = itr (gDe f D 1 0) 0 nd (st_ (itr (gFe f D) 0 nd (sPap f D nt W)) 188 f (itr (gFe f D) 0 nd (sPap f D nt W) 188 f - itr (gFe f D) 0 nd (sPap f D nt W) (217 + f) D)) := by
    unfold gGo sMo
    rw [if_pos ho, if_neg (by decide)]
  rw [g1, g4 (217 + f) (by omega) (by omega)] at eG
  generalize itr (gFe f D) 0 nd (sPap f D nt W) = Y at g1 g2 g3 g4 eG
  have z188 : st_ Y 188 f (c2X f D nt nd W - W (217 + f) D) 188 = ud (Y 188) f (c2X f D nt nd W - W (217 + f) D) := st_eq _ _ _ _
  have zo : ∀ q, q ≠ 188 → q ≠ 191 + f → st_ Y 188 f (c2X f D nt nd W - W (217 + f) D) q = W q := fun q x y => by rw [st_ne x]; exact g4 q x y
  have z191 : ∀ p, p < 8 → st_ Y 188 f (c2X f D nt nd W - W (217 + f) D) (191 + f) p = p2X f D nt W p := fun p hp => by rw [st_ne (by omega)]; exact g3 p hp
  generalize st_ Y 188 f (c2X f D nt nd W - W (217 + f) D) = Z at z188 zo z191 eG
  have zl : ∀ q, q < 188 → Z q = W q := fun q hq => zo q (by omega) (by omega)
  obtain ⟨d1, d2, d3, d4, d5, d6, d7⟩ := gDe_cl (f := f) (D := D) (nd := nd) (bk := 1) (W := Z) hf (fun i hi => by rw [zl 107 (by decide), zl 103 (by decide)]; exact hW.2.2.1 i hi)
  rw [← eG] at d1 d2 d3 d4 d5 d6 d7
  have cD : ∀ i, coD f D 1 Z i = W 109 i := fun i => by
    unfold coD
    rw [if_neg (by decide), zl 109 (by decide)]
  refine ⟨fun i => ?_, ?_, fun j hj => ?_, fun p hp => ?_, fun w => ?_, ?_, fun j hj => ?_, fun q x1 x2 x3 x6 x7 => ?_⟩
  · rw [d1 i, zl 104 (by decide), zl 106 (by decide), cD, zo 189 (by decide) (by omega)]
  · rw [d2, z188, ud_eq]
    congr 1
    refine sdl_c nd (fun i _ => ⟨⟨by rw [zl 104 (by decide)], by rw [zl 106 (by decide)]⟩, fun _ _ => ?_⟩)
    rw [cD, zl 107 (by decide)]
  · rw [d3 j hj, z188, ud_ne hj, g2 j hj]
  · rw [d7 (191 + f) (by omega) (by omega) (by omega) (by omega), z191 p hp]
  · rw [d4 w, zo (206 + f) (by omega) (by omega)]
    congr 1
    refine sdl_c nd (fun i _ => ⟨⟨by rw [zl 104 (by decide)], by rw [zl 106 (by decide)]⟩, fun _ _ => ?_⟩)
    rw [zl 103 (by decide), zl 107 (by decide)]
  · rw [d5, zo 210 (by decide) (by omega)]
    congr 1
    exact sdl_c nd (fun i _ => ⟨⟨by rw [zl 104 (by decide)], by rw [zl 106 (by decide)]⟩, fun _ _ => by rw [zl 107 (by decide)]⟩)
  · rw [d6 j hj, zo 210 (by decide) (by omega)]
  · rw [d7 q x1 x2 x6 x7]; exact zo q x1 x3
