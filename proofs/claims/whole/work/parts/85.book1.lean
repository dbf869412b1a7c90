/-! a fund's booking day is a right day with its units set beforehand -/
theorem rv_fW {f D nd e : Nat} {H : Nat → Int} {X : bz_Mm} (day : Int) (w : Nat) (he : e < 4) (hn : (X 81 43).toNat ≤ 6) : rv (fW f D nd H X) e day w = rv X e day w := rv_c (M := X) (M' := fW f D nd H X) (fun q _ _ => fW_o (by omega)) (by rw [fW_o (by decide)]) hn e he day w
theorem sAs_fW {f D nd : Nat} {H : Nat → Int} {X : bz_Mm} (hf : f < 4) (hcu : ∀ p, p < 8 → 0 ≤ X 92 p ∧ X 92 p < 3) : sAs f D (fW f D nd H X) = sAs f D X := by
  unfold sAs
  have e1 : sumr (tPx f D (fW f D nd H X)) 0 8 (fW f D nd H X 188 f) = sumr (tPx f D X) 0 8 (X 188 f) := by
    rw [fW_o (show (188 : Nat) ≠ 107 by decide)]
    refine sumr_c 8 0 _ (fun j _ y => ?_)
    have cu := hcu j (by omega)
    unfold tPx
    rw [fW_o (show 191 + f ≠ 107 by omega), fW_o (show 158 + j ≠ 107 by omega), fW_o (show (92 : Nat) ≠ 107 by decide), fW_o (show 167 + (X 92 j).toNat ≠ 107 by omega)]
  rw [e1]
  refine sumr_c f 0 _ (fun j _ y => ?_)
  unfold tHe
  rw [fW_o (show 206 + j ≠ 107 by omega), fW_o (show 196 + j ≠ 107 by omega)]
theorem sPr_new {f D nd : Nat} {Y : bz_Mm} (hf : f < 4) (hcu : ∀ p, p < 8 → 0 ≤ Y 92 p ∧ Y 92 p < 3) (hn : (Y 81 43).toNat ≤ 6) (h5 : ∀ i, i < nd → r32 (Y 105 i)) (hr : ∀ i, i < nd → r32 (uN Y f D (Y (206 + f)) i)) (h3 : ∀ i, i < nd → 0 ≤ Y 103 i ∧ Y 103 i < 20) : sPr f D nd 0 (fW f D nd (Y (206 + f)) Y) = fW f D nd (Y (206 + f)) (sPr f D nd 1 Y) := by
  have eA := sAs_fW (f := f) (D := D) (nd := nd) (H := Y (206 + f)) hf hcu
  have eF : sFee (fW f D nd (Y (206 + f)) Y) f D = sFee Y f D := by
    unfold sFee; rw [eA, rv_fW _ _ hf hn]
  have eM : sMade (fW f D nd (Y (206 + f)) Y) f D = sMade Y f D := by
    unfold sMade; rw [eA, eF, fW_o (by decide)]
  have pm : ∀ q, q ≠ 188 → q ≠ 201 + f → sPm f D Y q = Y q := fun q x y => by unfold sPm; rw [st_ne y, st_ne x]
  have eP : sPm f D (fW f D nd (Y (206 + f)) Y) = fW f D nd (Y (206 + f)) (sPm f D Y) := by
    unfold sPm
    rw [eF, fW_o (show (188 : Nat) ≠ 107 by decide), st_fW (by decide) (by decide) (by decide) (by decide) (by decide), st_fW (by omega) (by omega) (by omega) (by omega) (by omega)]
  have p206 : sPm f D Y (206 + f) = Y (206 + f) := pm _ (by omega) (by omega)
  have hc := hdN_c (K := Y) (K' := sPm f D Y) (H := Y (206 + f)) (f := f) (D := D) (pm 103 (by decide) (by omega)) (pm 104 (by decide) (by omega)) (pm 105 (by decide) (by omega)) (pm 106 (by decide) (by omega))
  obtain ⟨l1, l2⟩ := fl_new (f := f) (D := D) (nd := nd) (W := sPm f D Y) hf (by rw [pm 105 (by decide) (by omega)]; exact h5) (fun i hi => by rw [p206, (hc i).2]; exact hr i hi) (by rw [pm 103 (by decide) (by omega)]; exact h3)
  rw [p206] at l1 l2
  have o2 : ∀ q, q ≠ 222 → (sFl f D nd 1 (sPm f D Y)).2 q = sPm f D Y q := fun q hq => by
    unfold sFl
    rw [gFl_o hq]
    exact itr_o (fun M i => by unfold gFc; exact st_ne hq) _ _ _
  unfold sPr
  rw [eP, l1, l2, eM]
  have eS : sSw (fW f D nd (Y (206 + f)) (sFl f D nd 1 (sPm f D Y)).2) f D (sMade Y f D) (sFl f D nd 1 (sPm f D Y)).1 = sSw (sFl f D nd 1 (sPm f D Y)).2 f D (sMade Y f D) (sFl f D nd 1 (sPm f D Y)).1 := by
    unfold sSw
    have hn2 : ((sFl f D nd 1 (sPm f D Y)).2 81 43).toNat ≤ 6 := by rw [o2 81 (by decide), pm 81 (by decide) (by omega)]; exact hn
    rw [rv_fW _ _ hf hn2, rv_fW _ _ hf hn2, fW_o (by decide)]
  rw [eS, st_fW (by omega) (by omega) (by omega) (by omega) (by omega)]
theorem gGo_W {f D nt nd nl : Nat} {W : bz_Mm} (hf : f < 4) (hW : WOK nl nt nd W) (h5 : ∀ i, i < nd → r32 (W 105 i)) (hr : ∀ i, i < nd → r32 (uN W f D (W (206 + f)) i)) (ho : opn (W 82) D = true) : gGo D nt nd 0 1 W f = gGo D nt nd 0 0 (fW f D nd (W (206 + f)) W) f := by
  obtain ⟨g1, g2, g3, g4⟩ := gGo_1 (D := D) hf hW
  unfold gGo sMo
  rw [if_pos ho, if_pos (show opn (fW f D nd (W (206 + f)) W 82) D = true by rw [fW_o (by decide)]; exact ho), if_pos rfl, if_pos rfl, sPap_fW hf hW.1, itr_fW gFe_fW]
  generalize itr (gFe f D) 0 nd (sPap f D nt W) = Y at g1 g2 g3 g4
  have yl : ∀ q, q < 188 → Y q = W q := fun q hq => g4 q (by omega) (by omega)
  have y206 : Y (206 + f) = W (206 + f) := g4 _ (by omega) (by omega)
  have n43 : (W 81 43).toNat ≤ 6 := by have := hW.2.2.2.2.1; have := hW.2.2.2.2.2.1; omega
  have hc := hdN_c (K := W) (K' := Y) (H := W (206 + f)) (f := f) (D := D) (yl 103 (by decide)) (yl 104 (by decide)) (yl 105 (by decide)) (yl 106 (by decide))
  have sp := sPr_new (f := f) (D := D) (nd := nd) (Y := Y) hf (by rw [yl 92 (by decide)]; exact hW.1) (by rw [yl 81 (by decide)]; exact n43) (by rw [yl 105 (by decide)]; exact h5) (fun i hi => by rw [y206, (hc i).2]; exact hr i hi) (fun i hi => by rw [yl 103 (by decide)]; exact (hW.2.2.1 i hi).2)
  rw [y206] at sp
  rw [sp]
  -- the deals
  have zo : ∀ q, q ≠ 188 → q ≠ 196 + f → q ≠ 201 + f → q ≠ 222 → sPr f D nd 1 Y q = Y q := fun q x1 x2 x3 x4 => by
    unfold sPr
    rw [st_ne x2]
    unfold sFl
    rw [gFl_o x4]
    show itr (gFc f) 0 20 (sPm f D Y) q = _
    rw [itr_o (fun M i => by unfold gFc; exact st_ne x4)]
    unfold sPm
    rw [st_ne x3, st_ne x1]
  have zl : ∀ q, q < 188 → sPr f D nd 1 Y q = W q := fun q hq => by rw [zo q (by omega) (by omega) (by omega) (by omega)]; exact yl q hq
  have z206 : sPr f D nd 1 Y (206 + f) = W (206 + f) := by rw [zo _ (by omega) (by omega) (by omega) (by omega)]; exact y206
  have hc2 := hdN_c (K := W) (K' := sPr f D nd 1 Y) (H := W (206 + f)) (f := f) (D := D) (zl 103 (by decide)) (zl 104 (by decide)) (zl 105 (by decide)) (zl 106 (by decide))
  have dn := gDe_new (f := f) (D := D) (nd := nd) (Z := sPr f D nd 1 Y) hf (by rw [zl 105 (by decide)]; exact h5) (fun i hi => by rw [z206, (hc2 i).2]; exact hr i hi) (fun i hi => by rw [zl 103 (by decide)]; exact (hW.2.2.1 i hi).2)
  rw [z206] at dn
  exact dn.symm
/-! the class fills deals: the same units -/
theorem hdN_p {K : bz_Mm} {f D nd : Nat} {H : Nat → Int} (hH : ∀ w, w < 20 → 0 ≤ H w ∧ H w ≤ 10000000) (h3 : ∀ i, i < nd → 0 ≤ K 103 i ∧ K 103 i < 20) (h5 : ∀ i, i < nd → -10000 ≤ K 105 i ∧ K 105 i ≤ 10000) : ∀ i : Nat, i ≤ nd → i ≤ 200 → (∀ w, w < 20 → 0 ≤ hdN K f D H i w ∧ hdN K f D H i w ≤ 10000000 + 10000 * (i : Int)) := by
  intro i
  induction i with
  | zero => intro _ _ w hw; have := hH w hw; exact ⟨this.1, by show H w ≤ _; omega⟩
  | succ i ih =>
    intro hi h2 w hw
    have g := ih (by omega) (by omega)
    have h := h5 i (by omega)
    have h3' := h3 i (by omega)
    rw [hdN_S]
    by_cases c : K 104 i = f ∧ K 106 i = D
    · rw [if_pos c]
      by_cases z : w = (K 103 i).toNat
      · rw [z, ud_eq]
        have hb := g (K 103 i).toNat (by omega)
        unfold uN unX
        by_cases p : 0 < K 105 i
        · rw [if_pos p]; omega
        · rw [if_neg p, w32_id (x := -K 105 i) (by omega) (by omega), uM_near ⟨by omega, by omega⟩ ⟨by decide, by decide⟩ ⟨by omega, by omega⟩, if_neg (by omega)]
          split <;> omega
      · rw [ud_ne z]; have := g w hw; omega
    · rw [if_neg c]; have := g w hw; omega
theorem uN_v {K : bz_Mm} {f D nd i : Nat} {H : Nat → Int} (hH : ∀ w, w < 20 → 0 ≤ H w ∧ H w ≤ 10000000) (h3 : ∀ i, i < nd → 0 ≤ K 103 i ∧ K 103 i < 20) (h5 : ∀ i, i < nd → -10000 ≤ K 105 i ∧ K 105 i ≤ 10000) (hi : i < nd) (h2 : nd ≤ 200) : uN K f D H i = (if K 105 i < -hdN K f D H i (K 103 i).toNat then -hdN K f D H i (K 103 i).toNat else K 105 i) ∧ (-10000 ≤ uN K f D H i ∧ uN K f D H i ≤ 10000) ∧ (0 < K 105 i → 0 ≤ uN K f D H i) ∧ (K 105 i ≤ 0 → uN K f D H i ≤ 0) := by
  have g := hdN_p (f := f) (D := D) hH h3 h5 i (by omega) (by omega) (K 103 i).toNat (by have := h3 i hi; omega)
  have h := h5 i hi
  unfold uN unX
  generalize hdN K f D H i (K 103 i).toNat = a at g
  generalize K 105 i = m at h
  by_cases p : 0 < m
  · rw [if_pos p, if_neg (by omega)]; omega
  · rw [if_neg p, w32_id (x := -m) (by omega) (by omega), uM_near ⟨by omega, by omega⟩ ⟨by decide, by decide⟩ ⟨by omega, by omega⟩, if_neg (by omega)]
    repeat' split
    all_goals omega
