/-! booking: how many units a deal is of -/
def unX (m has : Int) : Int := if 0 < m then m else -(fM_near (w32 (-m)) 0 has)
/-- what each has, after the first i deals of a fund's day; and a deal's units -/
def hdN (K : bz_Mm) (f D : Nat) (H : Nat → Int) : Nat → Nat → Int
  | 0 => H
  | i + 1 => if K 104 i = f ∧ K 106 i = D then ud (hdN K f D H i) (K 103 i).toNat (hdN K f D H i (K 103 i).toNat + unX (K 105 i) (hdN K f D H i (K 103 i).toNat)) else hdN K f D H i
def uN (K : bz_Mm) (f D : Nat) (H : Nat → Int) (i : Nat) : Int := unX (K 105 i) (hdN K f D H i (K 103 i).toNat)
theorem hdN_S (K : bz_Mm) (f D : Nat) (H : Nat → Int) (i : Nat) : hdN K f D H (i + 1) = if K 104 i = f ∧ K 106 i = D then ud (hdN K f D H i) (K 103 i).toNat (hdN K f D H i (K 103 i).toNat + uN K f D H i) else hdN K f D H i := rfl
/-- the reference memory with those units set -/
def fW (f D nd : Nat) (H : Nat → Int) (W : bz_Mm) : bz_Mm := fun q => if q = 107 then (fun i => if i < nd ∧ W 104 i = f ∧ W 106 i = D then uN W f D H i else W 107 i) else W q
theorem fW_o {f D nd q : Nat} {H : Nat → Int} {W : bz_Mm} (h : q ≠ 107) : fW f D nd H W q = W q := if_neg h
theorem fW_7 {f D nd : Nat} {H : Nat → Int} {W : bz_Mm} (i : Nat) : fW f D nd H W 107 i = if i < nd ∧ W 104 i = f ∧ W 106 i = D then uN W f D H i else W 107 i := by unfold fW; rw [if_pos rfl]
theorem hdN_c {K K' : bz_Mm} {f D : Nat} {H : Nat → Int} (h3 : K' 103 = K 103) (h4 : K' 104 = K 104) (h5 : K' 105 = K 105) (h6 : K' 106 = K 106) : ∀ i : Nat, hdN K' f D H i = hdN K f D H i ∧ uN K' f D H i = uN K f D H i := by
  intro i
  have g : ∀ i : Nat, hdN K' f D H i = hdN K f D H i := by
    intro i
    induction i with
    | zero => rfl
    | succ i ih =>
      show (if K' 104 i = f ∧ K' 106 i = D then ud (hdN K' f D H i) (K' 103 i).toNat (hdN K' f D H i (K' 103 i).toNat + unX (K' 105 i) (hdN K' f D H i (K' 103 i).toNat)) else hdN K' f D H i) = (if K 104 i = f ∧ K 106 i = D then ud (hdN K f D H i) (K 103 i).toNat (hdN K f D H i (K 103 i).toNat + unX (K 105 i) (hdN K f D H i (K 103 i).toNat)) else hdN K f D H i)
      rw [h3, h4, h5, h6, ih]
  refine ⟨g i, ?_⟩
  unfold uN
  rw [h3, h5, g i]
theorem sDo_1 {W : bz_Mm} {i : Nat} {has : Int} (h : r32 (W 105 i)) : sDo W i 1 has = unX (W 105 i) has := by
  unfold sDo unX
  rw [if_neg (by decide), r32_w h]
theorem sDo_0 {W : bz_Mm} {i : Nat} {has : Int} (h : r32 (W 107 i)) : sDo W i 0 has = W 107 i := by
  unfold sDo
  rw [if_pos rfl, r32_w h]
/-- memories that differ by units set beforehand -/
theorem st_fW {f D nd q j : Nat} {v : Int} {H : Nat → Int} {W : bz_Mm} (h3 : q ≠ 103) (h4 : q ≠ 104) (h5 : q ≠ 105) (h6 : q ≠ 106) (h7 : q ≠ 107) : st_ (fW f D nd H W) q j v = fW f D nd H (st_ W q j v) := by
  funext b i
  by_cases c : b = 107
  · subst c
    rw [st_ne (by omega), fW_7, fW_7, st_ne (by omega), st_ne (by omega), st_ne (show (107 : Nat) ≠ q by omega)]
    rw [(hdN_c (K := W) (K' := st_ W q j v) (H := H) (f := f) (D := D) (st_ne (by omega)) (st_ne (by omega)) (st_ne (by omega)) (st_ne (by omega)) i).2]
  · rw [fW_o c]
    by_cases e : b = q
    · subst e; rw [st_eq, st_eq, fW_o c]
    · rw [st_ne e, st_ne e, fW_o c]
theorem fW_at {f D nd i : Nat} {v : Int} {H : Nat → Int} {W : bz_Mm} (hi : i < nd) (h4 : W 104 i = f) (h6 : W 106 i = D) : fW f D nd H (st_ W 107 i v) = fW f D nd H W := by
  funext b j
  by_cases c : b = 107
  · subst c
    rw [fW_7, fW_7, st_ne (by decide), st_ne (by decide), (hdN_c (K := W) (K' := st_ W 107 i v) (H := H) (f := f) (D := D) (st_ne (by decide)) (st_ne (by decide)) (st_ne (by decide)) (st_ne (by decide)) j).2, st_eq]
    by_cases e : j = i
    · subst e; rw [if_pos ⟨hi, h4, h6⟩, if_pos ⟨hi, h4, h6⟩]
    · rw [ud_ne e]
  · rw [fW_o c, fW_o c, st_ne c]
/-- iterations that neither look at units nor change deals -/
theorem itr_fW {f D nd : Nat} {H : Nat → Int} {g : bz_Mm → Nat → bz_Mm} (hg : ∀ X i, g (fW f D nd H X) i = fW f D nd H (g X i)) : ∀ (m i : Nat) (X : bz_Mm), itr g i m (fW f D nd H X) = fW f D nd H (itr g i m X) := by
  intro m
  induction m with
  | zero => intro i X; rfl
  | succ m ih => intro i X; rw [itr_S, itr_S, hg, ih]
theorem gPs_fW {f D nd e : Nat} {H : Nat → Int} (X : bz_Mm) (p : Nat) (hp : p < 8) (he : e < 4) : gPs e D (fW f D nd H X) p = fW f D nd H (gPs e D X p) := by
  unfold gPs
  rw [fW_o (by omega), fW_o (by omega), st_fW (by omega) (by omega) (by omega) (by omega) (by omega)]
theorem sPap_fW {f D nd nt : Nat} {H : Nat → Int} {X : bz_Mm} (hf : f < 4) (hcu : ∀ p, p < 8 → 0 ≤ X 92 p ∧ X 92 p < 3) : sPap f D nt (fW f D nd H X) = fW f D nd H (sPap f D nt X) := by
  have a : ∀ (m i : Nat) (X : bz_Mm), i + m ≤ 8 → itr (gPs f D) i m (fW f D nd H X) = fW f D nd H (itr (gPs f D) i m X) := by
    intro m
    induction m with
    | zero => intro i X _; rfl
    | succ m ih => intro i X h; rw [itr_S, itr_S, gPs_fW X i (by omega) hf, ih (i + 1) _ (by omega)]
  have b : ∀ (m i : Nat) (X : bz_Mm), (∀ p, p < 8 → 0 ≤ X 92 p ∧ X 92 p < 3) → i + m ≤ 8 → itr (gPd f D) i m (fW f D nd H X) = fW f D nd H (itr (gPd f D) i m X) := by
    intro m
    induction m with
    | zero => intro i X _ _; rfl
    | succ m ih =>
      intro i X hc h
      have cu := hc i (by omega)
      have e : gPd f D (fW f D nd H X) i = fW f D nd H (gPd f D X i) := by
        unfold gPd
        rw [fW_o (show (92 : Nat) ≠ 107 by decide), fW_o (show (188 : Nat) ≠ 107 by decide), fW_o (show 191 + f ≠ 107 by omega), fW_o (show 171 + i ≠ 107 by omega), fW_o (show 167 + (X 92 i).toNat ≠ 107 by omega), st_fW (by decide) (by decide) (by decide) (by decide) (by decide)]
      rw [itr_S, itr_S, e, ih (i + 1) _ (by unfold gPd; rw [st_ne (by decide)]; exact hc) (by omega)]
  have c : ∀ X t, gPt f D (fW f D nd H X) t = fW f D nd H (gPt f D X t) := fun X t => by
    unfold gPt
    rw [fW_o (show (97 : Nat) ≠ 107 by decide), fW_o (show (99 : Nat) ≠ 107 by decide), fW_o (show (81 : Nat) ≠ 107 by decide), fW_o (show (102 : Nat) ≠ 107 by decide), fW_o (show (98 : Nat) ≠ 107 by decide), fW_o (show (100 : Nat) ≠ 107 by decide), fW_o (show (101 : Nat) ≠ 107 by decide), fW_o (show (188 : Nat) ≠ 107 by decide), fW_o (show 191 + f ≠ 107 by omega)]
    repeat' split
    all_goals first | rfl | rw [st_fW (by omega) (by omega) (by omega) (by omega) (by omega), st_fW (by decide) (by decide) (by decide) (by decide) (by decide)]
  unfold sPap
  rw [a 8 0 X (by decide), b 8 0 _ (by rw [itr_o (fun M i => by unfold gPs; exact st_ne (by omega))]; exact hcu) (by decide), itr_fW c]
theorem gFe_fW {f D nd : Nat} {H : Nat → Int} (X : bz_Mm) (i : Nat) : gFe f D (fW f D nd H X) i = fW f D nd H (gFe f D X i) := by
  unfold gFe
  rw [fW_o (show (103 : Nat) ≠ 107 by decide), fW_o (show (106 : Nat) ≠ 107 by decide), fW_o (show (105 : Nat) ≠ 107 by decide), fW_o (show (188 : Nat) ≠ 107 by decide), fW_o (show (189 : Nat) ≠ 107 by decide)]
  repeat' split
  all_goals first | rfl | rw [st_fW (by decide) (by decide) (by decide) (by decide) (by decide)]
theorem gFl_p (f D : Nat) (new a : Int) (X : bz_Mm) (i : Nat) : gFl f D new (a, X) i = if X 104 i = f then (if X 106 i = D then (a + sDo X i new (X 222 (X 103 i).toNat), st_ X 222 (X 103 i).toNat (X 222 (X 103 i).toNat + sDo X i new (X 222 (X 103 i).toNat))) else (a, X)) else (a, X) := rfl
theorem fl_new {f D nd : Nat} {W : bz_Mm} (hf : f < 4) (h5 : ∀ i, i < nd → r32 (W 105 i)) (hr : ∀ i, i < nd → r32 (uN W f D (W (206 + f)) i)) (h3 : ∀ i, i < nd → 0 ≤ W 103 i ∧ W 103 i < 20) : (sFl f D nd 0 (fW f D nd (W (206 + f)) W)).1 = (sFl f D nd 1 W).1 ∧ (sFl f D nd 0 (fW f D nd (W (206 + f)) W)).2 = fW f D nd (W (206 + f)) (sFl f D nd 1 W).2 := by
  generalize hH : W (206 + f) = H at hr
  have cF : ∀ X i, gFc f (fW f D nd H X) i = fW f D nd H (gFc f X i) := fun X i => by
    unfold gFc
    rw [fW_o (by omega), st_fW (by decide) (by decide) (by decide) (by decide) (by decide)]
  have had : ∀ (m i : Nat) (X : bz_Mm), (∀ w, w < i → X 222 w = H w) → X (206 + f) = H → f < 16 → ∀ w, w < i + m → itr (gFc f) i m X 222 w = H w := by
    intro m
    induction m with
    | zero => intro i X h _ _ w hw; exact h w (by omega)
    | succ m ih =>
      intro i X h h2 hf w hw
      rw [itr_S]
      refine ih (i + 1) _ (fun w hw => ?_) (by unfold gFc; rw [st_ne (by omega)]; exact h2) hf w (by omega)
      unfold gFc
      rw [st_eq]
      by_cases c : w = i
      · rw [c, ud_eq, h2]
      · rw [ud_ne c]; exact h w (by omega)
  have key : ∀ (m i : Nat) (a : Int) (X : bz_Mm), i + m = nd → (∀ q, q ≠ 222 → X q = W q) → (∀ w, w < 20 → X 222 w = hdN W f D H i w) → (ity (gFl f D 0) i m (a, fW f D nd H X)).1 = (ity (gFl f D 1) i m (a, X)).1 ∧ (ity (gFl f D 0) i m (a, fW f D nd H X)).2 = fW f D nd H (ity (gFl f D 1) i m (a, X)).2 := by
    intro m
    induction m with
    | zero => intro i a X _ _ _; exact ⟨rfl, rfl⟩
    | succ m ih =>
      intro i a X h1 hX h2
      have hw := h3 i (by omega)
      have u1 : ∀ h, sDo X i 1 h = unX (W 105 i) h := fun h => by rw [sDo_1 (by rw [hX 105 (by decide)]; exact h5 i (by omega)), hX 105 (by decide)]
      have hc := hdN_c (K := W) (K' := X) (H := H) (f := f) (D := D) (hX 103 (by decide)) (hX 104 (by decide)) (hX 105 (by decide)) (hX 106 (by decide))
      rw [ity_S, ity_S]
      by_cases c : W 104 i = f ∧ W 106 i = D
      · have eu : X 222 (W 103 i).toNat = hdN W f D H i (W 103 i).toNat := h2 _ (by omega)
        have u7 : fW f D nd H X 107 i = uN W f D H i := by
          rw [fW_7, hX 104 (by decide), hX 106 (by decide), if_pos ⟨by omega, c⟩, (hc i).2]
        have g1 : gFl f D 1 (a, X) i = (a + uN W f D H i, st_ X 222 (W 103 i).toNat (X 222 (W 103 i).toNat + uN W f D H i)) := by
          rw [gFl_p, hX 104 (by decide), hX 106 (by decide), hX 103 (by decide), if_pos c.1, if_pos c.2, u1, eu]
          rfl
        have g0 : gFl f D 0 (a, fW f D nd H X) i = (a + uN W f D H i, fW f D nd H (st_ X 222 (W 103 i).toNat (X 222 (W 103 i).toNat + uN W f D H i))) := by
          rw [gFl_p, fW_o (show (104 : Nat) ≠ 107 by decide), fW_o (show (106 : Nat) ≠ 107 by decide), fW_o (show (103 : Nat) ≠ 107 by decide), fW_o (show (222 : Nat) ≠ 107 by decide), hX 104 (by decide), hX 106 (by decide), hX 103 (by decide), if_pos c.1, if_pos c.2, sDo_0 (by rw [u7]; exact hr i (by omega)), u7, st_fW (by decide) (by decide) (by decide) (by decide) (by decide)]
        rw [g1, g0]
        refine ih (i + 1) _ _ (by omega) (fun q hq => by rw [st_ne hq]; exact hX q hq) (fun w hw2 => ?_)
        rw [st_eq, hdN_S, if_pos c]
        by_cases z : w = (W 103 i).toNat
        · rw [z, ud_eq, ud_eq, eu]
        · rw [ud_ne z, ud_ne z]; exact h2 w hw2
      · have no : ∀ (new : Int) (Y : bz_Mm), Y 104 = W 104 → Y 106 = W 106 → gFl f D new (a, Y) i = (a, Y) := fun new Y y4 y6 => by
          rw [gFl_p, y4, y6]
          by_cases c1 : W 104 i = (f : Int)
          · rw [if_pos c1, if_neg (fun q => c ⟨c1, q⟩)]
          · rw [if_neg c1]
        rw [no 1 X (hX 104 (by decide)) (hX 106 (by decide)), no 0 (fW f D nd H X) (by rw [fW_o (by decide)]; exact hX 104 (by decide)) (by rw [fW_o (by decide)]; exact hX 106 (by decide))]
        refine ih (i + 1) a X (by omega) hX (fun w hw2 => ?_)
        rw [hdN_S, if_neg c]; exact h2 w hw2
  unfold sFl
  rw [itr_fW cF]
  exact key nd 0 0 _ (by omega) (fun q hq => itr_o (fun M i => by unfold gFc; exact st_ne hq) _ _ _) (fun w hw => had 20 0 W (fun w hw => by omega) hH (by omega) w (by omega))
theorem gDe_new {f D nd : Nat} {Z : bz_Mm} (hf : f < 4) (h5 : ∀ i, i < nd → r32 (Z 105 i)) (hr : ∀ i, i < nd → r32 (uN Z f D (Z (206 + f)) i)) (h3 : ∀ i, i < nd → 0 ≤ Z 103 i ∧ Z 103 i < 20) : itr (gDe f D 0 0) 0 nd (fW f D nd (Z (206 + f)) Z) = itr (gDe f D 0 1) 0 nd Z := by
  generalize hH : Z (206 + f) = H at hr
  have key : ∀ (m i : Nat) (X : bz_Mm), i + m = nd → (∀ q, 103 ≤ q → q ≤ 106 → X q = Z q) → X (206 + f) = hdN Z f D H i → (∀ j, j < i → Z 104 j = f → Z 106 j = D → X 107 j = uN Z f D H j) → itr (gDe f D 0 0) i m (fW f D nd H X) = fW f D nd H (itr (gDe f D 0 1) i m X) ∧ (∀ q, 103 ≤ q → q ≤ 106 → itr (gDe f D 0 1) i m X q = Z q) ∧ ∀ j, j < nd → Z 104 j = f → Z 106 j = D → itr (gDe f D 0 1) i m X 107 j = uN Z f D H j := by
    intro m
    induction m with
    | zero => intro i X h0 h1 _ h4; exact ⟨rfl, h1, fun j hj => h4 j (by omega)⟩
    | succ m ih =>
      intro i X h0 hX h2 h4
      have hw := h3 i (by omega)
      have x4 : X 104 = Z 104 := hX 104 (by decide) (by decide)
      have x6 : X 106 = Z 106 := hX 106 (by decide) (by decide)
      have x3 : X 103 = Z 103 := hX 103 (by decide) (by decide)
      have x5 : X 105 = Z 105 := hX 105 (by decide) (by decide)
      have hc := hdN_c (K := Z) (K' := X) (H := H) (f := f) (D := D) x3 x4 x5 x6
      rw [itr_S, itr_S]
      by_cases c : Z 104 i = f ∧ Z 106 i = D
      · have u7 : fW f D nd H X 107 i = uN Z f D H i := by
          rw [fW_7, x4, x6, if_pos ⟨by omega, c⟩, (hc i).2]
        have eu : sDo X i 1 (X (206 + f) (Z 103 i).toNat) = uN Z f D H i := by
          rw [sDo_1 (by rw [x5]; exact h5 i (by omega)), x5, h2]; rfl
        have g1 : gDe f D 0 1 X i = st_ (sDe1 f X i (uN Z f D H i) (sCo f D 0 X i (uN Z f D H i))) 107 i (uN Z f D H i) := by
          unfold gDe sDe2
          rw [x4, x6, x3, if_pos c.1, if_pos c.2, eu, if_neg (by decide)]
        have sd : ∀ (cc : Int) (Y : bz_Mm), sDe1 f (fW f D nd H Y) i (uN Z f D H i) cc = fW f D nd H (sDe1 f Y i (uN Z f D H i) cc) := fun cc Y => by
          unfold sDe1
          rw [fW_o (show (188 : Nat) ≠ 107 by decide), fW_o (show (103 : Nat) ≠ 107 by decide), fW_o (show 206 + f ≠ 107 by omega), fW_o (show (210 : Nat) ≠ 107 by decide), st_fW (by decide) (by decide) (by decide) (by decide) (by decide), st_fW (by decide) (by decide) (by decide) (by decide) (by decide), st_fW (by omega) (by omega) (by omega) (by omega) (by omega), st_fW (by decide) (by decide) (by decide) (by decide) (by decide)]
        have sc : sCo f D 0 (fW f D nd H X) i (uN Z f D H i) = sCo f D 0 X i (uN Z f D H i) := by
          unfold sCo
          rw [if_pos rfl, if_pos rfl, fW_o (by omega)]
        have s4' : ∀ q, 103 ≤ q → q ≤ 106 → ∀ cc, sDe1 f X i (uN Z f D H i) cc q = X q := fun q a b cc => by
          unfold sDe1; rw [st_ne (by omega), st_ne (by omega), st_ne (by omega), st_ne (by omega)]
        have g0 : gDe f D 0 0 (fW f D nd H X) i = fW f D nd H (gDe f D 0 1 X i) := by
          rw [g1, fW_at (show i < nd by omega) (by rw [s4' 104 (by decide) (by decide), x4]; exact c.1) (by rw [s4' 106 (by decide) (by decide), x6]; exact c.2)]
          unfold gDe sDe2
          rw [fW_o (show (104 : Nat) ≠ 107 by decide), fW_o (show (106 : Nat) ≠ 107 by decide), x4, x6, if_pos c.1, if_pos c.2, sDo_0 (by rw [u7]; exact hr i (by omega)), u7, if_pos rfl, sc, sd]
        rw [g0, g1]
        refine ih (i + 1) _ (by omega) (fun q a b => by rw [st_ne (by omega), s4' q a b]; exact hX q a b) ?_ (fun j hj a b => ?_)
        · rw [st_ne (by omega), hdN_S, if_pos c]
          unfold sDe1
          rw [st_ne (by omega), st_eq, st_ne (by omega), st_ne (by omega), x3, h2]
        · rw [st_eq]
          by_cases z : j = i
          · rw [z, ud_eq]
          · rw [ud_ne z]
            unfold sDe1
            rw [st_ne (by decide), st_ne (by omega), st_ne (by decide), st_ne (by decide)]; exact h4 j (by omega) a b
      · have no : ∀ (new : Int) (Y : bz_Mm), Y 104 = Z 104 → Y 106 = Z 106 → gDe f D 0 new Y i = Y := fun new Y y4 y6 => by
          unfold gDe
          rw [y4, y6]
          by_cases c1 : Z 104 i = (f : Int)
          · rw [if_pos c1, if_neg (fun q => c ⟨c1, q⟩)]
          · rw [if_neg c1]
        rw [no 1 X x4 x6, no 0 (fW f D nd H X) (by rw [fW_o (by decide)]; exact x4) (by rw [fW_o (by decide)]; exact x6)]
        refine ih (i + 1) X (by omega) hX (by rw [hdN_S, if_neg c]; exact h2) (fun j hj a b => ?_)
        by_cases z : j = i
        · subst z; exact absurd ⟨a, b⟩ c
        · exact h4 j (by omega) a b
  obtain ⟨k1, k2, k3⟩ := key nd 0 Z (by omega) (fun _ _ _ => rfl) hH (fun j hj => by omega)
  rw [k1]
  generalize itr (gDe f D 0 1) 0 nd Z = Y at k2 k3
  funext q i
  by_cases c : q = 107
  · subst c
    rw [fW_7, k2 104 (by decide) (by decide), k2 106 (by decide) (by decide)]
    by_cases z : i < nd ∧ Z 104 i = f ∧ Z 106 i = D
    · rw [if_pos z, k3 i z.1 z.2.1 z.2.2, (hdN_c (K := Z) (K' := Y) (H := H) (f := f) (D := D) (k2 103 (by decide) (by decide)) (k2 104 (by decide) (by decide)) (k2 105 (by decide) (by decide)) (k2 106 (by decide) (by decide)) i).2]
    · rw [if_neg z]
  · rw [fW_o c]
