/-! closed forms of the reference's steps, for deals that are dealt already -/
def feS (W : bz_Mm) (f D : Nat) : Nat → Int
  | 0 => 0
  | i + 1 => feS W f D i + if W 103 i = 16 + (f : Int) ∧ W 106 i = D then (if 0 < W 105 i then -W 189 i else W 189 i) else 0
theorem feS_S (W : bz_Mm) (f D i : Nat) : feS W f D (i + 1) = feS W f D i + if W 103 i = 16 + (f : Int) ∧ W 106 i = D then (if 0 < W 105 i then -W 189 i else W 189 i) else 0 := rfl
theorem feS_c {W W' : bz_Mm} {f D : Nat} : ∀ n : Nat, (∀ i, i < n → W 103 i = W' 103 i ∧ W 106 i = W' 106 i ∧ W 105 i = W' 105 i ∧ (W 103 i = 16 + (f : Int) → W 106 i = D → W 189 i = W' 189 i)) → feS W f D n = feS W' f D n := by
  intro n
  induction n with
  | zero => intro _; rfl
  | succ n ih =>
    intro h
    obtain ⟨a, b, c, e⟩ := h n (by omega)
    rw [feS_S, feS_S, ih (fun i hi => h i (by omega)), ← a, ← b, ← c]
    by_cases q : W 103 n = 16 + (f : Int) ∧ W 106 n = D
    · rw [if_pos q, if_pos q, e q.1 q.2]
    · rw [if_neg q, if_neg q]
theorem feS_z {W : bz_Mm} {f D : Nat} : ∀ n : Nat, (∀ i, i < n → W 106 i = D → W 189 i = 0) → feS W f D n = 0 := by
  intro n
  induction n with
  | zero => intro _; rfl
  | succ n ih =>
    intro h
    rw [feS_S, ih (fun i hi => h i (by omega))]
    by_cases q : W 103 n = 16 + (f : Int) ∧ W 106 n = D
    · rw [if_pos q, h n (by omega) q.2]; split <;> omega
    · rw [if_neg q]; omega
theorem gFe_cl {f D : Nat} {W : bz_Mm} (nd : Nat) : itr (gFe f D) 0 nd W 188 f = W 188 f + feS W f D nd ∧ (∀ j, j ≠ f → itr (gFe f D) 0 nd W 188 j = W 188 j) ∧ ∀ q, q ≠ 188 → itr (gFe f D) 0 nd W q = W q := by
  have key : ∀ (m i : Nat) (X : bz_Mm), (∀ q, q ≠ 188 → X q = W q) → X 188 f = W 188 f + feS W f D i → (∀ j, j ≠ f → X 188 j = W 188 j) → itr (gFe f D) i m X 188 f = W 188 f + feS W f D (i + m) ∧ ∀ j, j ≠ f → itr (gFe f D) i m X 188 j = W 188 j := by
    intro m
    induction m with
    | zero => intro i X h1 h2 h3; exact ⟨h2, h3⟩
    | succ m ih =>
      intro i X h1 h2 h3
      rw [itr_S, show i + (m + 1) = (i + 1) + m by omega]
      have e : gFe f D X i = if W 103 i = 16 + (f : Int) ∧ W 106 i = D then st_ X 188 f (X 188 f + if 0 < W 105 i then -W 189 i else W 189 i) else X := by
        unfold gFe
        rw [h1 103 (by decide), h1 106 (by decide), h1 105 (by decide), h1 189 (by decide)]
        by_cases c1 : W 103 i = 16 + (f : Int)
        · by_cases c2 : W 106 i = (D : Int)
          · rw [if_pos c1, if_pos c2, if_pos (c := W 103 i = 16 + (f : Int) ∧ W 106 i = D) ⟨c1, c2⟩]
            by_cases c3 : 0 < W 105 i
            · rw [if_pos c3, if_pos c3]
            · rw [if_neg c3, if_neg c3]
          · rw [if_pos c1, if_neg c2, if_neg (fun q => c2 q.2)]
        · rw [if_neg c1, if_neg (fun q => c1 q.1)]
      rw [e]
      by_cases c : W 103 i = 16 + (f : Int) ∧ W 106 i = D
      · rw [if_pos c]
        refine ih (i + 1) _ (fun q hq => by rw [st_ne hq]; exact h1 q hq) ?_ (fun j hj => by rw [st_eq, ud_ne hj]; exact h3 j hj)
        rw [st_eq, ud_eq, feS_S, if_pos c, h2]; omega
      · rw [if_neg c]
        refine ih (i + 1) X h1 ?_ h3
        rw [feS_S, if_neg c, h2]; omega
  obtain ⟨a, b⟩ := key nd 0 W (fun _ _ => rfl) (by show _ = _ + 0; omega) (fun _ _ => rfl)
  rw [Nat.zero_add] at a
  exact ⟨a, b, fun q hq => itr_o (gFe_o hq) _ _ _⟩
theorem sFl_cl {f D nd : Nat} {W : bz_Mm} (h : ∀ i, i < nd → r32 (W 107 i)) : (sFl f D nd 0 W).1 = fwS W f D nd ∧ ∀ q, q ≠ 222 → (sFl f D nd 0 W).2 q = W q := by
  have o2 : ∀ q, q ≠ 222 → (sFl f D nd 0 W).2 q = W q := fun q hq => by
    unfold sFl
    rw [gFl_o hq]
    exact itr_o (fun M i => by unfold gFc; exact st_ne hq) _ _ _
  refine ⟨?_, o2⟩
  have key : ∀ (m i : Nat) (s : Int × bz_Mm), (∀ q, q ≠ 222 → s.2 q = W q) → i + m = nd → s.1 = fwS W f D i → (ity (gFl f D 0) i m s).1 = fwS W f D nd := by
    intro m
    induction m with
    | zero => intro i s h1 h2 h3; have e : i = nd := by omega
              rw [← e]; exact h3
    | succ m ih =>
      intro i s h1 h2 h3
      rw [ity_S]
      have du : ∀ x, sDo s.2 i 0 x = W 107 i := fun x => by
        unfold sDo
        rw [if_pos rfl, h1 107 (by decide)]; exact r32_w (h i (by omega))
      have e : gFl f D 0 s i = if W 104 i = f ∧ W 106 i = D then (s.1 + W 107 i, st_ s.2 222 (s.2 103 i).toNat (s.2 222 (s.2 103 i).toNat + W 107 i)) else s := by
        unfold gFl
        rw [du, h1 104 (by decide), h1 106 (by decide)]
        by_cases c1 : W 104 i = (f : Int)
        · by_cases c2 : W 106 i = (D : Int)
          · rw [if_pos c1, if_pos c2, if_pos ⟨c1, c2⟩]
          · rw [if_pos c1, if_neg c2, if_neg (fun q => c2 q.2)]
        · rw [if_neg c1, if_neg (fun q => c1 q.1)]
      rw [e]
      by_cases c : W 104 i = f ∧ W 106 i = D
      · rw [if_pos c]
        refine ih (i + 1) _ (fun q hq => by show st_ _ _ _ _ q = _; rw [st_ne hq]; exact h1 q hq) (by omega) ?_
        show s.1 + _ = _
        rw [fwS_S, if_pos c, h3]
      · rw [if_neg c]
        refine ih (i + 1) s h1 (by omega) ?_
        rw [fwS_S, if_neg c, h3]; omega
  unfold sFl
  exact key nd 0 _ (fun q hq => itr_o (fun M i => by unfold gFc; exact st_ne hq) _ _ _) (by omega) rfl
def coD (f D : Nat) (bk : Int) (W : bz_Mm) (i : Nat) : Int := if bk = 0 then coX (W 107 i) (W (196 + f) D) else W 109 i
theorem gDe_cl {f D nd : Nat} {bk : Int} {W : bz_Mm} (hf : f < 4) (h : ∀ i, i < nd → r32 (W 107 i) ∧ 0 ≤ W 103 i ∧ W 103 i < 20) : (∀ i, itr (gDe f D bk 0) 0 nd W 189 i = if i < nd ∧ W 104 i = f ∧ W 106 i = D then coD f D bk W i else W 189 i) ∧ itr (gDe f D bk 0) 0 nd W 188 f = W 188 f + sdl W f D (fun i => sgX (W 107 i) (coD f D bk W i)) nd ∧ (∀ j, j ≠ f → itr (gDe f D bk 0) 0 nd W 188 j = W 188 j) ∧ (∀ w : Nat, itr (gDe f D bk 0) 0 nd W (206 + f) w = W (206 + f) w + sdl W f D (fun i => if W 103 i = (w : Int) then W 107 i else 0) nd) ∧ itr (gDe f D bk 0) 0 nd W 210 f = W 210 f + sdl W f D (W 107) nd ∧ (∀ j, j ≠ f → itr (gDe f D bk 0) 0 nd W 210 j = W 210 j) ∧ ∀ q, q ≠ 188 → q ≠ 189 → q ≠ 206 + f → q ≠ 210 → itr (gDe f D bk 0) 0 nd W q = W q := by
  have key : ∀ (m i : Nat) (X : bz_Mm), i + m = nd → (∀ q, q ≠ 188 → q ≠ 189 → q ≠ 206 + f → q ≠ 210 → X q = W q) → (∀ j, X 189 j = if j < i ∧ W 104 j = f ∧ W 106 j = D then coD f D bk W j else W 189 j) → X 188 f = W 188 f + sdl W f D (fun i => sgX (W 107 i) (coD f D bk W i)) i → (∀ j, j ≠ f → X 188 j = W 188 j) → (∀ w : Nat, X (206 + f) w = W (206 + f) w + sdl W f D (fun i => if W 103 i = (w : Int) then W 107 i else 0) i) → X 210 f = W 210 f + sdl W f D (W 107) i → (∀ j, j ≠ f → X 210 j = W 210 j) → (∀ i', itr (gDe f D bk 0) i m X 189 i' = if i' < nd ∧ W 104 i' = f ∧ W 106 i' = D then coD f D bk W i' else W 189 i') ∧ itr (gDe f D bk 0) i m X 188 f = W 188 f + sdl W f D (fun i => sgX (W 107 i) (coD f D bk W i)) nd ∧ (∀ j, j ≠ f → itr (gDe f D bk 0) i m X 188 j = W 188 j) ∧ (∀ w : Nat, itr (gDe f D bk 0) i m X (206 + f) w = W (206 + f) w + sdl W f D (fun i => if W 103 i = (w : Int) then W 107 i else 0) nd) ∧ itr (gDe f D bk 0) i m X 210 f = W 210 f + sdl W f D (W 107) nd ∧ (∀ j, j ≠ f → itr (gDe f D bk 0) i m X 210 j = W 210 j) ∧ ∀ q, q ≠ 188 → q ≠ 189 → q ≠ 206 + f → q ≠ 210 → itr (gDe f D bk 0) i m X q = W q := by
    intro m
    induction m with
    | zero =>
      intro i X h0 h1 h2 h3 h4 h5 h6 h7
      have e : i = nd := by omega
      subst e
      exact ⟨h2, h3, h4, h5, h6, h7, h1⟩
    | succ m ih =>
      intro i X h0 h1 h2 h3 h4 h5 h6 h7
      rw [itr_S]
      obtain ⟨r1, r2, r3⟩ := h i (by omega)
      have du : ∀ x, sDo X i 0 x = W 107 i := fun x => by
        unfold sDo
        rw [if_pos rfl, h1 107 (by decide) (by decide) (by omega) (by decide)]; exact r32_w r1
      have wu : w64 (W 107 i) = W 107 i := r64_w ⟨by unfold r32 at r1; omega, by unfold r32 at r1; omega⟩
      have co : sCo f D bk X i (W 107 i) = coD f D bk W i := by
        unfold sCo coD coX
        rw [wu, h1 (196 + f) (by omega) (by omega) (by omega) (by omega), h1 109 (by decide) (by decide) (by omega) (by decide)]
      have e : gDe f D bk 0 X i = if W 104 i = f ∧ W 106 i = D then sDe1 f X i (W 107 i) (coD f D bk W i) else X := by
        unfold gDe sDe2
        rw [du, co, if_pos rfl, h1 104 (by decide) (by decide) (by omega) (by decide), h1 106 (by decide) (by decide) (by omega) (by decide)]
        by_cases c1 : W 104 i = (f : Int)
        · by_cases c2 : W 106 i = (D : Int)
          · rw [if_pos c1, if_pos c2, if_pos ⟨c1, c2⟩]
          · rw [if_pos c1, if_neg c2, if_neg (fun q => c2 q.2)]
        · rw [if_neg c1, if_neg (fun q => c1 q.1)]
      rw [e]
      by_cases c : W 104 i = f ∧ W 106 i = D
      · rw [if_pos c]
        have x103 : X 103 = W 103 := h1 103 (by decide) (by decide) (by omega) (by decide)
        unfold sDe1
        rw [x103, wu]
        refine ih (i + 1) _ (by omega) (fun q a1 a2 a3 a4 => by rw [st_ne a4, st_ne a3, st_ne a1, st_ne a2]; exact h1 q a1 a2 a3 a4) (fun j => ?_) ?_ (fun j hj => ?_) (fun w => ?_) ?_ (fun j hj => ?_)
        · rw [st_ne (by decide), st_ne (by omega), st_ne (by decide), st_eq]
          by_cases q : j = i
          · subst q; rw [ud_eq, if_pos ⟨by omega, c⟩]
          · rw [ud_ne q, h2 j]
            by_cases z : j < i ∧ W 104 j = f ∧ W 106 j = D
            · rw [if_pos z, if_pos ⟨by omega, z.2⟩]
            · rw [if_neg z, if_neg (fun y => z ⟨by omega, y.2⟩)]
        · rw [st_ne (by decide), st_ne (by omega), st_eq, ud_eq, sdl_S, if_pos c, h3]
          show W 188 f + _ + sgX (W 107 i) (coD f D bk W i) = _
          omega
        · rw [st_ne (by decide), st_ne (by omega), st_eq, ud_ne hj, st_ne (by decide)]; exact h4 j hj
        · rw [st_ne (by omega), st_eq, sdl_S, if_pos c]
          by_cases q : w = (W 103 i).toNat
          · subst q
            rw [ud_eq, if_pos (c := W 103 i = (((W 103 i).toNat : Nat) : Int)) (by omega), h5]; omega
          · rw [ud_ne q, st_ne (by omega), st_ne (by omega), if_neg (c := W 103 i = (w : Int)) (by omega), h5 w]; omega
        · rw [st_eq, ud_eq, sdl_S, if_pos c, h6]; omega
        · rw [st_eq, ud_ne hj, st_ne (by omega), st_ne (by decide), st_ne (by decide)]; exact h7 j hj
      · rw [if_neg c]
        refine ih (i + 1) X (by omega) h1 (fun j => ?_) ?_ h4 (fun w => ?_) ?_ h7
        · rw [h2 j]
          by_cases z : j < i ∧ W 104 j = f ∧ W 106 j = D
          · rw [if_pos z, if_pos ⟨by omega, z.2⟩]
          · rw [if_neg z, if_neg]
            rintro ⟨y1, y2, y3⟩
            by_cases q : j = i
            · subst q; exact c ⟨y2, y3⟩
            · exact z ⟨by omega, y2, y3⟩
        · rw [sdl_S, if_neg c, h3]; omega
        · rw [sdl_S, if_neg c, h5 w]; omega
        · rw [sdl_S, if_neg c, h6]; omega
  exact key nd 0 W (by omega) (fun _ _ _ _ _ => rfl) (fun j => by rw [if_neg (by omega)]) (by show _ = _ + 0; omega) (fun _ _ => rfl) (fun w => by show _ = _ + 0; omega) (by show _ = _ + 0; omega) (fun _ _ => rfl)
