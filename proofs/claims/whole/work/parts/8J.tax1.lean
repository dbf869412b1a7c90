/-! tax, both sides -/
def txT (K : bz_Mm) (c : Nat → Int) (g D q : Nat) (s : Int × Int) : Int := if K 107 q < 0 then (if (w64 (s.1 * -K 107 q)).tdiv s.2 < c q then (w64 ((c q - (w64 (s.1 * -K 107 q)).tdiv s.2) * rv K g D 10)).tdiv 100 else 0) else 0
theorem r_tax22_189 {F nl nd w g q : Nat} {y : bz_Mm} (hF : 300 < F) (hL : iv_la y nl) (hn : y 81 35 = nd) (hT : TOK y (y 189) nd) (hd : ∀ d, d < nd → (y 108 d = 0 ∨ y 108 d = 1) ∧ (y 108 d = 0 → y 107 d = 0)) (hq : q < nd) (hw : y 103 q = w) (hg : y 104 q = g) (h1 : y 108 q = 1) {D : Nat} (hD : D < 260) : ∀ (m fuel d : Nat), d + m = nd → m < fuel → M_taxOf_189_L22 F fuel y (D : Int) (q : Int) (d : Int) (txB y (y 189) w g nd D d).2 (txB y (y 189) w g nd D d).1 = some (if y 106 q = D ∧ d ≤ q then .inl (txT y (y 189) g D q (txB y (y 189) w g nd D q)) else .inr ((txB y (y 189) w g nd D nd).2, (txB y (y 189) w g nd D nd).1)) := by
  have hT0 := hT
  obtain ⟨k1, k2, k3, k4⟩ := hT
  have q4 := k4 q hq
  intro m
  induction m with
  | zero =>
    intro fuel d e1 e2
    obtain ⟨fuel, rfl⟩ : ∃ j, fuel = j + 1 := ⟨fuel - 1, by omega⟩
    have e : d = nd := by omega
    subst e
    rw [M_taxOf_189_L22, hn, w32_n (by omega), if_neg (by omega), if_neg (by omega)]
  | succ m ih =>
    intro fuel d e1 e2
    obtain ⟨fuel, rfl⟩ : ∃ j, fuel = j + 1 := ⟨fuel - 1, by omega⟩
    have e : (d : Int) + 1 = ((d + 1 : Nat) : Int) := by omega
    obtain ⟨u1, u2, u3, u4⟩ := k4 d (by omega)
    obtain ⟨v1, v2⟩ := hd d (by omega)
    obtain ⟨⟨c1, c2⟩, c3⟩ := k2 d (by omega)
    have ihh := ih fuel (d + 1) (by omega) (by omega)
    have zz : txB y (y 189) w g nd D (d + 1) = if y 103 d = w ∧ y 104 d = g ∧ y 106 d = (D : Nat) then txC y (y 189) (txB y (y 189) w g nd D d) d else txB y (y 189) w g nd D d := rfl
    -- passing over
    have skip : txB y (y 189) w g nd D (d + 1) = txB y (y 189) w g nd D d → (y 106 q = D → d ≠ q) → M_taxOf_189_L22 F fuel y (D : Int) (q : Int) ((d + 1 : Nat) : Int) (txB y (y 189) w g nd D d).2 (txB y (y 189) w g nd D d).1 = some (if y 106 q = D ∧ d ≤ q then .inl (txT y (y 189) g D q (txB y (y 189) w g nd D q)) else .inr ((txB y (y 189) w g nd D nd).2, (txB y (y 189) w g nd D nd).1)) := fun se ne => by
      rw [se] at ihh
      rw [ihh]
      by_cases c : y 106 q = D ∧ d ≤ q
      · rw [if_pos c, if_pos ⟨c.1, by have := ne c.1; omega⟩]
      · rw [if_neg c, if_neg (fun x => c ⟨x.1, by omega⟩)]
    rw [M_taxOf_189_L22, hn, w32_n (show d ≤ 2147483647 by omega), w32_n (show nd ≤ 2147483647 by omega), if_pos (by omega), rd_s (by omega) (by decide), rd_s (by omega) (by decide), w32_id (x := y 103 d) (by omega) (by omega), w32_id (x := y 103 q) (by omega) (by omega), hw, e]
    by_cases b1 : y 103 d = (w : Int)
    · rw [if_pos b1, rd_s (by omega) (by decide), rd_s (by omega) (by decide), w32_id (x := y 104 d) (by omega) (by omega), w32_id (x := y 104 q) (by omega) (by omega), hg]
      by_cases b2 : y 104 d = (g : Int)
      · rw [if_pos b2, rd_s (by omega) (by decide), w32_id (x := y 108 d) (by omega) (by omega)]
        by_cases b3 : y 108 d = 0
        · rw [if_pos b3]
          refine skip ?_ (fun _ z => by subst z; omega)
          rw [zz]
          by_cases b4 : y 106 d = (D : Int)
          · rw [if_pos ⟨b1, b2, b4⟩]
            unfold txC
            rw [v2 b3, if_neg (by omega), c3 (v2 b3), Int.add_zero, Int.add_zero]
          · rw [if_neg (fun z => b4 z.2.2)]
        · rw [if_neg b3, rd_s (by omega) (by decide), w32_id (x := y 106 d) (by omega) (by omega), w32_n (show D ≤ 2147483647 by omega)]
          by_cases b4 : y 106 d = (D : Int)
          · obtain ⟨i1, i2, i3⟩ := tx_inv (w := w) (g := g) hT0 D (by omega) d (by omega)
            have hb := k3 d (by omega)
            have eb : hbi y nd d = (txB y (y 189) w g nd D d).2 := by
              rw [i1]
              unfold hbi
              rw [show (y 103 d).toNat = w by omega, show (y 104 d).toNat = g by omega, show (y 106 d).toNat = D by omega, b1]
            rw [zz, if_pos ⟨b1, b2, b4⟩] at ihh
            rw [if_pos b4, rd_s (by omega) (by decide), lt_x, w32_id (x := y 107 d) (by omega) (by omega), w64_id (x := y 107 d) (by omega) (by omega)]
            by_cases b6 : d = q
            · subst b6
              rw [if_pos (c := y 106 d = (D : Int) ∧ d ≤ d) ⟨b4, Nat.le_refl d⟩]
              unfold txT
              generalize txB y (y 189) w g nd D d = s at i1 i2 i3 eb
              by_cases n : y 107 d < 0
              · have sh := shr_r (cost := s.1) (has := s.2) (u := -y 107 d) (by omega) (by omega) (by omega)
                have hs64 : w64 s.2 = s.2 := w64_id (by omega) (by omega)
                rw [if_pos n]
                unfold dv_
                rw [hs64, if_neg (show ¬ s.2 = 0 by omega), cl1_s, if_pos (c := (d : Int) = w32 (d : Int)) (by rw [w32_n (show d ≤ 2147483647 by omega)]), if_pos n, if_pos n]
                generalize (w64 (s.1 * -y 107 d)).tdiv s.2 = v at sh
                rw [rd_s (by omega) (by decide), w64_id (x := v) (by omega) (by omega), w64_id (x := y 189 d) (by omega) (by omega)]
                by_cases x : v < y 189 d
                · obtain ⟨ru1, -, -, ru4⟩ := rule_M (F := F) (M := y) (f := g) (d := D) (w := 10) hF hL (by omega) hD (by decide)
                  rw [show ((10 : Nat) : Int) = 10 from rfl] at ru1
                  rw [if_pos x, if_pos x, rd_s (by omega) (by decide), rd_s (by omega) (by decide), b2, ru1, cl_s, ru4]
                · rw [if_neg x, if_neg x]
              · rw [if_neg n, cl1_s, if_pos (c := (d : Int) = w32 (d : Int)) (by rw [w32_n (show d ≤ 2147483647 by omega)]), if_neg n, if_neg n]
            · have hne : ¬ (d : Int) = w32 (q : Int) := by rw [w32_n (show q ≤ 2147483647 by omega)]; omega
              have fin : (if y 106 q = (D : Int) ∧ d + 1 ≤ q then (Sum.inl (txT y (y 189) g D q (txB y (y 189) w g nd D q)) : Int ⊕ (Int × Int)) else .inr ((txB y (y 189) w g nd D nd).2, (txB y (y 189) w g nd D nd).1)) = (if y 106 q = (D : Int) ∧ d ≤ q then .inl (txT y (y 189) g D q (txB y (y 189) w g nd D q)) else .inr ((txB y (y 189) w g nd D nd).2, (txB y (y 189) w g nd D nd).1)) := by
                by_cases c : y 106 q = (D : Int) ∧ d ≤ q
                · rw [if_pos c, if_pos ⟨c.1, by omega⟩]
                · rw [if_neg c, if_neg (fun x => c ⟨x.1, by omega⟩)]
              rw [fin] at ihh
              unfold txC at ihh
              dsimp only at ihh
              by_cases n : y 107 d < 0
              · have hs64 : w64 (txB y (y 189) w g nd D d).2 = (txB y (y 189) w g nd D d).2 := w64_id (by omega) (by omega)
                rw [if_pos n] at ihh
                rw [if_pos n]
                unfold dv_
                rw [hs64, if_neg (show ¬ (txB y (y 189) w g nd D d).2 = 0 by omega), cl1_s, if_neg hne, if_pos n, cl1_s, lt_x, lt_x]
                exact ihh
              · rw [if_neg n] at ihh
                rw [if_neg n, cl1_s, if_neg hne, if_neg n, rd_s (by omega) (by decide), cl1_s, lt_x, lt_x]
                exact ihh
          · rw [if_neg b4]
            refine skip (by rw [zz, if_neg (fun z => b4 z.2.2)]) (fun z z2 => by subst z2; exact b4 z)
      · rw [if_neg b2]
        refine skip (by rw [zz, if_neg (fun z => b2 z.2.1)]) (fun _ z2 => by subst z2; exact b2 hg)
    · rw [if_neg b1]
      refine skip (by rw [zz, if_neg (fun z => b1 z.1)]) (fun _ z2 => by subst z2; exact b1 hw)
theorem r_tax_189 {F nl nd w g q Dq : Nat} {y : bz_Mm} (hF : 300 < F) (hL : iv_la y nl) (hn : y 81 35 = nd) (hT : TOK y (y 189) nd) (hd : ∀ d, d < nd → (y 108 d = 0 ∨ y 108 d = 1) ∧ (y 108 d = 0 → y 107 d = 0)) (hq : q < nd) (hw : y 103 q = w) (hg : y 104 q = g) (hDq : y 106 q = Dq) (h1 : y 108 q = 1) : fM_taxOf_189 F y (q : Int) = some (txT y (y 189) g Dq q (txB y (y 189) w g nd Dq q)) := by
  have k1 := hT.1
  have k4 := (hT.2.2.2 q hq).2.2.2
  have lp : ∀ (m fuel D : Nat), D + m = Dq → m < fuel → M_taxOf_189_L8 F fuel y (q : Int) (D : Int) (txB y (y 189) w g nd D 0).2 (txB y (y 189) w g nd D 0).1 = some (.inl (txT y (y 189) g Dq q (txB y (y 189) w g nd Dq q))) := by
    intro m
    induction m with
    | zero =>
      intro fuel D e1 e2
      obtain ⟨fuel, rfl⟩ : ∃ j, fuel = j + 1 := ⟨fuel - 1, by omega⟩
      have e : D = Dq := by omega
      subst e
      have t := r_tax22_189 (w := w) (g := g) (D := D) hF hL hn hT hd hq hw hg h1 (by omega) nd F 0 (by omega) (by omega)
      rw [if_pos ⟨hDq, by omega⟩, show ((0 : Nat) : Int) = 0 from rfl] at t
      rw [M_taxOf_189_L8, rd_s (by omega) (by decide), hDq, w32_n (show D ≤ 2147483647 by omega), if_neg (by omega), t]
      rfl
    | succ m ih =>
      intro fuel D e1 e2
      obtain ⟨fuel, rfl⟩ : ∃ j, fuel = j + 1 := ⟨fuel - 1, by omega⟩
      have e : (D : Int) + 1 = ((D + 1 : Nat) : Int) := by omega
      have t := r_tax22_189 (w := w) (g := g) (D := D) hF hL hn hT hd hq hw hg h1 (by omega) nd F 0 (by omega) (by omega)
      rw [if_neg (by omega), show ((0 : Nat) : Int) = 0 from rfl] at t
      rw [M_taxOf_189_L8, rd_s (by omega) (by decide), hDq, w32_n (show Dq ≤ 2147483647 by omega), w32_n (show D ≤ 2147483647 by omega), if_neg (by omega), t]
      show M_taxOf_189_L8 F fuel y (q : Int) ((D : Int) + 1) (txB y (y 189) w g nd D nd).2 (txB y (y 189) w g nd D nd).1 = _
      rw [e]
      exact ih fuel (D + 1) (by omega) (by omega)
  have t := lp Dq F 0 (by omega) (by omega)
  unfold fM_taxOf_189
  rw [show ((0 : Nat) : Int) = 0 from rfl] at t
  have z : txB y (y 189) w g nd 0 0 = (0, 0) := rfl
  rw [z] at t
  dsimp only at t
  rw [t, cs1_l]
theorem r_tax22_109 {F nl nd w g q : Nat} {y : bz_Mm} (hF : 300 < F) (hL : iv_la y nl) (hn : y 81 35 = nd) (hT : TOK y (y 109) nd) (hd : ∀ d, d < nd → (y 108 d = 0 ∨ y 108 d = 1) ∧ (y 108 d = 0 → y 107 d = 0)) (hq : q < nd) (hw : y 103 q = w) (hg : y 104 q = g) (h1 : y 108 q = 1) {D : Nat} (hD : D < 260) : ∀ (m fuel d : Nat), d + m = nd → m < fuel → M_taxOf_109_L22 F fuel y (D : Int) (q : Int) (d : Int) (txB y (y 109) w g nd D d).2 (txB y (y 109) w g nd D d).1 = some (if y 106 q = D ∧ d ≤ q then .inl (txT y (y 109) g D q (txB y (y 109) w g nd D q)) else .inr ((txB y (y 109) w g nd D nd).2, (txB y (y 109) w g nd D nd).1)) := by
  have hT0 := hT
  obtain ⟨k1, k2, k3, k4⟩ := hT
  have q4 := k4 q hq
  intro m
  induction m with
  | zero =>
    intro fuel d e1 e2
    obtain ⟨fuel, rfl⟩ : ∃ j, fuel = j + 1 := ⟨fuel - 1, by omega⟩
    have e : d = nd := by omega
    subst e
    rw [M_taxOf_109_L22, hn, w32_n (by omega), if_neg (by omega), if_neg (by omega)]
  | succ m ih =>
    intro fuel d e1 e2
    obtain ⟨fuel, rfl⟩ : ∃ j, fuel = j + 1 := ⟨fuel - 1, by omega⟩
    have e : (d : Int) + 1 = ((d + 1 : Nat) : Int) := by omega
    obtain ⟨u1, u2, u3, u4⟩ := k4 d (by omega)
    obtain ⟨v1, v2⟩ := hd d (by omega)
    obtain ⟨⟨c1, c2⟩, c3⟩ := k2 d (by omega)
    have ihh := ih fuel (d + 1) (by omega) (by omega)
    have zz : txB y (y 109) w g nd D (d + 1) = if y 103 d = w ∧ y 104 d = g ∧ y 106 d = (D : Nat) then txC y (y 109) (txB y (y 109) w g nd D d) d else txB y (y 109) w g nd D d := rfl
    -- passing over
    have skip : txB y (y 109) w g nd D (d + 1) = txB y (y 109) w g nd D d → (y 106 q = D → d ≠ q) → M_taxOf_109_L22 F fuel y (D : Int) (q : Int) ((d + 1 : Nat) : Int) (txB y (y 109) w g nd D d).2 (txB y (y 109) w g nd D d).1 = some (if y 106 q = D ∧ d ≤ q then .inl (txT y (y 109) g D q (txB y (y 109) w g nd D q)) else .inr ((txB y (y 109) w g nd D nd).2, (txB y (y 109) w g nd D nd).1)) := fun se ne => by
      rw [se] at ihh
      rw [ihh]
      by_cases c : y 106 q = D ∧ d ≤ q
      · rw [if_pos c, if_pos ⟨c.1, by have := ne c.1; omega⟩]
      · rw [if_neg c, if_neg (fun x => c ⟨x.1, by omega⟩)]
    rw [M_taxOf_109_L22, hn, w32_n (show d ≤ 2147483647 by omega), w32_n (show nd ≤ 2147483647 by omega), if_pos (by omega), rd_s (by omega) (by decide), rd_s (by omega) (by decide), w32_id (x := y 103 d) (by omega) (by omega), w32_id (x := y 103 q) (by omega) (by omega), hw, e]
    by_cases b1 : y 103 d = (w : Int)
    · rw [if_pos b1, rd_s (by omega) (by decide), rd_s (by omega) (by decide), w32_id (x := y 104 d) (by omega) (by omega), w32_id (x := y 104 q) (by omega) (by omega), hg]
      by_cases b2 : y 104 d = (g : Int)
      · rw [if_pos b2, rd_s (by omega) (by decide), w32_id (x := y 108 d) (by omega) (by omega)]
        by_cases b3 : y 108 d = 0
        · rw [if_pos b3]
          refine skip ?_ (fun _ z => by subst z; omega)
          rw [zz]
          by_cases b4 : y 106 d = (D : Int)
          · rw [if_pos ⟨b1, b2, b4⟩]
            unfold txC
            rw [v2 b3, if_neg (by omega), c3 (v2 b3), Int.add_zero, Int.add_zero]
          · rw [if_neg (fun z => b4 z.2.2)]
        · rw [if_neg b3, rd_s (by omega) (by decide), w32_id (x := y 106 d) (by omega) (by omega), w32_n (show D ≤ 2147483647 by omega)]
          by_cases b4 : y 106 d = (D : Int)
          · obtain ⟨i1, i2, i3⟩ := tx_inv (w := w) (g := g) hT0 D (by omega) d (by omega)
            have hb := k3 d (by omega)
            have eb : hbi y nd d = (txB y (y 109) w g nd D d).2 := by
              rw [i1]
              unfold hbi
              rw [show (y 103 d).toNat = w by omega, show (y 104 d).toNat = g by omega, show (y 106 d).toNat = D by omega, b1]
            rw [zz, if_pos ⟨b1, b2, b4⟩] at ihh
            rw [if_pos b4, rd_s (by omega) (by decide), lt_x, w32_id (x := y 107 d) (by omega) (by omega), w64_id (x := y 107 d) (by omega) (by omega)]
            by_cases b6 : d = q
            · subst b6
              rw [if_pos (c := y 106 d = (D : Int) ∧ d ≤ d) ⟨b4, Nat.le_refl d⟩]
              unfold txT
              generalize txB y (y 109) w g nd D d = s at i1 i2 i3 eb
              by_cases n : y 107 d < 0
              · have sh := shr_r (cost := s.1) (has := s.2) (u := -y 107 d) (by omega) (by omega) (by omega)
                have hs64 : w64 s.2 = s.2 := w64_id (by omega) (by omega)
                rw [if_pos n]
                unfold dv_
                rw [hs64, if_neg (show ¬ s.2 = 0 by omega), cl1_s, if_pos (c := (d : Int) = w32 (d : Int)) (by rw [w32_n (show d ≤ 2147483647 by omega)]), if_pos n, if_pos n]
                generalize (w64 (s.1 * -y 107 d)).tdiv s.2 = v at sh
                rw [rd_s (by omega) (by decide), w64_id (x := v) (by omega) (by omega), w64_id (x := y 109 d) (by omega) (by omega)]
                by_cases x : v < y 109 d
                · obtain ⟨ru1, -, -, ru4⟩ := rule_M (F := F) (M := y) (f := g) (d := D) (w := 10) hF hL (by omega) hD (by decide)
                  rw [show ((10 : Nat) : Int) = 10 from rfl] at ru1
                  rw [if_pos x, if_pos x, rd_s (by omega) (by decide), rd_s (by omega) (by decide), b2, ru1, cl_s, ru4]
                · rw [if_neg x, if_neg x]
              · rw [if_neg n, cl1_s, if_pos (c := (d : Int) = w32 (d : Int)) (by rw [w32_n (show d ≤ 2147483647 by omega)]), if_neg n, if_neg n]
            · have hne : ¬ (d : Int) = w32 (q : Int) := by rw [w32_n (show q ≤ 2147483647 by omega)]; omega
              have fin : (if y 106 q = (D : Int) ∧ d + 1 ≤ q then (Sum.inl (txT y (y 109) g D q (txB y (y 109) w g nd D q)) : Int ⊕ (Int × Int)) else .inr ((txB y (y 109) w g nd D nd).2, (txB y (y 109) w g nd D nd).1)) = (if y 106 q = (D : Int) ∧ d ≤ q then .inl (txT y (y 109) g D q (txB y (y 109) w g nd D q)) else .inr ((txB y (y 109) w g nd D nd).2, (txB y (y 109) w g nd D nd).1)) := by
                by_cases c : y 106 q = (D : Int) ∧ d ≤ q
                · rw [if_pos c, if_pos ⟨c.1, by omega⟩]
                · rw [if_neg c, if_neg (fun x => c ⟨x.1, by omega⟩)]
              rw [fin] at ihh
              unfold txC at ihh
              dsimp only at ihh
              by_cases n : y 107 d < 0
              · have hs64 : w64 (txB y (y 109) w g nd D d).2 = (txB y (y 109) w g nd D d).2 := w64_id (by omega) (by omega)
                rw [if_pos n] at ihh
                rw [if_pos n]
                unfold dv_
                rw [hs64, if_neg (show ¬ (txB y (y 109) w g nd D d).2 = 0 by omega), cl1_s, if_neg hne, if_pos n, cl1_s, lt_x, lt_x]
                exact ihh
              · rw [if_neg n] at ihh
                rw [if_neg n, cl1_s, if_neg hne, if_neg n, rd_s (by omega) (by decide), cl1_s, lt_x, lt_x]
                exact ihh
          · rw [if_neg b4]
            refine skip (by rw [zz, if_neg (fun z => b4 z.2.2)]) (fun z z2 => by subst z2; exact b4 z)
      · rw [if_neg b2]
        refine skip (by rw [zz, if_neg (fun z => b2 z.2.1)]) (fun _ z2 => by subst z2; exact b2 hg)
    · rw [if_neg b1]
      refine skip (by rw [zz, if_neg (fun z => b1 z.1)]) (fun _ z2 => by subst z2; exact b1 hw)
theorem r_tax_109 {F nl nd w g q Dq : Nat} {y : bz_Mm} (hF : 300 < F) (hL : iv_la y nl) (hn : y 81 35 = nd) (hT : TOK y (y 109) nd) (hd : ∀ d, d < nd → (y 108 d = 0 ∨ y 108 d = 1) ∧ (y 108 d = 0 → y 107 d = 0)) (hq : q < nd) (hw : y 103 q = w) (hg : y 104 q = g) (hDq : y 106 q = Dq) (h1 : y 108 q = 1) : fM_taxOf_109 F y (q : Int) = some (txT y (y 109) g Dq q (txB y (y 109) w g nd Dq q)) := by
  have k1 := hT.1
  have k4 := (hT.2.2.2 q hq).2.2.2
  have lp : ∀ (m fuel D : Nat), D + m = Dq → m < fuel → M_taxOf_109_L8 F fuel y (q : Int) (D : Int) (txB y (y 109) w g nd D 0).2 (txB y (y 109) w g nd D 0).1 = some (.inl (txT y (y 109) g Dq q (txB y (y 109) w g nd Dq q))) := by
    intro m
    induction m with
    | zero =>
      intro fuel D e1 e2
      obtain ⟨fuel, rfl⟩ : ∃ j, fuel = j + 1 := ⟨fuel - 1, by omega⟩
      have e : D = Dq := by omega
      subst e
      have t := r_tax22_109 (w := w) (g := g) (D := D) hF hL hn hT hd hq hw hg h1 (by omega) nd F 0 (by omega) (by omega)
      rw [if_pos ⟨hDq, by omega⟩, show ((0 : Nat) : Int) = 0 from rfl] at t
      rw [M_taxOf_109_L8, rd_s (by omega) (by decide), hDq, w32_n (show D ≤ 2147483647 by omega), if_neg (by omega), t]
      rfl
    | succ m ih =>
      intro fuel D e1 e2
      obtain ⟨fuel, rfl⟩ : ∃ j, fuel = j + 1 := ⟨fuel - 1, by omega⟩
      have e : (D : Int) + 1 = ((D + 1 : Nat) : Int) := by omega
      have t := r_tax22_109 (w := w) (g := g) (D := D) hF hL hn hT hd hq hw hg h1 (by omega) nd F 0 (by omega) (by omega)
      rw [if_neg (by omega), show ((0 : Nat) : Int) = 0 from rfl] at t
      rw [M_taxOf_109_L8, rd_s (by omega) (by decide), hDq, w32_n (show Dq ≤ 2147483647 by omega), w32_n (show D ≤ 2147483647 by omega), if_neg (by omega), t]
      show M_taxOf_109_L8 F fuel y (q : Int) ((D : Int) + 1) (txB y (y 109) w g nd D nd).2 (txB y (y 109) w g nd D nd).1 = _
      rw [e]
      exact ih fuel (D + 1) (by omega) (by omega)
  have t := lp Dq F 0 (by omega) (by omega)
  unfold fM_taxOf_109
  rw [show ((0 : Nat) : Int) = 0 from rfl] at t
  have z : txB y (y 109) w g nd 0 0 = (0, 0) := rfl
  rw [z] at t
  dsimp only at t
  rw [t, cs1_l]
theorem u_tax_41 {F nf nl nd w g q Dq : Nat} {c : Nat → Int} {M y : bz_Mm} (hF : 300 < F) (hL : iv_la M nl) (hnf : nf ≤ 4) (hDA : DA M y nf nd) (hT : TOK y c nd) (hc : ∀ d, d < nd → M 41 d = c d) (hq : q < nd) (hw : y 103 q = w) (hg : y 104 q = g) (hDq : y 106 q = Dq) (hrv : rv M g Dq 10 = rv y g Dq 10) : fUD_taxOf_41 F M (q : Int) = some (txT y c g Dq q (txB y c w g nd Dq q)) := by
  have hT0 := hT
  obtain ⟨k1, k2, k3, k4⟩ := hT
  have q4 := k4 q hq
  obtain ⟨⟨a1, a2⟩, a3, a4⟩ := hDA
  obtain ⟨⟨e1, e2, e3, e4⟩, ew, er, _⟩ := a4 q hq
  unfold fUD_taxOf_41
  rw [rd_s (by omega) (by decide), e3, w32_id (x := y 107 q) (by omega) (by omega)]
  by_cases n0 : y 107 q < 0
  · rw [if_pos n0]
    obtain ⟨pq, pq1, pq2⟩ := a3.2.2.1 q hq
    have lp : ∀ (m fuel p : Nat), p + m = pq → m < fuel → UD_taxOf_41_L20 F fuel M (q : Int) (p : Int) (txB y c w g nd (y 106 (M 36 p).toNat).toNat (M 36 p).toNat).2 (txB y c w g nd (y 106 (M 36 p).toNat).toNat (M 36 p).toNat).1 = some (.inl (txT y c g Dq q (txB y c w g nd Dq q))) := by
      intro m
      induction m with
      | zero =>
        intro fuel p x1 x2
        obtain ⟨fuel, rfl⟩ : ∃ j, fuel = j + 1 := ⟨fuel - 1, by omega⟩
        have e : p = pq := by omega
        subst e
        obtain ⟨i1, i2, i3⟩ := tx_inv (w := w) (g := g) hT0 Dq (by omega) q (by omega)
        have hb := k3 q hq
        have eb : hbi y nd q = (txB y c w g nd Dq q).2 := by
          rw [i1]
          unfold hbi
          rw [show (y 103 q).toNat = w by omega, show (y 104 q).toNat = g by omega, show (y 106 q).toNat = Dq by omega, hw]
        obtain ⟨-, ru2, -, ru4⟩ := rule_M (F := F) (M := M) (f := g) (d := Dq) (w := 10) hF hL (by omega) (by omega) (by decide)
        rw [show ((10 : Nat) : Int) = 10 from rfl] at ru2
        have c1 := (k2 q hq).1
        rw [UD_taxOf_41_L20, a1, w32_n (show p ≤ 2147483647 by omega), w32_n (show nd ≤ 2147483647 by omega), if_pos (by omega), rd_s (by omega) (by decide), pq2, rd_s (by omega) (by decide), rd_s (by omega) (by decide), if_pos rfl, rd_s (by omega) (by decide), rd_s (by omega) (by decide), if_pos rfl, rd_s (by omega) (by decide), e3, w32_id (x := y 107 q) (by omega) (by omega), if_neg (show ¬ 0 < y 107 q by omega), cl1_s, rd_s (by omega) (by decide), e3, w32_id (x := y 107 q) (by omega) (by omega), if_pos n0, Int.toNat_natCast, hDq, Int.toNat_natCast]
        unfold txT
        generalize txB y c w g nd Dq q = s at i1 i2 i3 eb
        have hs64 : w64 s.2 = s.2 := w64_id (by omega) (by omega)
        have sh := shr_r (cost := s.1) (has := s.2) (u := -y 107 q) (by omega) (by omega) (by omega)
        rw [hs64, if_pos (show 0 < s.2 by omega), rd_s (by omega) (by decide), e3, w32_id (x := -y 107 q) (by omega) (by omega)]
        unfold dv_
        rw [hs64, if_neg (show ¬ s.2 = 0 by omega), cl1_s, if_pos n0, if_pos rfl, rd_s (by omega) (by decide), lt_x, rd_s (by omega) (by decide), rd_s (by omega) (by decide), hc q hq, e1, e2, hg, hDq, ru2, cl_s, ru4, hrv]
        generalize (w64 (s.1 * -y 107 q)).tdiv s.2 = v at sh
        rw [uJM_max1 ⟨by decide, by decide⟩ ⟨by omega, by omega⟩]
        by_cases x : v < c q
        · rw [if_pos x, if_pos (by omega)]
        · rw [if_neg x, if_neg (by omega), Int.zero_mul]
          rfl
      | succ m ih =>
        intro fuel p x1 x2
        obtain ⟨fuel, rfl⟩ : ∃ j, fuel = j + 1 := ⟨fuel - 1, by omega⟩
        have e : (p : Int) + 1 = ((p + 1 : Nat) : Int) := by omega
        have bp := a3.1 p (by omega)
        have bp1 := a3.1 (p + 1) (by omega)
        obtain ⟨t, ht⟩ : ∃ t : Nat, M 36 p = (t : Int) := ⟨(M 36 p).toNat, by omega⟩
        obtain ⟨t', ht'⟩ : ∃ t : Nat, M 36 (p + 1) = (t : Int) := ⟨(M 36 (p + 1)).toNat, by omega⟩
        have tq : t ≠ q := fun z => by
          have := a3.2.1 p pq (by omega) pq1
          rw [ht, pq2, z] at this
          omega
        have tn : t < nd := by omega
        have tn' : t' < nd := by omega
        obtain ⟨⟨f1, f2, f3, f4⟩, fw, fr, _⟩ := a4 t tn
        obtain ⟨⟨f1', f2', f3', f4'⟩, _⟩ := a4 t' tn'
        obtain ⟨u1, u2, u3, u4⟩ := k4 t tn
        have u4' := (k4 t' tn').2.2.2
        obtain ⟨⟨c1, c2⟩, c3⟩ := k2 t tn
        obtain ⟨D, hD⟩ : ∃ D : Nat, y 106 t = (D : Int) := ⟨(y 106 t).toNat, by omega⟩
        obtain ⟨D', hD'⟩ : ∃ D : Nat, y 106 t' = (D : Int) := ⟨(y 106 t').toNat, by omega⟩
        have ord := a3.2.1 p (p + 1) (by omega) (by omega)
        rw [ht, ht', Int.toNat_natCast, Int.toNat_natCast, f2, f2', hD, hD'] at ord
        have btw : txB y c w g nd D' t' = txB y c w g nd D (t + 1) := txB_k (by omega) (by omega) (by omega) (fun u hu z => by
          obtain ⟨pu, pu1, pu2⟩ := a3.2.2.1 u hu
          have fu := (a4 u hu).1.2.1
          have pl : p < pu := by
            rcases Nat.lt_trichotomy p pu with h | h | h
            · exact h
            · rw [← h, ht] at pu2
              have : t = u := by omega
              subst this; omega
            · have := a3.2.1 pu p h (by omega)
              rw [ht, pu2, Int.toNat_natCast, Int.toNat_natCast, f2, fu, hD] at this
              omega
          have pr : pu < p + 1 := by
            rcases Nat.lt_trichotomy pu (p + 1) with h | h | h
            · exact h
            · rw [h, ht'] at pu2
              have : t' = u := by omega
              subst this; omega
            · have := a3.2.1 (p + 1) pu h pu1
              rw [ht', pu2, Int.toNat_natCast, Int.toNat_natCast, f2', fu, hD'] at this
              omega
          omega)
        have zz : txB y c w g nd D (t + 1) = if y 103 t = w ∧ y 104 t = g ∧ y 106 t = (D : Nat) then txC y c (txB y c w g nd D t) t else txB y c w g nd D t := rfl
        have ihh := ih fuel (p + 1) (by omega) (by omega)
        rw [ht', Int.toNat_natCast, hD', Int.toNat_natCast, btw, zz] at ihh
        rw [UD_taxOf_41_L20, a1, w32_n (show p ≤ 2147483647 by omega), w32_n (show nd ≤ 2147483647 by omega), if_pos (by omega), rd_s (by omega) (by decide), ht, rd_s (by omega) (by decide), rd_s (by omega) (by decide), w32_id (x := M 37 t) (by omega) (by omega), w32_id (x := M 37 q) (by omega) (by omega), e, Int.toNat_natCast, hD, Int.toNat_natCast]
        by_cases b1 : M 37 t = M 37 q
        · rw [if_pos b1, rd_s (by omega) (by decide), rd_s (by omega) (by decide), f1, e1, w32_id (x := y 104 t) (by omega) (by omega), w32_id (x := y 104 q) (by omega) (by omega), hg]
          by_cases b2 : y 104 t = (g : Int)
          · obtain ⟨i1, i2, i3⟩ := tx_inv (w := w) (g := g) hT0 D (by omega) t (by omega)
            have hb := k3 t tn
            have b3 : y 103 t = (w : Int) := by omega
            have eb : hbi y nd t = (txB y c w g nd D t).2 := by
              rw [i1]
              unfold hbi
              rw [show (y 103 t).toNat = w by omega, show (y 104 t).toNat = g by omega, show (y 106 t).toNat = D by omega, b3]
            rw [if_pos ⟨b3, b2, hD⟩] at ihh
            unfold txC at ihh
            dsimp only at ihh
            have hs64 : w64 (txB y c w g nd D t).2 = (txB y c w g nd D t).2 := w64_id (by omega) (by omega)
            rw [if_pos b2, rd_s (by omega) (by decide), f3, w32_id (x := y 107 t) (by omega) (by omega)]
            by_cases n : y 107 t < 0
            · rw [if_pos n] at ihh
              rw [if_neg (show ¬ 0 < y 107 t by omega), cl1_s, rd_s (by omega) (by decide), f3, w32_id (x := y 107 t) (by omega) (by omega), if_pos n, hs64, if_pos (show 0 < (txB y c w g nd D t).2 by omega), rd_s (by omega) (by decide), f3, w32_id (x := -y 107 t) (by omega) (by omega)]
              unfold dv_
              rw [hs64, if_neg (show ¬ (txB y c w g nd D t).2 = 0 by omega), cl1_s, w32_n (show t ≤ 2147483647 by omega), w32_n (show q ≤ 2147483647 by omega), if_neg (show ¬ (t : Int) = q by omega), lt_x, rd_s (by omega) (by decide), f3, w32_id (x := y 107 t) (by omega) (by omega), lt_x, Int.sub_eq_add_neg]
              exact ihh
            · rw [if_neg n] at ihh
              by_cases n2 : 0 < y 107 t
              · rw [if_pos n2, rd_s (by omega) (by decide), lt_x, cl1_s, rd_s (by omega) (by decide), f3, w32_id (x := y 107 t) (by omega) (by omega), if_neg n, cl1_s, w32_n (show t ≤ 2147483647 by omega), w32_n (show q ≤ 2147483647 by omega), if_neg (show ¬ (t : Int) = q by omega), lt_x, rd_s (by omega) (by decide), f3, w32_id (x := y 107 t) (by omega) (by omega), lt_x, hc t tn, Int.sub_zero]
                exact ihh
              · rw [c3 (by omega), Int.add_zero] at ihh
                rw [if_neg n2, cl1_s, rd_s (by omega) (by decide), f3, w32_id (x := y 107 t) (by omega) (by omega), if_neg n, cl1_s, w32_n (show t ≤ 2147483647 by omega), w32_n (show q ≤ 2147483647 by omega), if_neg (show ¬ (t : Int) = q by omega), lt_x, rd_s (by omega) (by decide), f3, w32_id (x := y 107 t) (by omega) (by omega), lt_x, Int.sub_zero]
                exact ihh
          · rw [if_neg (fun z => b2 z.2.1)] at ihh
            rw [if_neg b2]
            exact ihh
        · rw [if_neg (fun z => b1 (by omega))] at ihh
          rw [if_neg b1]
          exact ihh
    -- the first
    have b0 := a3.1 0 (by omega)
    obtain ⟨t, ht⟩ : ∃ t : Nat, M 36 0 = (t : Int) := ⟨(M 36 0).toNat, by omega⟩
    have tn : t < nd := by omega
    have f2 := (a4 t tn).1.2.1
    have u4 := (k4 t tn).2.2.2
    obtain ⟨D, hD⟩ : ∃ D : Nat, y 106 t = (D : Int) := ⟨(y 106 t).toNat, by omega⟩
    have t0 := lp pq F 0 (by omega) (by omega)
    have z : txB y c w g nd D t = txB y c w g nd 0 0 := txB_k (by omega) (by omega) (by omega) (fun u hu z => by
      obtain ⟨pu, pu1, pu2⟩ := a3.2.2.1 u hu
      have fu := (a4 u hu).1.2.1
      have uu := (k4 u hu).2.2.2
      by_cases h : pu = 0
      · rw [h, ht] at pu2
        have : t = u := by omega
        subst this; omega
      · have := a3.2.1 0 pu (by omega) pu1
        rw [ht, pu2, Int.toNat_natCast, Int.toNat_natCast, f2, fu, hD] at this
        omega)
    have z2 : txB y c w g nd 0 0 = (0, 0) := rfl
    rw [ht, Int.toNat_natCast, hD, Int.toNat_natCast, z, z2, show ((0 : Nat) : Int) = 0 from rfl] at t0
    dsimp only at t0
    rw [t0, cs1_l]
  · rw [if_neg n0]
    unfold txT
    rw [if_neg n0]
theorem u_tax_42 {F nf nl nd w g q Dq : Nat} {c : Nat → Int} {M y : bz_Mm} (hF : 300 < F) (hL : iv_la M nl) (hnf : nf ≤ 4) (hDA : DA M y nf nd) (hT : TOK y c nd) (hc : ∀ d, d < nd → M 42 d = c d) (hq : q < nd) (hw : y 103 q = w) (hg : y 104 q = g) (hDq : y 106 q = Dq) (hrv : rv M g Dq 10 = rv y g Dq 10) : fUD_taxOf_42 F M (q : Int) = some (txT y c g Dq q (txB y c w g nd Dq q)) := by
  have hT0 := hT
  obtain ⟨k1, k2, k3, k4⟩ := hT
  have q4 := k4 q hq
  obtain ⟨⟨a1, a2⟩, a3, a4⟩ := hDA
  obtain ⟨⟨e1, e2, e3, e4⟩, ew, er, _⟩ := a4 q hq
  unfold fUD_taxOf_42
  rw [rd_s (by omega) (by decide), e3, w32_id (x := y 107 q) (by omega) (by omega)]
  by_cases n0 : y 107 q < 0
  · rw [if_pos n0]
    obtain ⟨pq, pq1, pq2⟩ := a3.2.2.1 q hq
    have lp : ∀ (m fuel p : Nat), p + m = pq → m < fuel → UD_taxOf_42_L20 F fuel M (q : Int) (p : Int) (txB y c w g nd (y 106 (M 36 p).toNat).toNat (M 36 p).toNat).2 (txB y c w g nd (y 106 (M 36 p).toNat).toNat (M 36 p).toNat).1 = some (.inl (txT y c g Dq q (txB y c w g nd Dq q))) := by
      intro m
      induction m with
      | zero =>
        intro fuel p x1 x2
        obtain ⟨fuel, rfl⟩ : ∃ j, fuel = j + 1 := ⟨fuel - 1, by omega⟩
        have e : p = pq := by omega
        subst e
        obtain ⟨i1, i2, i3⟩ := tx_inv (w := w) (g := g) hT0 Dq (by omega) q (by omega)
        have hb := k3 q hq
        have eb : hbi y nd q = (txB y c w g nd Dq q).2 := by
          rw [i1]
          unfold hbi
          rw [show (y 103 q).toNat = w by omega, show (y 104 q).toNat = g by omega, show (y 106 q).toNat = Dq by omega, hw]
        obtain ⟨-, ru2, -, ru4⟩ := rule_M (F := F) (M := M) (f := g) (d := Dq) (w := 10) hF hL (by omega) (by omega) (by decide)
        rw [show ((10 : Nat) : Int) = 10 from rfl] at ru2
        have c1 := (k2 q hq).1
        rw [UD_taxOf_42_L20, a1, w32_n (show p ≤ 2147483647 by omega), w32_n (show nd ≤ 2147483647 by omega), if_pos (by omega), rd_s (by omega) (by decide), pq2, rd_s (by omega) (by decide), rd_s (by omega) (by decide), if_pos rfl, rd_s (by omega) (by decide), rd_s (by omega) (by decide), if_pos rfl, rd_s (by omega) (by decide), e3, w32_id (x := y 107 q) (by omega) (by omega), if_neg (show ¬ 0 < y 107 q by omega), cl1_s, rd_s (by omega) (by decide), e3, w32_id (x := y 107 q) (by omega) (by omega), if_pos n0, Int.toNat_natCast, hDq, Int.toNat_natCast]
        unfold txT
        generalize txB y c w g nd Dq q = s at i1 i2 i3 eb
        have hs64 : w64 s.2 = s.2 := w64_id (by omega) (by omega)
        have sh := shr_r (cost := s.1) (has := s.2) (u := -y 107 q) (by omega) (by omega) (by omega)
        rw [hs64, if_pos (show 0 < s.2 by omega), rd_s (by omega) (by decide), e3, w32_id (x := -y 107 q) (by omega) (by omega)]
        unfold dv_
        rw [hs64, if_neg (show ¬ s.2 = 0 by omega), cl1_s, if_pos n0, if_pos rfl, rd_s (by omega) (by decide), lt_x, rd_s (by omega) (by decide), rd_s (by omega) (by decide), hc q hq, e1, e2, hg, hDq, ru2, cl_s, ru4, hrv]
        generalize (w64 (s.1 * -y 107 q)).tdiv s.2 = v at sh
        rw [uJM_max1 ⟨by decide, by decide⟩ ⟨by omega, by omega⟩]
        by_cases x : v < c q
        · rw [if_pos x, if_pos (by omega)]
        · rw [if_neg x, if_neg (by omega), Int.zero_mul]
          rfl
      | succ m ih =>
        intro fuel p x1 x2
        obtain ⟨fuel, rfl⟩ : ∃ j, fuel = j + 1 := ⟨fuel - 1, by omega⟩
        have e : (p : Int) + 1 = ((p + 1 : Nat) : Int) := by omega
        have bp := a3.1 p (by omega)
        have bp1 := a3.1 (p + 1) (by omega)
        obtain ⟨t, ht⟩ : ∃ t : Nat, M 36 p = (t : Int) := ⟨(M 36 p).toNat, by omega⟩
        obtain ⟨t', ht'⟩ : ∃ t : Nat, M 36 (p + 1) = (t : Int) := ⟨(M 36 (p + 1)).toNat, by omega⟩
        have tq : t ≠ q := fun z => by
          have := a3.2.1 p pq (by omega) pq1
          rw [ht, pq2, z] at this
          omega
        have tn : t < nd := by omega
        have tn' : t' < nd := by omega
        obtain ⟨⟨f1, f2, f3, f4⟩, fw, fr, _⟩ := a4 t tn
        obtain ⟨⟨f1', f2', f3', f4'⟩, _⟩ := a4 t' tn'
        obtain ⟨u1, u2, u3, u4⟩ := k4 t tn
        have u4' := (k4 t' tn').2.2.2
        obtain ⟨⟨c1, c2⟩, c3⟩ := k2 t tn
        obtain ⟨D, hD⟩ : ∃ D : Nat, y 106 t = (D : Int) := ⟨(y 106 t).toNat, by omega⟩
        obtain ⟨D', hD'⟩ : ∃ D : Nat, y 106 t' = (D : Int) := ⟨(y 106 t').toNat, by omega⟩
        have ord := a3.2.1 p (p + 1) (by omega) (by omega)
        rw [ht, ht', Int.toNat_natCast, Int.toNat_natCast, f2, f2', hD, hD'] at ord
        have btw : txB y c w g nd D' t' = txB y c w g nd D (t + 1) := txB_k (by omega) (by omega) (by omega) (fun u hu z => by
          obtain ⟨pu, pu1, pu2⟩ := a3.2.2.1 u hu
          have fu := (a4 u hu).1.2.1
          have pl : p < pu := by
            rcases Nat.lt_trichotomy p pu with h | h | h
            · exact h
            · rw [← h, ht] at pu2
              have : t = u := by omega
              subst this; omega
            · have := a3.2.1 pu p h (by omega)
              rw [ht, pu2, Int.toNat_natCast, Int.toNat_natCast, f2, fu, hD] at this
              omega
          have pr : pu < p + 1 := by
            rcases Nat.lt_trichotomy pu (p + 1) with h | h | h
            · exact h
            · rw [h, ht'] at pu2
              have : t' = u := by omega
              subst this; omega
            · have := a3.2.1 (p + 1) pu h pu1
              rw [ht', pu2, Int.toNat_natCast, Int.toNat_natCast, f2', fu, hD'] at this
              omega
          omega)
        have zz : txB y c w g nd D (t + 1) = if y 103 t = w ∧ y 104 t = g ∧ y 106 t = (D : Nat) then txC y c (txB y c w g nd D t) t else txB y c w g nd D t := rfl
        have ihh := ih fuel (p + 1) (by omega) (by omega)
        rw [ht', Int.toNat_natCast, hD', Int.toNat_natCast, btw, zz] at ihh
        rw [UD_taxOf_42_L20, a1, w32_n (show p ≤ 2147483647 by omega), w32_n (show nd ≤ 2147483647 by omega), if_pos (by omega), rd_s (by omega) (by decide), ht, rd_s (by omega) (by decide), rd_s (by omega) (by decide), w32_id (x := M 37 t) (by omega) (by omega), w32_id (x := M 37 q) (by omega) (by omega), e, Int.toNat_natCast, hD, Int.toNat_natCast]
        by_cases b1 : M 37 t = M 37 q
        · rw [if_pos b1, rd_s (by omega) (by decide), rd_s (by omega) (by decide), f1, e1, w32_id (x := y 104 t) (by omega) (by omega), w32_id (x := y 104 q) (by omega) (by omega), hg]
          by_cases b2 : y 104 t = (g : Int)
          · obtain ⟨i1, i2, i3⟩ := tx_inv (w := w) (g := g) hT0 D (by omega) t (by omega)
            have hb := k3 t tn
            have b3 : y 103 t = (w : Int) := by omega
            have eb : hbi y nd t = (txB y c w g nd D t).2 := by
              rw [i1]
              unfold hbi
              rw [show (y 103 t).toNat = w by omega, show (y 104 t).toNat = g by omega, show (y 106 t).toNat = D by omega, b3]
            rw [if_pos ⟨b3, b2, hD⟩] at ihh
            unfold txC at ihh
            dsimp only at ihh
            have hs64 : w64 (txB y c w g nd D t).2 = (txB y c w g nd D t).2 := w64_id (by omega) (by omega)
            rw [if_pos b2, rd_s (by omega) (by decide), f3, w32_id (x := y 107 t) (by omega) (by omega)]
            by_cases n : y 107 t < 0
            · rw [if_pos n] at ihh
              rw [if_neg (show ¬ 0 < y 107 t by omega), cl1_s, rd_s (by omega) (by decide), f3, w32_id (x := y 107 t) (by omega) (by omega), if_pos n, hs64, if_pos (show 0 < (txB y c w g nd D t).2 by omega), rd_s (by omega) (by decide), f3, w32_id (x := -y 107 t) (by omega) (by omega)]
              unfold dv_
              rw [hs64, if_neg (show ¬ (txB y c w g nd D t).2 = 0 by omega), cl1_s, w32_n (show t ≤ 2147483647 by omega), w32_n (show q ≤ 2147483647 by omega), if_neg (show ¬ (t : Int) = q by omega), lt_x, rd_s (by omega) (by decide), f3, w32_id (x := y 107 t) (by omega) (by omega), lt_x, Int.sub_eq_add_neg]
              exact ihh
            · rw [if_neg n] at ihh
              by_cases n2 : 0 < y 107 t
              · rw [if_pos n2, rd_s (by omega) (by decide), lt_x, cl1_s, rd_s (by omega) (by decide), f3, w32_id (x := y 107 t) (by omega) (by omega), if_neg n, cl1_s, w32_n (show t ≤ 2147483647 by omega), w32_n (show q ≤ 2147483647 by omega), if_neg (show ¬ (t : Int) = q by omega), lt_x, rd_s (by omega) (by decide), f3, w32_id (x := y 107 t) (by omega) (by omega), lt_x, hc t tn, Int.sub_zero]
                exact ihh
              · rw [c3 (by omega), Int.add_zero] at ihh
                rw [if_neg n2, cl1_s, rd_s (by omega) (by decide), f3, w32_id (x := y 107 t) (by omega) (by omega), if_neg n, cl1_s, w32_n (show t ≤ 2147483647 by omega), w32_n (show q ≤ 2147483647 by omega), if_neg (show ¬ (t : Int) = q by omega), lt_x, rd_s (by omega) (by decide), f3, w32_id (x := y 107 t) (by omega) (by omega), lt_x, Int.sub_zero]
                exact ihh
          · rw [if_neg (fun z => b2 z.2.1)] at ihh
            rw [if_neg b2]
            exact ihh
        · rw [if_neg (fun z => b1 (by omega))] at ihh
          rw [if_neg b1]
          exact ihh
    -- the first
    have b0 := a3.1 0 (by omega)
    obtain ⟨t, ht⟩ : ∃ t : Nat, M 36 0 = (t : Int) := ⟨(M 36 0).toNat, by omega⟩
    have tn : t < nd := by omega
    have f2 := (a4 t tn).1.2.1
    have u4 := (k4 t tn).2.2.2
    obtain ⟨D, hD⟩ : ∃ D : Nat, y 106 t = (D : Int) := ⟨(y 106 t).toNat, by omega⟩
    have t0 := lp pq F 0 (by omega) (by omega)
    have z : txB y c w g nd D t = txB y c w g nd 0 0 := txB_k (by omega) (by omega) (by omega) (fun u hu z => by
      obtain ⟨pu, pu1, pu2⟩ := a3.2.2.1 u hu
      have fu := (a4 u hu).1.2.1
      have uu := (k4 u hu).2.2.2
      by_cases h : pu = 0
      · rw [h, ht] at pu2
        have : t = u := by omega
        subst this; omega
      · have := a3.2.1 0 pu (by omega) pu1
        rw [ht, pu2, Int.toNat_natCast, Int.toNat_natCast, f2, fu, hD] at this
        omega)
    have z2 : txB y c w g nd 0 0 = (0, 0) := rfl
    rw [ht, Int.toNat_natCast, hD, Int.toNat_natCast, z, z2, show ((0 : Nat) : Int) = 0 from rfl] at t0
    dsimp only at t0
    rw [t0, cs1_l]
  · rw [if_neg n0]
    unfold txT
    rw [if_neg n0]
