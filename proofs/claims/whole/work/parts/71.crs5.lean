/-! coins, and where units and coins go: the class -/
def coX (u P : Int) : Int := if 0 < u then (w64 (u * P + 99)).tdiv 100 else (w64 (-u * P)).tdiv 100
def sgX (u c : Int) : Int := if 0 < u then c else -c
def sdl (R : bz_Mm) (f D : Nat) (t : Nat → Int) : Nat → Int
  | 0 => 0
  | i + 1 => sdl R f D t i + if R 104 i = f ∧ R 106 i = D then t i else 0
theorem sdl_S (R : bz_Mm) (f D : Nat) (t : Nat → Int) (i : Nat) : sdl R f D t (i + 1) = sdl R f D t i + if R 104 i = f ∧ R 106 i = D then t i else 0 := rfl
theorem sdl_k {R : bz_Mm} {f D : Nat} {t : Nat → Int} : ∀ (y x : Nat), x ≤ y → (∀ u, x ≤ u → u < y → R 106 u ≠ D) → sdl R f D t y = sdl R f D t x := by
  intro y
  induction y with
  | zero => intro x h _; have : x = 0 := by omega
            rw [this]
  | succ y ih =>
    intro x h1 h2
    by_cases c : x = y + 1
    · rw [c]
    · rw [sdl_S, if_neg (fun q => h2 y (by omega) (by omega) q.2), Int.add_zero]
      exact ih x (by omega) (fun u p q => h2 u p (by omega))
theorem sdl_c {R R' : bz_Mm} {f D : Nat} {t t' : Nat → Int} : ∀ n : Nat, (∀ i, i < n → (R 104 i = R' 104 i ∧ R 106 i = R' 106 i) ∧ (R 104 i = f → R 106 i = D → t i = t' i)) → sdl R f D t n = sdl R' f D t' n := by
  intro n
  induction n with
  | zero => intro _; rfl
  | succ n ih =>
    intro h
    obtain ⟨⟨a, b⟩, c⟩ := h n (by omega)
    rw [sdl_S, sdl_S, ih (fun i hi => h i (by omega)), ← a, ← b]
    by_cases q : R 104 n = f ∧ R 106 n = D
    · rw [if_pos q, if_pos q, c q.1 q.2]
    · rw [if_neg q, if_neg q]
/-- stepping through the day's deals -/
theorem BLK.s {M R : bz_Mm} {nf nd D a b j : Nat} (hA : DA M R nf nd) (hB : BLK M nd D a b) (h0 : a ≤ j) (h1 : j < b) : ∃ t : Nat, M 36 j = (t : Int) ∧ t < nd ∧ R 106 t = D ∧ nbx (M 35) (M 36) nd D j = t ∧ t < nbx (M 35) (M 36) nd D (j + 1) ∧ nbx (M 35) (M 36) nd D (j + 1) ≤ nd ∧ ∀ u, t + 1 ≤ u → u < nbx (M 35) (M 36) nd D (j + 1) → R 106 u ≠ D := by
  obtain ⟨b1, b2, b3, b4, b5, b6, b7⟩ := hB
  obtain ⟨⟨a1, a2⟩, a3, a4⟩ := hA
  have bj := a3.1 j (by omega)
  obtain ⟨t, ht⟩ : ∃ t : Nat, M 36 j = (t : Int) := ⟨(M 36 j).toNat, by omega⟩
  have tn : t < nd := by omega
  have tt : (M 36 j).toNat = t := by omega
  have cD := b6 j h0 h1
  obtain ⟨g1, g2⟩ := blkS a3 (show j < nd by omega) cD
  have nbj : nbx (M 35) (M 36) nd D j = t := by unfold nbx; rw [if_pos ⟨by omega, cD⟩, tt]
  have nle := nbx_le (i := j + 1) (D := (D : Int)) a3
  rw [tt] at g1 g2 cD
  refine ⟨t, ht, tn, by rw [← (a4 t tn).1.2.1]; exact cD, nbj, g1, nle, fun u x y q => g2 u (by omega) y (by omega) (by rw [(a4 u (by omega)).1.2.1]; exact q)⟩
theorem BLK.z {M R : bz_Mm} {nf nd D a b : Nat} (hA : DA M R nf nd) (hB : BLK M nd D a b) : nbx (M 35) (M 36) nd D a ≤ nd ∧ ∀ u, 0 ≤ u → u < nbx (M 35) (M 36) nd D a → R 106 u ≠ D := by
  obtain ⟨b1, b2, b3, b4, b5, b6, b7⟩ := hB
  obtain ⟨⟨a1, a2⟩, a3, a4⟩ := hA
  have nle := nbx_le (i := a) (D := (D : Int)) a3
  exact ⟨nle, fun u _ y q => blk0 a3 b5 u y (by omega) (by rw [(a4 u (by omega)).1.2.1]; exact q)⟩
theorem uUC_coins_42 {F f nf nd D a b : Nat} {M R : bz_Mm} {P : Int} (hF : 300 < F) (hf : f < 4) (hnf : nf ≤ 4) (hP : r32 P) (hA : DA M R nf nd) (hB : BLK M nd D a b) : ∃ M', fUC_countCoins_42 F M (f : Int) P = some M' ∧ (∀ q, q ≠ 42 → M' q = M q) ∧ ∀ i, M' 42 i = if i < nd ∧ R 104 i = f ∧ R 106 i = D then coX (R 107 i) P else M 42 i := by
  have he := hB.e
  have hz := hB.z hA
  have hA0 := hA
  have hB0 := hB
  obtain ⟨b1, b2, b3, b4, b5, b6, b7⟩ := hB
  obtain ⟨⟨a1, a2⟩, a3, a4⟩ := hA
  have key : ∀ (m fuel j : Nat) (W : bz_Mm), a ≤ j → j + m = b → m < fuel → (∀ q, q ≠ 42 → W q = M q) → (∀ i, W 42 i = if i < nbx (M 35) (M 36) nd D j ∧ R 104 i = f ∧ R 106 i = D then coX (R 107 i) P else M 42 i) → ∃ M', UC_countCoins_42_L6 F fuel (f : Int) P (j : Int) W = some M' ∧ (∀ q, q ≠ 42 → M' q = M q) ∧ ∀ i, M' 42 i = if i < nd ∧ R 104 i = f ∧ R 106 i = D then coX (R 107 i) P else M 42 i := by
    intro m
    induction m with
    | zero =>
      intro fuel j W h0 h1 h2 h3 h4
      obtain ⟨fuel, rfl⟩ : ∃ q, fuel = q + 1 := ⟨fuel - 1, by omega⟩
      have e : j = b := by omega
      subst e
      rw [he] at h4
      rw [UC_countCoins_42_L6, h3 53 (by decide), b2, w32_n (by omega), if_neg (by omega)]
      exact ⟨W, rfl, h3, h4⟩
    | succ m ih =>
      intro fuel j W h0 h1 h2 h3 h4
      obtain ⟨fuel, rfl⟩ : ∃ q, fuel = q + 1 := ⟨fuel - 1, by omega⟩
      obtain ⟨t, ht, tn, t6, nbj, g1, g2, g3⟩ := hB0.s hA0 h0 (show j < b by omega)
      obtain ⟨⟨e1, e2, e3, e4⟩, hw, r4, r7, _, _⟩ := a4 t tn
      have e : (j : Int) + 1 = ((j + 1 : Nat) : Int) := by omega
      rw [nbj] at h4
      rw [UC_countCoins_42_L6, h3 53 (by decide), b2, w32_n (show j ≤ 2147483647 by omega), w32_n (show b ≤ 2147483647 by omega), if_pos (by omega), rd_s (by omega) (by decide), h3 36 (by decide), ht, rd_s (by omega) (by decide), h3 38 (by decide), e1, w32_id (x := R 104 t) (by omega) (by omega), w32_n (show f ≤ 2147483647 by omega), rd_s (by omega) (by decide), h3 40 (by decide), e3, wa_s (by omega) (by decide), e]
      have co : fUD_coinsOf (R 107 t) P = coX (R 107 t) P := by
        unfold fUD_coinsOf coX
        rw [w32_id (x := R 107 t) (by omega) (by omega), r32_w hP]
      rw [co]
      by_cases c : R 104 t = (f : Int)
      · rw [if_pos c]
        refine ih fuel (j + 1) _ (by omega) (by omega) (by omega) (fun q x => by rw [st_ne x]; exact h3 q x) (fun i => ?_)
        rw [st_eq]
        by_cases q : i = t
        · subst q; rw [ud_eq, if_pos ⟨by omega, c, t6⟩]
        · rw [ud_ne q, h4 i]
          by_cases z : i < t ∧ R 104 i = f ∧ R 106 i = D
          · rw [if_pos z, if_pos ⟨by omega, z.2⟩]
          · rw [if_neg z, if_neg]
            rintro ⟨x, y, w⟩
            by_cases it : i < t
            · exact z ⟨it, y, w⟩
            · exact g3 i (by omega) x w
      · rw [if_neg c]
        refine ih fuel (j + 1) _ (by omega) (by omega) (by omega) h3 (fun i => ?_)
        rw [h4 i]
        by_cases z : i < t ∧ R 104 i = f ∧ R 106 i = D
        · rw [if_pos z, if_pos ⟨by omega, z.2⟩]
        · rw [if_neg z, if_neg]
          rintro ⟨x, y, w⟩
          by_cases it : i < t
          · exact z ⟨it, y, w⟩
          · by_cases q : i = t
            · subst q; exact c y
            · exact g3 i (by omega) x w
  obtain ⟨M', k1, k2⟩ := key (b - a) F a M (Nat.le_refl a) (by omega) (by omega) (fun _ _ => rfl) (fun i => by rw [if_neg]; rintro ⟨x, _, z⟩; exact hz.2 i (by omega) x z)
  refine ⟨M', ?_, k2⟩
  unfold fUC_countCoins_42
  rw [lt_x, b1, k1, cl1_s]
theorem uUC_coins_41 {F f nf nd D a b : Nat} {M R : bz_Mm} {P : Int} (hF : 300 < F) (hf : f < 4) (hnf : nf ≤ 4) (hP : r32 P) (hA : DA M R nf nd) (hB : BLK M nd D a b) : ∃ M', fUC_countCoins_41 F M (f : Int) P = some M' ∧ (∀ q, q ≠ 41 → M' q = M q) ∧ ∀ i, M' 41 i = if i < nd ∧ R 104 i = f ∧ R 106 i = D then coX (R 107 i) P else M 41 i := by
  have he := hB.e
  have hz := hB.z hA
  have hA0 := hA
  have hB0 := hB
  obtain ⟨b1, b2, b3, b4, b5, b6, b7⟩ := hB
  obtain ⟨⟨a1, a2⟩, a3, a4⟩ := hA
  have key : ∀ (m fuel j : Nat) (W : bz_Mm), a ≤ j → j + m = b → m < fuel → (∀ q, q ≠ 41 → W q = M q) → (∀ i, W 41 i = if i < nbx (M 35) (M 36) nd D j ∧ R 104 i = f ∧ R 106 i = D then coX (R 107 i) P else M 41 i) → ∃ M', UC_countCoins_41_L6 F fuel (f : Int) P (j : Int) W = some M' ∧ (∀ q, q ≠ 41 → M' q = M q) ∧ ∀ i, M' 41 i = if i < nd ∧ R 104 i = f ∧ R 106 i = D then coX (R 107 i) P else M 41 i := by
    intro m
    induction m with
    | zero =>
      intro fuel j W h0 h1 h2 h3 h4
      obtain ⟨fuel, rfl⟩ : ∃ q, fuel = q + 1 := ⟨fuel - 1, by omega⟩
      have e : j = b := by omega
      subst e
      rw [he] at h4
      rw [UC_countCoins_41_L6, h3 53 (by decide), b2, w32_n (by omega), if_neg (by omega)]
      exact ⟨W, rfl, h3, h4⟩
    | succ m ih =>
      intro fuel j W h0 h1 h2 h3 h4
      obtain ⟨fuel, rfl⟩ : ∃ q, fuel = q + 1 := ⟨fuel - 1, by omega⟩
      obtain ⟨t, ht, tn, t6, nbj, g1, g2, g3⟩ := hB0.s hA0 h0 (show j < b by omega)
      obtain ⟨⟨e1, e2, e3, e4⟩, hw, r4, r7, _, _⟩ := a4 t tn
      have e : (j : Int) + 1 = ((j + 1 : Nat) : Int) := by omega
      rw [nbj] at h4
      rw [UC_countCoins_41_L6, h3 53 (by decide), b2, w32_n (show j ≤ 2147483647 by omega), w32_n (show b ≤ 2147483647 by omega), if_pos (by omega), rd_s (by omega) (by decide), h3 36 (by decide), ht, rd_s (by omega) (by decide), h3 38 (by decide), e1, w32_id (x := R 104 t) (by omega) (by omega), w32_n (show f ≤ 2147483647 by omega), rd_s (by omega) (by decide), h3 40 (by decide), e3, wa_s (by omega) (by decide), e]
      have co : fUD_coinsOf (R 107 t) P = coX (R 107 t) P := by
        unfold fUD_coinsOf coX
        rw [w32_id (x := R 107 t) (by omega) (by omega), r32_w hP]
      rw [co]
      by_cases c : R 104 t = (f : Int)
      · rw [if_pos c]
        refine ih fuel (j + 1) _ (by omega) (by omega) (by omega) (fun q x => by rw [st_ne x]; exact h3 q x) (fun i => ?_)
        rw [st_eq]
        by_cases q : i = t
        · subst q; rw [ud_eq, if_pos ⟨by omega, c, t6⟩]
        · rw [ud_ne q, h4 i]
          by_cases z : i < t ∧ R 104 i = f ∧ R 106 i = D
          · rw [if_pos z, if_pos ⟨by omega, z.2⟩]
          · rw [if_neg z, if_neg]
            rintro ⟨x, y, w⟩
            by_cases it : i < t
            · exact z ⟨it, y, w⟩
            · exact g3 i (by omega) x w
      · rw [if_neg c]
        refine ih fuel (j + 1) _ (by omega) (by omega) (by omega) h3 (fun i => ?_)
        rw [h4 i]
        by_cases z : i < t ∧ R 104 i = f ∧ R 106 i = D
        · rw [if_pos z, if_pos ⟨by omega, z.2⟩]
        · rw [if_neg z, if_neg]
          rintro ⟨x, y, w⟩
          by_cases it : i < t
          · exact z ⟨it, y, w⟩
          · by_cases q : i = t
            · subst q; exact c y
            · exact g3 i (by omega) x w
  obtain ⟨M', k1, k2⟩ := key (b - a) F a M (Nat.le_refl a) (by omega) (by omega) (fun _ _ => rfl) (fun i => by rw [if_neg]; rintro ⟨x, _, z⟩; exact hz.2 i (by omega) x z)
  refine ⟨M', ?_, k2⟩
  unfold fUC_countCoins_41
  rw [lt_x, b1, k1, cl1_s]
/-- who is paid, who pays -/
theorem uUC_pass {F f nf nd D a b : Nat} {M R : bz_Mm} (hF : 300 < F) (hf : f < nf) (hnf : nf ≤ 4) (hA : DA M R nf nd) (hB : BLK M nd D a b) : ∃ M', fUC_passDeals F M (f : Int) = some M' ∧ (∀ q, q ≠ 54 → q ≠ 55 → q ≠ 59 → q ≠ 60 → M' q = M q) ∧ (∀ x, x < 4 → M' 54 x = M 54 x + (if x = f then sdl R f D (fun i => sgX (R 107 i) (M 41 i)) nd else 0) - sdl R f D (fun i => if R 103 i = 16 + (x : Int) then sgX (R 107 i) (M 41 i) else 0) nd ∧ M' 55 x = M 55 x + (if x = f then sdl R f D (fun i => sgX (R 107 i) (M 42 i)) nd else 0) - sdl R f D (fun i => if R 103 i = 16 + (x : Int) then sgX (R 107 i) (M 42 i) else 0) nd ∧ M' 60 x = M 60 x + (if x = f then sdl R f D (R 107) nd else 0)) ∧ ∀ g h, g < 4 → h < 4 → M' 59 (g * 4 + h) = M 59 (g * 4 + h) + if h = f then sdl R f D (fun i => if R 103 i = 16 + (g : Int) then R 107 i else 0) nd else 0 := by
  have he := hB.e
  have hz := hB.z hA
  have hA0 := hA
  have hB0 := hB
  obtain ⟨b1, b2, b3, b4, b5, b6, b7⟩ := hB
  obtain ⟨⟨a1, a2⟩, a3, a4⟩ := hA
  have key : ∀ (m fuel j : Nat) (W : bz_Mm), a ≤ j → j + m = b → m < fuel → (∀ q, q ≠ 54 → q ≠ 55 → q ≠ 59 → q ≠ 60 → W q = M q) → (∀ x, x < 4 → W 54 x = M 54 x + (if x = f then sdl R f D (fun i => sgX (R 107 i) (M 41 i)) (nbx (M 35) (M 36) nd D j) else 0) - sdl R f D (fun i => if R 103 i = 16 + (x : Int) then sgX (R 107 i) (M 41 i) else 0) (nbx (M 35) (M 36) nd D j) ∧ W 55 x = M 55 x + (if x = f then sdl R f D (fun i => sgX (R 107 i) (M 42 i)) (nbx (M 35) (M 36) nd D j) else 0) - sdl R f D (fun i => if R 103 i = 16 + (x : Int) then sgX (R 107 i) (M 42 i) else 0) (nbx (M 35) (M 36) nd D j) ∧ W 60 x = M 60 x + (if x = f then sdl R f D (R 107) (nbx (M 35) (M 36) nd D j) else 0)) → (∀ g h, g < 4 → h < 4 → W 59 (g * 4 + h) = M 59 (g * 4 + h) + if h = f then sdl R f D (fun i => if R 103 i = 16 + (g : Int) then R 107 i else 0) (nbx (M 35) (M 36) nd D j) else 0) → ∃ M', UC_passDeals_L5 F fuel (f : Int) (j : Int) W = some M' ∧ (∀ q, q ≠ 54 → q ≠ 55 → q ≠ 59 → q ≠ 60 → M' q = M q) ∧ (∀ x, x < 4 → M' 54 x = M 54 x + (if x = f then sdl R f D (fun i => sgX (R 107 i) (M 41 i)) nd else 0) - sdl R f D (fun i => if R 103 i = 16 + (x : Int) then sgX (R 107 i) (M 41 i) else 0) nd ∧ M' 55 x = M 55 x + (if x = f then sdl R f D (fun i => sgX (R 107 i) (M 42 i)) nd else 0) - sdl R f D (fun i => if R 103 i = 16 + (x : Int) then sgX (R 107 i) (M 42 i) else 0) nd ∧ M' 60 x = M 60 x + (if x = f then sdl R f D (R 107) nd else 0)) ∧ ∀ g h, g < 4 → h < 4 → M' 59 (g * 4 + h) = M 59 (g * 4 + h) + if h = f then sdl R f D (fun i => if R 103 i = 16 + (g : Int) then R 107 i else 0) nd else 0 := by
    intro m
    induction m with
    | zero =>
      intro fuel j W h0 h1 h2 h3 h4 h5
      obtain ⟨fuel, rfl⟩ : ∃ q, fuel = q + 1 := ⟨fuel - 1, by omega⟩
      have e : j = b := by omega
      subst e
      rw [he] at h4 h5
      rw [UC_passDeals_L5, h3 53 (by decide) (by decide) (by decide) (by decide), b2, w32_n (by omega), if_neg (by omega)]
      exact ⟨W, rfl, h3, h4, h5⟩
    | succ m ih =>
      intro fuel j W h0 h1 h2 h3 h4 h5
      obtain ⟨fuel, rfl⟩ : ∃ q, fuel = q + 1 := ⟨fuel - 1, by omega⟩
      obtain ⟨t, ht, tn, t6, nbj, g1, g2, g3⟩ := hB0.s hA0 h0 (show j < b by omega)
      obtain ⟨⟨e1, e2, e3, e4⟩, hw, r4, r7, _, _⟩ := a4 t tn
      have e : (j : Int) + 1 = ((j + 1 : Nat) : Int) := by omega
      have t2 : t < 200 := by omega
      have f4 : f < 4 := by omega
      rw [nbj] at h4 h5
      have stp : ∀ v, sdl R f D v (nbx (M 35) (M 36) nd D (j + 1)) = sdl R f D v t + if R 104 t = f then v t else 0 := fun v => by
        rw [sdl_k _ (t + 1) (by omega) g3, sdl_S]
        by_cases q : R 104 t = (f : Int)
        · rw [if_pos ⟨q, t6⟩, if_pos q]
        · rw [if_neg (fun z => q z.1), if_neg q]
      rw [UC_passDeals_L5, h3 53 (by decide) (by decide) (by decide) (by decide), b2, w32_n (show j ≤ 2147483647 by omega), w32_n (show b ≤ 2147483647 by omega), if_pos (by omega), rd_s (by omega) (by decide), h3 36 (by decide) (by decide) (by decide) (by decide), ht, rd_s t2 (by decide), h3 38 (by decide) (by decide) (by decide) (by decide), e1, w32_id (x := R 104 t) (by omega) (by omega), w32_n (show f ≤ 2147483647 by omega), e]
      by_cases c : R 104 t = (f : Int)
      · rw [if_pos c, rd_s t2 (by decide), h3 40 (by decide) (by decide) (by decide) (by decide), e3, w32_id (x := R 107 t) (by omega) (by omega)]
        have vb : (if 0 < R 107 t then rd_ W 41 (t : Int) 200 fun x7 => some x7 else rd_ W 41 (t : Int) 200 fun x6 => some (-x6)) = some (sgX (R 107 t) (M 41 t)) := by
          rw [rd_s t2 (by decide), rd_s t2 (by decide), h3 41 (by decide) (by decide) (by decide) (by decide)]
          unfold sgX
          split <;> rfl
        have vr : (if 0 < R 107 t then rd_ W 42 (t : Int) 200 fun x11 => some x11 else rd_ W 42 (t : Int) 200 fun x10 => some (-x10)) = some (sgX (R 107 t) (M 42 t)) := by
          rw [rd_s t2 (by decide), rd_s t2 (by decide), h3 42 (by decide) (by decide) (by decide) (by decide)]
          unfold sgX
          split <;> rfl
        rw [vb, cl1_s, vr, cl1_s, rd_s f4 (by decide), wa_s f4 (by decide), rd_s f4 (by decide), st_ne (show (55 : Nat) ≠ 54 by decide), wa_s f4 (by decide), rd_s f4 (by decide), st_ne (show (60 : Nat) ≠ 55 by decide), st_ne (show (60 : Nat) ≠ 54 by decide), wa_s f4 (by decide), rd_s t2 (by decide), st_ne (show (37 : Nat) ≠ 60 by decide), st_ne (show (37 : Nat) ≠ 55 by decide), st_ne (show (37 : Nat) ≠ 54 by decide), h3 37 (by decide) (by decide) (by decide) (by decide), lt_x]
        generalize hB1 : sgX (R 107 t) (M 41 t) = sB
        generalize hR1 : sgX (R 107 t) (M 42 t) = sR
        have k54 : ∀ x, x < 4 → st_ (st_ (st_ W 54 f (W 54 f + sB)) 55 f (W 55 f + sR)) 60 f (W 60 f + R 107 t) 54 x = W 54 x + (if x = f then sB else 0) := fun x hx => by
          rw [st_ne (by decide), st_ne (by decide), st_eq]
          by_cases q : x = f
          · rw [q, ud_eq, if_pos rfl]
          · rw [ud_ne q, if_neg q, Int.add_zero]
        have k55 : ∀ x, x < 4 → st_ (st_ (st_ W 54 f (W 54 f + sB)) 55 f (W 55 f + sR)) 60 f (W 60 f + R 107 t) 55 x = W 55 x + (if x = f then sR else 0) := fun x hx => by
          rw [st_ne (by decide), st_eq]
          by_cases q : x = f
          · rw [q, ud_eq, if_pos rfl]
          · rw [ud_ne q, if_neg q, st_ne (by decide), Int.add_zero]
        have k60 : ∀ x, x < 4 → st_ (st_ (st_ W 54 f (W 54 f + sB)) 55 f (W 55 f + sR)) 60 f (W 60 f + R 107 t) 60 x = W 60 x + (if x = f then R 107 t else 0) := fun x hx => by
          rw [st_eq]
          by_cases q : x = f
          · rw [q, ud_eq, if_pos rfl]
          · rw [ud_ne q, if_neg q, st_ne (by decide), st_ne (by decide), Int.add_zero]
        have k59 : st_ (st_ (st_ W 54 f (W 54 f + sB)) 55 f (W 55 f + sR)) 60 f (W 60 f + R 107 t) 59 = W 59 := by rw [st_ne (by decide), st_ne (by decide), st_ne (by decide)]
        have ko : ∀ q, q ≠ 54 → q ≠ 55 → q ≠ 59 → q ≠ 60 → st_ (st_ (st_ W 54 f (W 54 f + sB)) 55 f (W 55 f + sR)) 60 f (W 60 f + R 107 t) q = M q := fun q x1 x2 x3 x4 => by rw [st_ne x4, st_ne x2, st_ne x1]; exact h3 q x1 x2 x3 x4
        generalize st_ (st_ (st_ W 54 f (W 54 f + sB)) 55 f (W 55 f + sR)) 60 f (W 60 f + R 107 t) = X at k54 k55 k60 k59 ko
        rcases hw with ⟨w1, w2, w3⟩ | ⟨w1, w2, w3, w4⟩
        · rw [w32_id (x := M 37 t - 20) (by omega) (by omega), if_pos (by omega)]
          have nf0 : ∀ x : Nat, ¬ R 103 t = 16 + (x : Int) := fun x q => by omega
          refine ih fuel (j + 1) X (by omega) (by omega) (by omega) ko (fun x hx => ?_) (fun g h hg hh => ?_)
          · obtain ⟨y1, y2, y3⟩ := h4 x hx
            rw [k54 x hx, k55 x hx, k60 x hx, y1, y2, y3, stp, stp, stp, stp, stp, if_pos c, if_pos c, if_pos c, if_pos c, if_pos c, if_neg (nf0 x), if_neg (nf0 x), hB1, hR1]
            by_cases q : x = f
            · simp only [if_pos q]; refine ⟨by omega, by omega, by omega⟩
            · simp only [if_neg q]; refine ⟨by omega, by omega, by omega⟩
          · rw [k59, h5 g h hg hh, stp, if_pos c, if_neg (nf0 g), Int.add_zero]
        · obtain ⟨g0, hg0⟩ : ∃ q : Nat, M 37 t - 20 = (q : Int) := ⟨(M 37 t - 20).toNat, by omega⟩
          have g4 : g0 < 4 := by omega
          have r103 : R 103 t = 16 + (g0 : Int) := by omega
          have e59 : (g0 : Int) * 4 + (f : Int) = ((g0 * 4 + f : Nat) : Int) := by omega
          rw [hg0, w32_n (by omega), if_neg (by omega), rd_s g4 (by decide), wa_s g4 (by decide), rd_s g4 (by decide), st_ne (show (55 : Nat) ≠ 54 by decide), wa_s g4 (by decide), e59, rd_s (by omega) (by decide), wa_s (by omega) (by decide), st_ne (show (59 : Nat) ≠ 55 by decide), st_ne (show (59 : Nat) ≠ 54 by decide)]
          refine ih fuel (j + 1) _ (by omega) (by omega) (by omega) (fun q x1 x2 x3 x4 => by rw [st_ne x3, st_ne x2, st_ne x1]; exact ko q x1 x2 x3 x4) (fun x hx => ?_) (fun g h hg hh => ?_)
          · obtain ⟨y1, y2, y3⟩ := h4 x hx
            have z54 : st_ (st_ (st_ X 54 g0 (X 54 g0 - sB)) 55 g0 (X 55 g0 - sR)) 59 (g0 * 4 + f) (X 59 (g0 * 4 + f) + R 107 t) 54 x = X 54 x - (if x = g0 then sB else 0) := by
              rw [st_ne (by decide), st_ne (by decide), st_eq]
              by_cases q : x = g0
              · rw [q, ud_eq, if_pos rfl]
              · rw [ud_ne q, if_neg q]; omega
            have z55 : st_ (st_ (st_ X 54 g0 (X 54 g0 - sB)) 55 g0 (X 55 g0 - sR)) 59 (g0 * 4 + f) (X 59 (g0 * 4 + f) + R 107 t) 55 x = X 55 x - (if x = g0 then sR else 0) := by
              rw [st_ne (by decide), st_eq]
              by_cases q : x = g0
              · rw [q, ud_eq, if_pos rfl]
              · rw [ud_ne q, if_neg q, st_ne (by decide)]; omega
            have z60 : st_ (st_ (st_ X 54 g0 (X 54 g0 - sB)) 55 g0 (X 55 g0 - sR)) 59 (g0 * 4 + f) (X 59 (g0 * 4 + f) + R 107 t) 60 x = X 60 x := by
              rw [st_ne (by decide), st_ne (by decide), st_ne (by decide)]
            rw [z54, z55, z60, k54 x hx, k55 x hx, k60 x hx, y1, y2, y3, stp, stp, stp, stp, stp, if_pos c, if_pos c, if_pos c, if_pos c, if_pos c, hB1, hR1]
            have ex : (R 103 t = 16 + (x : Int)) ↔ x = g0 := by omega
            by_cases q : x = f
            · have xg : ¬ x = g0 := by omega
              simp only [if_pos q, if_neg xg, if_neg (fun z => xg (ex.mp z))]; refine ⟨by omega, by omega, by omega⟩
            · by_cases xg : x = g0
              · simp only [if_neg q, if_pos xg, if_pos (ex.mpr xg)]; refine ⟨by omega, by omega, by omega⟩
              · simp only [if_neg q, if_neg xg, if_neg (fun z => xg (ex.mp z))]; refine ⟨by omega, by omega, by omega⟩
          · rw [st_eq, stp, if_pos c]
            by_cases q : g = g0 ∧ h = f
            · obtain ⟨q1, q2⟩ := q
              subst q1
              rw [q2, ud_eq, if_pos rfl, if_pos r103, k59, h5 g f hg (by omega), if_pos rfl]; omega
            · rw [ud_ne (by omega), st_ne (by decide), st_ne (by decide), k59, h5 g h hg hh]
              by_cases q2 : h = f
              · rw [if_pos q2, if_pos q2, if_neg (fun z => q ⟨by omega, q2⟩), Int.add_zero]
              · rw [if_neg q2, if_neg q2]
      · rw [if_neg c]
        refine ih fuel (j + 1) W (by omega) (by omega) (by omega) h3 (fun x hx => ?_) (fun g h hg hh => ?_)
        · rw [stp, stp, stp, stp, stp, if_neg c, if_neg c, if_neg c, if_neg c, if_neg c]
          simp only [Int.add_zero]
          exact h4 x hx
        · rw [stp, if_neg c, Int.add_zero]; exact h5 g h hg hh
  have z0 : ∀ v, sdl R f D v (nbx (M 35) (M 36) nd D a) = 0 := fun v => by
    rw [sdl_k _ 0 (by omega) hz.2]; rfl
  obtain ⟨M', k1, k2⟩ := key (b - a) F a M (Nat.le_refl a) (by omega) (by omega) (fun _ _ _ _ _ => rfl) (fun x hx => by
    rw [z0, z0, z0, z0, z0]
    have e : (if x = f then (0 : Int) else 0) = 0 := by split <;> rfl
    rw [e]; exact ⟨by omega, by omega, by omega⟩) (fun g h hg hh => by
    rw [z0]
    have e : (if h = f then (0 : Int) else 0) = 0 := by split <;> rfl
    rw [e]; omega)
  refine ⟨M', ?_, k2⟩
  unfold fUC_passDeals
  rw [lt_x, b1, k1, cl1_s]
