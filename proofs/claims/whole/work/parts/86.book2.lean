/-! the class fills a fund's deals -/
theorem hdN_k {K : bz_Mm} {f D : Nat} {H : Nat → Int} : ∀ (y x : Nat), x ≤ y → (∀ u, x ≤ u → u < y → K 106 u ≠ D) → hdN K f D H y = hdN K f D H x := by
  intro y
  induction y with
  | zero => intro x h _; have : x = 0 := by omega
            rw [this]
  | succ y ih =>
    intro x a b
    by_cases c : x = y + 1
    · rw [c]
    · rw [hdN_S, if_neg (fun q => b y (by omega) (by omega) q.2)]
      exact ih x (by omega) (fun u p q => b u p (by omega))
/-- where the class keeps what a party holds of a fund -/
def plH (w g : Nat) : Nat := (if w < 16 then w else w + 4) * 4 + g
theorem plH_r {w g : Nat} (hw : w < 20) (hg : g < 4) : plH w g < 96 := by unfold plH; split <;> omega
theorem plH_i {w g w' g' : Nat} (hw : w < 20) (hg : g < 4) (hw' : w' < 20) (hg' : g' < 4) (h : plH w g = plH w' g') : w = w' ∧ g = g' := by
  unfold plH at h
  by_cases a : w < 16 <;> by_cases b : w' < 16
  · rw [if_pos a, if_pos b] at h; omega
  · rw [if_pos a, if_neg b] at h; omega
  · rw [if_neg a, if_pos b] at h; omega
  · rw [if_neg a, if_neg b] at h; omega
theorem uJM_max0 {x y : Int} (hx : r32 x) (hy : r32 y) : fJM_max0 x y = if x < y then y else x := by
  unfold fJM_max0
  rw [r32_w hx, r32_w hy]
theorem uUC_fill {F f nf nd D a b : Nat} {M R : bz_Mm} {H : Nat → Int} (hF : 300 < F) (hf : f < 4) (hnf : nf ≤ 4) (hA : DA M R nf nd) (hB : BLK M nd D a b) (h39 : ∀ i, i < nd → M 39 i = R 105 i) (h5 : ∀ i, i < nd → -10000 ≤ R 105 i ∧ R 105 i ≤ 10000) (hH : ∀ w, w < 20 → 0 ≤ H w ∧ H w ≤ 10000000) (h43 : ∀ w, w < 20 → M 43 (plH w f) = H w) : ∃ M', fUC_fillDeals F M (f : Int) = some M' ∧ (∀ q, q ≠ 40 → q ≠ 43 → q ≠ 44 → M' q = M q) ∧ (∀ i, M' 40 i = if i < nd ∧ R 104 i = f ∧ R 106 i = D then uN R f D H i else M 40 i) ∧ (∀ w g, w < 20 → g < 4 → M' 43 (plH w g) = if g = f then hdN R f D H nd w else M 43 (plH w g)) ∧ ∀ g, g < 4 → M' 44 g = M 44 g + if g = f then sdl R f D (uN R f D H) nd else 0 := by
  have he := hB.e
  have hz := hB.z hA
  have hA0 := hA
  have hB0 := hB
  obtain ⟨b1, b2, b3, b4, b5, b6, b7⟩ := hB
  obtain ⟨⟨a1, a2⟩, a3, a4⟩ := hA
  have r3 : ∀ i, i < nd → 0 ≤ R 103 i ∧ R 103 i < 20 := fun i hi => by
    rcases (a4 i hi).2.1 with w | w <;> omega
  have key : ∀ (m fuel j : Nat) (W : bz_Mm), a ≤ j → j + m = b → m < fuel → (∀ q, q ≠ 40 → q ≠ 43 → q ≠ 44 → W q = M q) → (∀ i, W 40 i = if i < nbx (M 35) (M 36) nd D j ∧ R 104 i = f ∧ R 106 i = D then uN R f D H i else M 40 i) → (∀ w g, w < 20 → g < 4 → W 43 (plH w g) = if g = f then hdN R f D H (nbx (M 35) (M 36) nd D j) w else M 43 (plH w g)) → (∀ g, g < 4 → W 44 g = M 44 g + if g = f then sdl R f D (uN R f D H) (nbx (M 35) (M 36) nd D j) else 0) → ∃ M', UC_fillDeals_L5 F fuel (f : Int) (j : Int) W = some M' ∧ (∀ q, q ≠ 40 → q ≠ 43 → q ≠ 44 → M' q = M q) ∧ (∀ i, M' 40 i = if i < nd ∧ R 104 i = f ∧ R 106 i = D then uN R f D H i else M 40 i) ∧ (∀ w g, w < 20 → g < 4 → M' 43 (plH w g) = if g = f then hdN R f D H nd w else M 43 (plH w g)) ∧ ∀ g, g < 4 → M' 44 g = M 44 g + if g = f then sdl R f D (uN R f D H) nd else 0 := by
    intro m
    induction m with
    | zero =>
      intro fuel j W h0 h1 h2 h3 h4 h6 h7
      obtain ⟨fuel, rfl⟩ : ∃ q, fuel = q + 1 := ⟨fuel - 1, by omega⟩
      have e : j = b := by omega
      subst e
      rw [he] at h4 h6 h7
      rw [UC_fillDeals_L5, h3 53 (by decide) (by decide) (by decide), b2, w32_n (by omega), if_neg (by omega)]
      exact ⟨W, rfl, h3, h4, h6, h7⟩
    | succ m ih =>
      intro fuel j W h0 h1 h2 h3 h4 h6 h7
      obtain ⟨fuel, rfl⟩ : ∃ q, fuel = q + 1 := ⟨fuel - 1, by omega⟩
      obtain ⟨t, ht, tn, t6, nbj, g1, g2, g3⟩ := hB0.s hA0 h0 (show j < b by omega)
      obtain ⟨⟨e1, e2, e3, e4⟩, hw, r4, r7, _, _⟩ := a4 t tn
      have r3t := r3 t tn
      have e : (j : Int) + 1 = ((j + 1 : Nat) : Int) := by omega
      have kN := hdN_k (K := R) (f := f) (D := D) (H := H) (nbx (M 35) (M 36) nd D (j + 1)) (t + 1) (by omega) g3
      have kS := sdl_k (R := R) (f := f) (D := D) (t := uN R f D H) (nbx (M 35) (M 36) nd D (j + 1)) (t + 1) (by omega) g3
      rw [nbj] at h4 h6 h7
      rw [UC_fillDeals_L5, h3 53 (by decide) (by decide) (by decide), b2, w32_n (show j ≤ 2147483647 by omega), w32_n (show b ≤ 2147483647 by omega), if_pos (by omega), rd_s (by omega) (by decide), h3 36 (by decide) (by decide) (by decide), ht, rd_s (by omega) (by decide), h3 38 (by decide) (by decide) (by decide), e1, w32_id (x := R 104 t) (by omega) (by omega), w32_n (show f ≤ 2147483647 by omega), e]
      by_cases c : R 104 t = (f : Int)
      · have pl : M 37 t * 4 + R 104 t = ((plH (R 103 t).toNat f : Nat) : Int) := by
          unfold plH
          rcases hw with w | w
          · rw [if_pos (by omega)]; omega
          · rw [if_neg (by omega)]; omega
        have pr := plH_r (w := (R 103 t).toNat) (g := f) (by omega) hf
        obtain ⟨v1, v2, v3, v4⟩ := uN_v (K := R) (f := f) (D := D) (nd := nd) (i := t) (H := H) hH r3 h5 tn a2
        have hd := hdN_p (K := R) (f := f) (D := D) (H := H) hH r3 h5 t (by omega) (by omega) (R 103 t).toNat (by omega)
        have h5t := h5 t tn
        have hx : W 43 (plH (R 103 t).toNat f) = hdN R f D H t (R 103 t).toNat := by rw [h6 _ f (by omega) hf, if_pos rfl]
        have mx : fJM_max0 (R 105 t) (-(W 43 (plH (R 103 t).toNat f))) = uN R f D H t := by
          rw [hx, uJM_max0 ⟨by omega, by omega⟩ ⟨by omega, by omega⟩, v1]
        have fill : fUD_fill F W (t : Int) = some (st_ (st_ (st_ W 40 t (uN R f D H t)) 43 (plH (R 103 t).toNat f) (hdN R f D H t (R 103 t).toNat + uN R f D H t)) 44 f (W 44 f + uN R f D H t)) := by
          unfold fUD_fill
          rw [rd_s (by omega) (by decide), rd_s (by omega) (by decide), h3 37 (by decide) (by decide) (by decide), h3 38 (by decide) (by decide) (by decide), e1, lt_x, pl, rd_s (by omega) (by decide), h3 39 (by decide) (by decide) (by decide), h39 t tn, rd_s pr (by decide), lt_x, mx, wa_s (by omega) (by decide), rd_s pr (by decide), st_ne (show (43 : Nat) ≠ 40 by decide), hx, wa_s pr (by decide), rd_s (by omega) (by decide), st_ne (show (38 : Nat) ≠ 43 by decide), st_ne (show (38 : Nat) ≠ 40 by decide), h3 38 (by decide) (by decide) (by decide), e1, c, rd_s hf (by decide), st_ne (show (44 : Nat) ≠ 43 by decide), st_ne (show (44 : Nat) ≠ 40 by decide), wa_s hf (by decide)]
        rw [if_pos c, fill, cl_s]
        refine ih fuel (j + 1) _ (by omega) (by omega) (by omega) (fun q x y z => by rw [st_ne z, st_ne y, st_ne x]; exact h3 q x y z) (fun i => ?_) (fun w g hw' hg => ?_) (fun g hg => ?_)
        · rw [st_ne (by decide), st_ne (by decide), st_eq]
          by_cases q : i = t
          · subst q; rw [ud_eq, if_pos ⟨by omega, c, t6⟩]
          · rw [ud_ne q, h4 i]
            by_cases z : i < t ∧ R 104 i = f ∧ R 106 i = D
            · rw [if_pos z, if_pos ⟨by omega, z.2⟩]
            · rw [if_neg z, if_neg]
              rintro ⟨x, y, w⟩
              by_cases it : i < t
              · exact z ⟨it, y, w⟩
              · exact g3 i (by omega) x w
        · rw [st_ne (by decide), st_eq, st_ne (by decide), kN, hdN_S, if_pos (c := R 104 t = (f : Int) ∧ R 106 t = (D : Int)) ⟨c, t6⟩]
          by_cases q : g = f
          · subst q
            rw [if_pos rfl]
            by_cases z : w = (R 103 t).toNat
            · rw [z, ud_eq, ud_eq]
            · rw [ud_ne (fun y => z (plH_i hw' hg (by omega) hg y).1), ud_ne z, h6 w g hw' hg, if_pos rfl]
          · rw [if_neg q, ud_ne (fun y => q (plH_i hw' hg (by omega) hf y).2), h6 w g hw' hg, if_neg q]
        · rw [st_eq, kS, sdl_S, if_pos (c := R 104 t = (f : Int) ∧ R 106 t = (D : Int)) ⟨c, t6⟩]
          by_cases q : g = f
          · subst q
            rw [ud_eq, if_pos rfl, h7 g hg, if_pos rfl]; omega
          · rw [ud_ne q, if_neg q, st_ne (by decide), st_ne (by decide), h7 g hg, if_neg q]
      · rw [if_neg c]
        refine ih fuel (j + 1) _ (by omega) (by omega) (by omega) h3 (fun i => ?_) (fun w g hw' hg => ?_) (fun g hg => ?_)
        · rw [h4 i]
          by_cases z : i < t ∧ R 104 i = f ∧ R 106 i = D
          · rw [if_pos z, if_pos ⟨by omega, z.2⟩]
          · rw [if_neg z, if_neg]
            rintro ⟨x, y, w⟩
            by_cases it : i < t
            · exact z ⟨it, y, w⟩
            · by_cases q : i = t
              · subst q; exact c y
              · exact g3 i (by omega) x w
        · rw [h6 w g hw' hg, kN, hdN_S, if_neg (c := R 104 t = (f : Int) ∧ R 106 t = (D : Int)) (fun q => c q.1)]
        · rw [h7 g hg, kS, sdl_S, if_neg (c := R 104 t = (f : Int) ∧ R 106 t = (D : Int)) (fun q => c q.1), Int.add_zero]
  have hz0 : ∀ u, 0 ≤ u → u < nbx (M 35) (M 36) nd D a → R 106 u ≠ D := hz.2
  obtain ⟨M', k1, k2⟩ := key (b - a) F a M (Nat.le_refl a) (by omega) (by omega) (fun _ _ _ _ => rfl) (fun i => by rw [if_neg]; rintro ⟨x, _, z⟩; exact hz.2 i (by omega) x z) (fun w g hw hg => by
    rw [hdN_k (nbx (M 35) (M 36) nd D a) 0 (by omega) hz0]
    by_cases q : g = f
    · subst q; rw [if_pos rfl, h43 w hw]; rfl
    · rw [if_neg q]) (fun g hg => by
    rw [sdl_k (nbx (M 35) (M 36) nd D a) 0 (by omega) hz0]
    split
    · show _ = M 44 g + 0; omega
    · omega)
  refine ⟨M', ?_, k2⟩
  unfold fUC_fillDeals
  rw [lt_x, b1, k1, cl1_s]
