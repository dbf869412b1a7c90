/-! the reference books a day -/
theorem ra_n {α : Type} {n j : Nat} {k : Nat → Option α} (h : j < n) (hn : n ≤ 2147483647) : ra_ (j : Int) n k = k j := by
  rw [ra_i (by omega) (by omega) hn, Int.toNat_natCast]
theorem r_books15 {F D nf : Nat} {W : bz_Mm} (hF : 300 < F) (hnf : nf ≤ 4) (hD : D < 260) (h0 : W 81 0 = D) (h19 : W 81 19 = nf) (hH : ∀ j, j < 260 → r32 (W 82 j)) : ∃ M', M_books_L15 F F 0 W = some M' ∧ (∀ q, (q < 212 ∨ q = 216 ∨ 220 < q) → M' q = W q) ∧ ∀ g, g < 4 → M' (212 + g) = (if g < nf then ud (W (212 + g)) D (W (196 + g) D) else W (212 + g)) ∧ M' (217 + g) = (if g < nf then ud (W (217 + g)) D (if opn (W 82) D = true then W (201 + g) D else 0) else W (217 + g)) := by
  have key : ∀ (m fuel f : Nat) (X : bz_Mm), f + m = nf → m < fuel → (∀ q, (q < 212 ∨ q = 216 ∨ 220 < q) → X q = W q) → (∀ g, g < 4 → X (212 + g) = (if g < f then ud (W (212 + g)) D (W (196 + g) D) else W (212 + g)) ∧ X (217 + g) = (if g < f then ud (W (217 + g)) D (if opn (W 82) D = true then W (201 + g) D else 0) else W (217 + g))) → ∃ M', M_books_L15 F fuel (f : Int) X = some M' ∧ (∀ q, (q < 212 ∨ q = 216 ∨ 220 < q) → M' q = W q) ∧ ∀ g, g < 4 → M' (212 + g) = (if g < nf then ud (W (212 + g)) D (W (196 + g) D) else W (212 + g)) ∧ M' (217 + g) = (if g < nf then ud (W (217 + g)) D (if opn (W 82) D = true then W (201 + g) D else 0) else W (217 + g)) := by
    intro m
    induction m with
    | zero =>
      intro fuel f X h1 h2 h3 h4
      obtain ⟨fuel, rfl⟩ : ∃ q, fuel = q + 1 := ⟨fuel - 1, by omega⟩
      have e : f = nf := by omega
      subst e
      rw [M_books_L15, h3 81 (by decide), h19, w32_n (by omega), if_neg (by omega)]
      exact ⟨X, rfl, h3, h4⟩
    | succ m ih =>
      intro fuel f X h1 h2 h3 h4
      obtain ⟨fuel, rfl⟩ : ∃ q, fuel = q + 1 := ⟨fuel - 1, by omega⟩
      have e : (f : Int) + 1 = ((f + 1 : Nat) : Int) := by omega
      have f4 : f < 4 := by omega
      have X0 : X 81 0 = D := by rw [h3 81 (by decide)]; exact h0
      obtain ⟨g1, g2⟩ := h4 f f4
      rw [if_neg (by omega)] at g1 g2
      have nx : ∀ v : Int, (∀ q, (q < 212 ∨ q = 216 ∨ 220 < q) → st_ (st_ X (212 + f) D (W (196 + f) D)) (217 + f) D v q = W q) := fun v q hq => by rw [st_ne (by omega), st_ne (by omega)]; exact h3 q hq
      have nx2 : ∀ v : Int, v = (if opn (W 82) D = true then W (201 + f) D else 0) → ∀ g, g < 4 → st_ (st_ X (212 + f) D (W (196 + f) D)) (217 + f) D v (212 + g) = (if g < f + 1 then ud (W (212 + g)) D (W (196 + g) D) else W (212 + g)) ∧ st_ (st_ X (212 + f) D (W (196 + f) D)) (217 + f) D v (217 + g) = (if g < f + 1 then ud (W (217 + g)) D (if opn (W 82) D = true then W (201 + g) D else 0) else W (217 + g)) := fun v hv g hg => by
        by_cases c : g = f
        · subst c
          rw [st_ne (show 212 + g ≠ 217 + g by omega), st_eq, st_eq, st_ne (show 217 + g ≠ 212 + g by omega), g1, g2, if_pos (c := g < g + 1) (by omega), if_pos (c := g < g + 1) (by omega), ← hv]
          exact ⟨rfl, rfl⟩
        · rw [st_ne (show 212 + g ≠ 217 + f by omega), st_ne (show 212 + g ≠ 212 + f by omega), st_ne (show 217 + g ≠ 217 + f by omega), st_ne (show 217 + g ≠ 212 + f by omega)]
          obtain ⟨y1, y2⟩ := h4 g hg
          rw [y1, y2]
          by_cases z : g < f
          · rw [if_pos z, if_pos z, if_pos (c := g < f + 1) (by omega), if_pos (c := g < f + 1) (by omega)]; exact ⟨rfl, rfl⟩
          · rw [if_neg z, if_neg z, if_neg (c := g < f + 1) (by omega), if_neg (c := g < f + 1) (by omega)]; exact ⟨rfl, rfl⟩
      obtain ⟨x, o1, o2⟩ := r_open (F := F) (d := D) (M := st_ X (212 + f) D (W (196 + f) D)) (by omega) (by rw [st_ne (by omega), h3 82 (by decide)]; exact hH)
      rw [st_ne (by omega), h3 82 (by decide)] at o2
      rw [M_books_L15, X0, h3 81 (by decide), h19, w32_n (show f ≤ 2147483647 by omega), w32_n (show nf ≤ 2147483647 by omega), if_pos (by omega), ra_n f4 (by decide), ra_n f4 (by decide), rd_s (by omega) (by decide), h3 (196 + f) (by omega), wa_s (by omega) (by decide), ra_n f4 (by decide), st_ne (show (81 : Nat) ≠ 212 + f by omega), X0, o1, cl_s, e]
      by_cases ho : opn (W 82) D = true
      · rw [if_neg (fun q => o2.mp q ho), ra_n f4 (by decide), rd_s (by omega) (by decide), st_ne (show 201 + f ≠ 212 + f by omega), h3 (201 + f) (by omega), wa_s (by omega) (by decide)]
        exact ih fuel (f + 1) _ (by omega) (by omega) (nx _) (nx2 _ (by rw [if_pos ho]))
      · rw [if_pos (o2.mpr ho), wa_s (by omega) (by decide)]
        exact ih fuel (f + 1) _ (by omega) (by omega) (nx _) (nx2 _ (by rw [if_neg ho]))
  exact key nf F 0 W (by omega) (by omega) (fun _ _ => rfl) (fun g _ => by rw [if_neg (by omega), if_neg (by omega)]; exact ⟨rfl, rfl⟩)
theorem r_books90 {F D nd : Nat} {W : bz_Mm} (hF : 300 < F) (hnd : nd ≤ 200) (hD : D < 260) (h0 : W 81 0 = D) (h35 : W 81 35 = nd) (h6 : ∀ i, i < nd → r32 (W 106 i)) (hH : ∀ j, j < 260 → r32 (W 82 j)) : ∃ M', M_books_L90 F F 0 W = some M' ∧ (∀ q, q ≠ 108 → q ≠ 109 → M' q = W q) ∧ ∀ i, M' 108 i = (if i < nd ∧ W 106 i = D ∧ opn (W 82) D = true then 1 else W 108 i) ∧ M' 109 i = (if i < nd ∧ W 106 i = D ∧ opn (W 82) D = true then W 189 i else W 109 i) := by
  have key : ∀ (m fuel t : Nat) (X : bz_Mm), t + m = nd → m < fuel → (∀ q, q ≠ 108 → q ≠ 109 → X q = W q) → (∀ i, X 108 i = (if i < t ∧ W 106 i = D ∧ opn (W 82) D = true then 1 else W 108 i) ∧ X 109 i = (if i < t ∧ W 106 i = D ∧ opn (W 82) D = true then W 189 i else W 109 i)) → ∃ M', M_books_L90 F fuel (t : Int) X = some M' ∧ (∀ q, q ≠ 108 → q ≠ 109 → M' q = W q) ∧ ∀ i, M' 108 i = (if i < nd ∧ W 106 i = D ∧ opn (W 82) D = true then 1 else W 108 i) ∧ M' 109 i = (if i < nd ∧ W 106 i = D ∧ opn (W 82) D = true then W 189 i else W 109 i) := by
    intro m
    induction m with
    | zero =>
      intro fuel t X h1 h2 h3 h4
      obtain ⟨fuel, rfl⟩ : ∃ q, fuel = q + 1 := ⟨fuel - 1, by omega⟩
      have e : t = nd := by omega
      subst e
      rw [M_books_L90, h3 81 (by decide) (by decide), h35, w32_n (by omega), if_neg (by omega)]
      exact ⟨X, rfl, h3, h4⟩
    | succ m ih =>
      intro fuel t X h1 h2 h3 h4
      obtain ⟨fuel, rfl⟩ : ∃ q, fuel = q + 1 := ⟨fuel - 1, by omega⟩
      have e : (t : Int) + 1 = ((t + 1 : Nat) : Int) := by omega
      obtain ⟨x, o1, o2⟩ := r_open (F := F) (d := D) (M := X) (by omega) (by rw [h3 82 (by decide) (by decide)]; exact hH)
      rw [h3 82 (by decide) (by decide)] at o2
      have st : ¬ (W 106 t = D ∧ opn (W 82) D = true) → ∀ i, X 108 i = (if i < t + 1 ∧ W 106 i = D ∧ opn (W 82) D = true then 1 else W 108 i) ∧ X 109 i = (if i < t + 1 ∧ W 106 i = D ∧ opn (W 82) D = true then W 189 i else W 109 i) := fun hn i => by
        obtain ⟨y1, y2⟩ := h4 i
        rw [y1, y2]
        by_cases c : i < t ∧ W 106 i = D ∧ opn (W 82) D = true
        · rw [if_pos c, if_pos c, if_pos (c := i < t + 1 ∧ W 106 i = D ∧ opn (W 82) D = true) ⟨by omega, c.2⟩, if_pos (c := i < t + 1 ∧ W 106 i = D ∧ opn (W 82) D = true) ⟨by omega, c.2⟩]; exact ⟨rfl, rfl⟩
        · have : ¬ (i < t + 1 ∧ W 106 i = D ∧ opn (W 82) D = true) := fun z => by
            by_cases q : i = t
            · subst q; exact hn z.2
            · exact c ⟨by omega, z.2⟩
          rw [if_neg c, if_neg c, if_neg this, if_neg this]; exact ⟨rfl, rfl⟩
      rw [M_books_L90, h3 81 (by decide) (by decide), h35, h0, w32_n (show t ≤ 2147483647 by omega), w32_n (show nd ≤ 2147483647 by omega), if_pos (by omega), rd_s (by omega) (by decide), h3 106 (by decide) (by decide), r32_w (h6 t (by omega)), w32_n (show D ≤ 2147483647 by omega), e]
      by_cases c : W 106 t = (D : Int)
      · rw [if_pos c, o1, cl_s]
        by_cases ho : opn (W 82) D = true
        · rw [if_neg (fun q => o2.mp q ho), rd_s (by omega) (by decide), h3 189 (by decide) (by decide), wa_s (by omega) (by decide), wa_s (by omega) (by decide)]
          refine ih fuel (t + 1) _ (by omega) (by omega) (fun q a b => by rw [st_ne a, st_ne b]; exact h3 q a b) (fun i => ?_)
          obtain ⟨y1, y2⟩ := h4 i
          rw [st_eq, st_ne (show (108 : Nat) ≠ 109 by decide), st_ne (show (109 : Nat) ≠ 108 by decide), st_eq]
          by_cases q : i = t
          · subst q
            rw [ud_eq, ud_eq, if_pos ⟨by omega, c, ho⟩, if_pos ⟨by omega, c, ho⟩]; exact ⟨rfl, rfl⟩
          · rw [ud_ne q, ud_ne q, y1, y2]
            have ee : (i < t ∧ W 106 i = D ∧ opn (W 82) D = true) ↔ (i < t + 1 ∧ W 106 i = D ∧ opn (W 82) D = true) := ⟨fun z => ⟨by omega, z.2⟩, fun z => ⟨by omega, z.2⟩⟩
            by_cases z : i < t ∧ W 106 i = D ∧ opn (W 82) D = true
            · rw [if_pos z, if_pos z, if_pos (ee.mp z), if_pos (ee.mp z)]; exact ⟨rfl, rfl⟩
            · rw [if_neg z, if_neg z, if_neg (fun y => z (ee.mpr y)), if_neg (fun y => z (ee.mpr y))]; exact ⟨rfl, rfl⟩
        · rw [if_pos (o2.mpr ho)]
          exact ih fuel (t + 1) _ (by omega) (by omega) h3 (st (fun q => ho q.2))
      · rw [if_neg c]
        exact ih fuel (t + 1) _ (by omega) (by omega) h3 (st (fun q => c q.1))
  exact key nd F 0 W (by omega) (by omega) (fun _ _ _ => rfl) (fun i => by rw [if_neg (by omega), if_neg (by omega)]; exact ⟨rfl, rfl⟩)
/-- days before the last are as BOOKED, whatever the walk is for -/
theorem itr_cat {g : bz_Mm → Nat → bz_Mm} : ∀ (m i : Nat) (M : bz_Mm), itr g i (m + 1) M = g (itr g i m M) (i + m) := by
  intro m
  induction m with
  | zero => intro i M; rfl
  | succ m ih =>
    intro i M
    rw [itr_S, ih (i + 1) (g M i), itr_S, show i + 1 + m = i + (m + 1) by omega]
theorem itr_cg {g h : bz_Mm → Nat → bz_Mm} : ∀ (m i : Nat) (M : bz_Mm), (∀ X j, i ≤ j → j < i + m → g X j = h X j) → itr g i m M = itr h i m M := by
  intro m
  induction m with
  | zero => intro i M _; rfl
  | succ m ih =>
    intro i M hh
    rw [itr_S, itr_S, hh M i (by omega) (by omega)]
    exact ih (i + 1) _ (fun X j a b => hh X j (by omega) (by omega))
theorem gDay_1 {L nf nt nd d : Nat} {W : bz_Mm} (h : d ≠ L) : gDay 1 L nf nt nd W d = itr (gGo d nt nd 1 0) 0 nf W := by
  have e1 : hBk 1 L d = 1 := by unfold hBk; rw [if_neg (by decide), if_neg (fun q => h q.2)]
  have e2 : hNew 1 L d = 0 := by unfold hNew; rw [if_neg (fun q => h q.2)]
  unfold gDay
  rw [e1, e2]
theorem gDay_1L {L nf nt nd : Nat} {W : bz_Mm} : gDay 1 L nf nt nd W L = itr (gGo L nt nd 0 1) 0 nf W := by
  have e1 : hBk 1 L L = 0 := by unfold hBk; rw [if_neg (by decide), if_pos ⟨rfl, rfl⟩]
  have e2 : hNew 1 L L = 1 := by unfold hNew; rw [if_pos ⟨rfl, rfl⟩]
  unfold gDay
  rw [e1, e2]
theorem walk_1 {D nf nt nd : Nat} {W : bz_Mm} : itr (gDay 1 D nf nt nd) 0 (D + 1) W = itr (gGo D nt nd 0 1) 0 nf (itr (fun X d => itr (gGo d nt nd 1 0) 0 nf X) 0 D W) := by
  rw [itr_cat, Nat.zero_add, gDay_1L]
  congr 1
  exact itr_cg D 0 W (fun X j _ b => gDay_1 (by omega))
