/-! what is known: the value that counts on a day -/
def tis (M : bz_Mm) (s nr : Nat) (k : Int) (d t : Nat) : Bool := decide (M 83 t = s) && decide (M 84 t = nr) && decide (¬ k < M 87 t) && decide (M 85 t = d)
def lv (M : bz_Mm) (s nr : Nat) (k : Int) (d : Nat) : Nat → Int → Int
  | 0, v => v
  | n + 1, v => if tis M s nr k d n = true then M 86 n else lv M s nr k d n v
def kv (M : bz_Mm) (s nr : Nat) (k : Int) (n : Nat) : Nat → Int
  | 0 => lv M s nr k 0 n (pln s)
  | d + 1 => lv M s nr k (d + 1) n (if s < 2 then kv M s nr k n d else pln s)
theorem kv_S (M : bz_Mm) (s nr : Nat) (k : Int) (n d : Nat) : kv M s nr k n (d + 1) = lv M s nr k (d + 1) n (if s < 2 then kv M s nr k n d else pln s) := rfl
theorem tis_c {M M' : bz_Mm} (h : ∀ q, 83 ≤ q → q ≤ 87 → M' q = M q) (s nr : Nat) (k : Int) (d t : Nat) : tis M' s nr k d t = tis M s nr k d t := by
  unfold tis
  rw [h 83 (by decide) (by decide), h 84 (by decide) (by decide), h 87 (by decide) (by decide), h 85 (by decide) (by decide)]
theorem lv_c {M M' : bz_Mm} (h : ∀ q, 83 ≤ q → q ≤ 87 → M' q = M q) (s nr : Nat) (k : Int) (d : Nat) : ∀ (n : Nat) (v : Int), lv M' s nr k d n v = lv M s nr k d n v := by
  intro n
  induction n with
  | zero => intro v; rfl
  | succ n ih => intro v; unfold lv; rw [tis_c h, h 86 (by decide) (by decide), ih]
theorem kv_c {M M' : bz_Mm} (h : ∀ q, 83 ≤ q → q ≤ 87 → M' q = M q) (s nr : Nat) (k : Int) (n : Nat) : ∀ d : Nat, kv M' s nr k n d = kv M s nr k n d := by
  intro d
  induction d with
  | zero => unfold kv; rw [lv_c h]
  | succ d ih => unfold kv; rw [lv_c h, ih]
theorem lv_n {M : bz_Mm} {s nr : Nat} {k : Int} {d : Nat} : ∀ (n : Nat) (u v : Int), (∃ t, t < n ∧ tis M s nr k d t = true) → lv M s nr k d n u = lv M s nr k d n v := by
  intro n
  induction n with
  | zero => intro u v ⟨t, h, _⟩; omega
  | succ n ih =>
    intro u v ⟨t, h1, h2⟩
    unfold lv
    by_cases c : tis M s nr k d n = true
    · rw [if_pos c, if_pos c]
    · rw [if_neg c, if_neg c]
      refine ih u v ⟨t, ?_, h2⟩
      by_cases e : t = n
      · rw [e] at h2; exact absurd h2 c
      · omega
theorem lv_0 {M : bz_Mm} {s nr : Nat} {k : Int} {d : Nat} : ∀ (n : Nat) (v : Int), (∀ t, t < n → ¬ tis M s nr k d t = true) → lv M s nr k d n v = v := by
  intro n
  induction n with
  | zero => intro v _; rfl
  | succ n ih =>
    intro v h
    unfold lv
    rw [if_neg (h n (by omega))]
    exact ih v (fun t ht => h t (by omega))
theorem car_kv {r s nr n : Nat} {M : bz_Mm} (hr : 158 ≤ r ∧ r < 188) (hT : TE n M) : ∀ d, d < 260 → sCar r s nr n M r d = kv M s nr (M 81 61) n d := by
  have fr6 : ∀ q, q ≠ r → ∀ M d, gK6 r s M d q = M q := fun q hq M d => by unfold gK6; split <;> exact st_ne hq
  have fr58 : ∀ q, q ≠ 221 → ∀ M d, gK58 M d q = M q := fun q hq M d => by unfold gK58; exact st_ne hq
  -- the plain row
  have z6 : ∀ (m d : Nat) (M : bz_Mm), (∀ j, j < d → M r j = pln s) → ∀ j, j < d + m → itr (gK6 r s) d m M r j = pln s := by
    intro m
    induction m with
    | zero => intro d M h j hj; exact h j (by omega)
    | succ m ih =>
      intro d M h j hj
      rw [itr_S]
      refine ih (d + 1) _ (fun j hj => ?_) j (by omega)
      unfold gK6
      by_cases c : 1 < s
      · rw [if_pos c, st_eq]
        by_cases e : j = d
        · rw [e, ud_eq]
        · rw [ud_ne e]; exact h j (by omega)
      · rw [if_neg c, st_eq]
        by_cases e : j = d
        · rw [e, ud_eq]
          by_cases e0 : d = 0
          · rw [if_pos e0]
          · rw [if_neg e0]; exact h (d - 1) (by omega)
        · rw [ud_ne e]; exact h j (by omega)
  have z58 : ∀ (m d : Nat) (M : bz_Mm), (∀ j, j < d → M 221 j = 0) → ∀ j, j < d + m → itr gK58 d m M 221 j = 0 := by
    intro m
    induction m with
    | zero => intro d M h j hj; exact h j (by omega)
    | succ m ih =>
      intro d M h j hj
      rw [itr_S]
      refine ih (d + 1) _ (fun j hj => ?_) j (by omega)
      unfold gK58
      rw [st_eq]
      by_cases c : j = d
      · rw [c, ud_eq]
      · rw [ud_ne c]; exact h j (by omega)
  -- tellings
  have z83 : ∀ (m t : Nat) (W : bz_Mm), (∀ q, q < 158 → W q = M q) → t + m = n → (∀ d, d < 260 → W r d = lv M s nr (M 81 61) d t (pln s) ∧ ((∃ u, u < t ∧ tis M s nr (M 81 61) d u = true) ↔ ¬ W 221 d = 0)) → ∀ d, d < 260 → itr (gK83 r s nr) t m W r d = lv M s nr (M 81 61) d n (pln s) ∧ ((∃ u, u < n ∧ tis M s nr (M 81 61) d u = true) ↔ ¬ itr (gK83 r s nr) t m W 221 d = 0) := by
    intro m
    induction m with
    | zero => intro t W hW h1 h d hd; have e : t = n := by omega
              subst e; exact h d hd
    | succ m ih =>
      intro t W hW h1 h d hd
      rw [itr_S]
      obtain ⟨_, _, _, b4, b5⟩ := hT.2.2 t (by omega)
      refine ih (t + 1) _ (fun q hq => ?_) (by omega) (fun d hd => ?_) d hd
      · unfold gK83
        repeat' split
        all_goals first | exact hW q hq | (rw [st_ne (by omega), st_ne (by omega)]; exact hW q hq)
      · obtain ⟨h2, h3⟩ := h d hd
        have key : gK83 r s nr W t = if M 83 t = s then (if M 84 t = nr then (if M 81 61 < M 87 t then W else st_ (st_ W r (M 85 t).toNat (M 86 t)) 221 (M 85 t).toNat 1) else W) else W := by
          unfold gK83
          rw [hW 83 (by decide), hW 84 (by decide), hW 81 (by decide), hW 87 (by decide), hW 85 (by decide), hW 86 (by decide)]
        by_cases c : tis M s nr (M 81 61) d t = true
        · have c0 := c
          unfold tis at c
          simp only [Bool.and_eq_true, decide_eq_true_eq] at c
          obtain ⟨⟨⟨c1, c2⟩, c3⟩, c4⟩ := c
          have e : (M 85 t).toNat = d := by omega
          rw [key, if_pos c1, if_pos c2, if_neg c3, e]
          refine ⟨?_, ?_⟩
          · unfold lv
            rw [if_pos c0, st_ne (by omega), st_eq, ud_eq]
          · rw [st_eq, ud_eq]
            exact ⟨fun _ => by decide, fun _ => ⟨t, by omega, c0⟩⟩
        · have no : gK83 r s nr W t r d = W r d ∧ gK83 r s nr W t 221 d = W 221 d := by
            rw [key]
            by_cases c1 : M 83 t = s
            · by_cases c2 : M 84 t = nr
              · by_cases c3 : M 81 61 < M 87 t
                · rw [if_pos c1, if_pos c2, if_pos c3]; exact ⟨rfl, rfl⟩
                · have c4 : ¬ (M 85 t).toNat = d := fun q => by
                    apply c
                    unfold tis
                    simp only [Bool.and_eq_true, decide_eq_true_eq]
                    exact ⟨⟨⟨c1, c2⟩, c3⟩, by omega⟩
                  rw [if_pos c1, if_pos c2, if_neg c3, st_ne (by omega), st_eq, ud_ne (by omega), st_eq, ud_ne (by omega), st_ne (by omega)]
                  exact ⟨rfl, rfl⟩
              · rw [if_pos c1, if_neg c2]; exact ⟨rfl, rfl⟩
            · rw [if_neg c1]; exact ⟨rfl, rfl⟩
          rw [no.1, no.2]
          refine ⟨?_, ?_⟩
          · unfold lv; rw [if_neg c]; exact h2
          · rw [← h3]
            constructor
            · rintro ⟨u, u1, u2⟩
              refine ⟨u, ?_, u2⟩
              by_cases e : u = t
              · rw [e] at u2; exact absurd u2 c
              · omega
            · rintro ⟨u, u1, u2⟩; exact ⟨u, by omega, u2⟩
  have a6 := z6 260 0 M (fun j hj => absurd hj (by omega))
  have a58 := z58 260 0 (itr (gK6 r s) 0 260 M) (fun j hj => absurd hj (by omega))
  have a83 := z83 n 0 (itr gK58 0 260 (itr (gK6 r s) 0 260 M)) (fun q hq => by rw [itr_o (fr58 q (by omega)), itr_o (fr6 q (by omega))]) (by omega) (fun d hd => by
    refine ⟨?_, ?_⟩
    · rw [itr_o (fr58 r (by omega)), a6 d (by omega)]; rfl
    · rw [a58 d (by omega)]
      exact ⟨fun ⟨u, h, _⟩ => absurd h (by omega), fun h => absurd rfl h⟩)
  -- carrying on
  have z169 : s < 2 → ∀ (m d : Nat) (W : bz_Mm), 1 ≤ d → d + m = 260 → (∀ j, j < d → W r j = kv M s nr (M 81 61) n j) → (∀ j, d ≤ j → j < 260 → W r j = lv M s nr (M 81 61) j n (pln s)) → (∀ j, j < 260 → ((∃ u, u < n ∧ tis M s nr (M 81 61) j u = true) ↔ ¬ W 221 j = 0)) → ∀ j, j < 260 → itr (gK169 r) d m W r j = kv M s nr (M 81 61) n j := by
    intro hs m
    induction m with
    | zero => intro d W hd h1 h2 h3 h4 j hj; exact h2 j (by omega)
    | succ m ih =>
      intro d W hd h1 h2 h3 h4 j hj
      rw [itr_S]
      obtain ⟨d', rfl⟩ : ∃ q, d = q + 1 := ⟨d - 1, by omega⟩
      have e1 : d' + 1 - 1 = d' := by omega
      refine ih (d' + 1 + 1) _ (by omega) (by omega) (fun j hj => ?_) (fun j x y => ?_) (fun j hj => ?_) j hj
      · unfold gK169
        by_cases c : W 221 (d' + 1) = 0
        · rw [if_pos c, st_eq, e1]
          by_cases e : j = d' + 1
          · subst e
            rw [ud_eq, h2 d' (by omega), kv_S, if_pos hs, lv_0 n _ (fun t ht q => ((h4 (d' + 1) (by omega)).mp ⟨t, ht, q⟩) c)]
          · rw [ud_ne e]; exact h2 j (by omega)
        · rw [if_neg c]
          by_cases e : j = d' + 1
          · subst e
            rw [h3 (d' + 1) (by omega) (by omega), kv_S]
            exact lv_n n _ _ ((h4 (d' + 1) (by omega)).mpr c)
          · exact h2 j (by omega)
      · unfold gK169
        split
        · rw [st_eq, ud_ne (by omega)]; exact h3 j (by omega) y
        · exact h3 j (by omega) y
      · unfold gK169
        split
        · rw [st_ne (by omega)]; exact h4 j hj
        · exact h4 j hj
  intro d hd
  unfold sCar
  by_cases c : s < 2
  · rw [if_pos c]
    refine z169 c 259 1 _ (by decide) (by decide) (fun j hj => ?_) (fun j x y => (a83 j y).1) (fun j hj => (a83 j hj).2) d hd
    have e : j = 0 := by omega
    subst e
    rw [(a83 0 (by decide)).1]
    rfl
  · rw [if_neg c, (a83 d hd).1]
    cases d with
    | zero => rfl
    | succ d => unfold kv; rw [if_neg c]
/-- what is known, for all: the reference's rows -/
def KN (M X : bz_Mm) (k : Int) (n : Nat) : Prop := (∀ p d, p < 8 → d < 260 → X (158 + p) d = kv M 0 p k n d ∧ X (171 + p) d = kv M 2 p k n d ∧ X (180 + p) d = kv M 3 p k n d) ∧ ∀ d, d < 260 → X 167 d = 1000 ∧ X 168 d = kv M 1 1 k n d ∧ X 169 d = kv M 1 2 k n d
theorem r_knows {F n : Nat} {k : Int} (hF : 500 < F) (hk : r32 k) {M : bz_Mm} (hI : TE n M) : ∃ X, fM_knows F M k = some X ∧ KN M X k n ∧ (∀ q, q ≠ 81 → (q < 158 ∨ (187 < q ∧ q ≠ 221)) → X q = M q) ∧ X 81 = ud (M 81) 61 k := by
  have hI1 : TE n (st_ M 81 61 k) := by
    obtain ⟨h1, h2, h3⟩ := hI
    exact ⟨⟨by rw [st_eq, ud_ne (by decide)]; exact h1.1, h1.2⟩, by rw [st_eq, ud_eq]; exact hk, fun t ht => by rw [st_ne (by decide), st_ne (by decide), st_ne (by decide), st_ne (by decide)]; exact h3 t ht⟩
  have e61 : st_ M 81 61 k 81 61 = k := by rw [st_eq, ud_eq]
  generalize hM1 : st_ M 81 61 k = M1 at hI1 e61
  have c1 : ∀ q, 83 ≤ q → q ≤ 87 → M1 q = M q := fun q a b => by rw [← hM1, st_ne (by omega)]
  -- one row
  have one : ∀ (r s nr : Nat) (W : bz_Mm), (158 ≤ r ∧ r < 188) → s < 4 → nr < 8 → (∀ q, q < 158 → W q = M1 q) → ∃ W', fM_carries F W r (s : Int) (nr : Int) = some W' ∧ (∀ q, q ≠ r → q ≠ 221 → W' q = W q) ∧ ∀ d, d < 260 → W' r d = kv M s nr k n d := by
    intro r s nr W hr hs hnr hW
    have hT : TE n W := hI1.c hW
    obtain ⟨a1, a2⟩ := r_carries hF hr hs hnr hT
    refine ⟨_, a1, a2, fun d hd => ?_⟩
    rw [car_kv hr hT d hd, hW 81 (by decide), e61]
    exact kv_c (fun q a b => by rw [hW q (by omega), c1 q a b]) s nr k n d
  have l7 : ∀ (m fuel p : Nat) (W : bz_Mm), (∀ q, q < 158 → W q = M1 q) → p + m = 8 → m < fuel → ∃ W', M_knows_L7 F fuel (p : Int) W = some W' ∧ (∀ q, (q < 158 + p ∨ (165 < q ∧ q < 171 + p) ∨ (178 < q ∧ q < 180 + p) ∨ 187 < q) → q ≠ 221 → W' q = W q) ∧ ∀ p' d, p ≤ p' → p' < 8 → d < 260 → W' (158 + p') d = kv M 0 p' k n d ∧ W' (171 + p') d = kv M 2 p' k n d ∧ W' (180 + p') d = kv M 3 p' k n d := by
    intro m
    induction m with
    | zero =>
      intro fuel p W hW h1 h2
      obtain ⟨fuel, rfl⟩ : ∃ j, fuel = j + 1 := ⟨fuel - 1, by omega⟩
      rw [M_knows_L7, w32_n (by omega), if_neg (by omega)]
      exact ⟨W, rfl, fun _ _ _ => rfl, fun p' d a b => by omega⟩
    | succ m ih =>
      intro fuel p W hW h1 h2
      obtain ⟨fuel, rfl⟩ : ∃ j, fuel = j + 1 := ⟨fuel - 1, by omega⟩
      have e : (p : Int) + 1 = ((p + 1 : Nat) : Int) := by omega
      obtain ⟨W1, a1, a2, a3⟩ := one (158 + p) 0 p W (by omega) (by decide) (by omega) hW
      obtain ⟨W2, b1, b2, b3⟩ := one (171 + p) 2 p W1 (by omega) (by decide) (by omega) (fun q hq => by rw [a2 q (by omega) (by omega)]; exact hW q hq)
      obtain ⟨W3, d1, d2, d3⟩ := one (180 + p) 3 p W2 (by omega) (by decide) (by omega) (fun q hq => by rw [b2 q (by omega) (by omega), a2 q (by omega) (by omega)]; exact hW q hq)
      obtain ⟨W4, f1, f2, f3⟩ := ih fuel (p + 1) W3 (fun q hq => by rw [d2 q (by omega) (by omega), b2 q (by omega) (by omega), a2 q (by omega) (by omega)]; exact hW q hq) (by omega) (by omega)
      rw [show ((0 : Nat) : Int) = 0 from rfl] at a1
      rw [show ((2 : Nat) : Int) = 2 from rfl] at b1
      rw [show ((3 : Nat) : Int) = 3 from rfl] at d1
      rw [M_knows_L7, w32_n (show p ≤ 2147483647 by omega), if_pos (by omega)]
      simp (disch := omega) only [ra_i, Int.toNat_natCast]
      rw [a1, cl_s, b1, cl_s, d1, cl_s, e, f1]
      refine ⟨W4, rfl, fun q hq h2 => by rw [f2 q (by omega) h2, d2 q (by omega) h2, b2 q (by omega) h2, a2 q (by omega) h2], fun p' d x y z => ?_⟩
      by_cases c : p' = p
      · subst c
        rw [f2 (158 + p') (by omega) (by omega), d2 (158 + p') (by omega) (by omega), b2 (158 + p') (by omega) (by omega), a3 d z, f2 (171 + p') (by omega) (by omega), d2 (171 + p') (by omega) (by omega), b3 d z, f2 (180 + p') (by omega) (by omega), d3 d z]
        exact ⟨rfl, rfl, rfl⟩
      · exact f3 p' d (by omega) y z
  have l57 : ∀ (m fuel d : Nat) (W : bz_Mm), d + m = 260 → m < fuel → M_knows_L57 F fuel (d : Int) W = some (fl W 167 d 260 1000) := by
    intro m
    induction m with
    | zero =>
      intro fuel d W h1 h2
      obtain ⟨fuel, rfl⟩ : ∃ j, fuel = j + 1 := ⟨fuel - 1, by omega⟩
      have e : d = 260 := by omega
      subst e
      rw [M_knows_L57, if_neg (by decide), flz_0]
    | succ m ih =>
      intro fuel d W h1 h2
      obtain ⟨fuel, rfl⟩ : ∃ j, fuel = j + 1 := ⟨fuel - 1, by omega⟩
      have e : (d : Int) + 1 = ((d + 1 : Nat) : Int) := by omega
      have e0 : 167 + (0 : Int).toNat = 167 := rfl
      rw [M_knows_L57, w32_n (show d ≤ 2147483647 by omega), if_pos (by omega), ra_i (by decide) (by decide) (by decide), e0, wa_s (by omega) (by decide), e, ih fuel (d + 1) _ (by omega) (by omega), flz_1 (by omega)]
  obtain ⟨W1, a1, a2, a3⟩ := l7 8 F 0 M1 (fun _ _ => rfl) (by decide) (by omega)
  have b1 := l57 260 F 0 W1 (by decide) (by omega)
  rw [show ((0 : Nat) : Int) = 0 from rfl] at a1 b1
  obtain ⟨W3, d1, d2, d3⟩ := one 168 1 1 (fl W1 167 0 260 1000) (by decide) (by decide) (by decide) (fun q hq => by rw [flz_o (by omega), a2 q (by omega) (by omega)])
  obtain ⟨W4, f1, f2, f3⟩ := one 169 1 2 W3 (by decide) (by decide) (by decide) (fun q hq => by rw [d2 q (by omega) (by omega), flz_o (by omega), a2 q (by omega) (by omega)])
  rw [show ((1 : Nat) : Int) = 1 from rfl] at d1 f1
  rw [show ((2 : Nat) : Int) = 2 from rfl] at f1
  refine ⟨W4, ?_, ⟨fun p d x y => ?_, fun d hd => ?_⟩, fun q x y => ?_, ?_⟩
  · unfold fM_knows
    have g1 : 167 + (1 : Int).toNat = 168 := rfl
    have g2 : 167 + (2 : Int).toNat = 169 := rfl
    rw [wf_s, hM1, a1, cl1_s, b1, cl1_s, ra_i (by decide) (by decide) (by decide), g1, d1, cl_s, ra_i (by decide) (by decide) (by decide), g2, f1, cl_s]
  · obtain ⟨z1, z2, z3⟩ := a3 p d (by omega) x y
    rw [f2 (158 + p) (by omega) (by omega), d2 (158 + p) (by omega) (by omega), flz_o (by omega), f2 (171 + p) (by omega) (by omega), d2 (171 + p) (by omega) (by omega), flz_o (by omega), f2 (180 + p) (by omega) (by omega), d2 (180 + p) (by omega) (by omega), flz_o (by omega)]
    exact ⟨z1, z2, z3⟩
  · refine ⟨?_, ?_, f3 d hd⟩
    · rw [f2 167 (by decide) (by decide), d2 167 (by decide) (by decide), flz_e, if_pos (by omega)]
    · rw [f2 168 (by decide) (by decide)]; exact d3 d hd
  · rw [f2 q (by omega) (by omega), d2 q (by omega) (by omega), flz_o (by omega), a2 q (by omega) (by omega), ← hM1, st_ne x]
  · rw [f2 81 (by decide) (by decide), d2 81 (by decide) (by decide), flz_o (by decide), a2 81 (by omega) (by decide), ← hM1, st_eq]
