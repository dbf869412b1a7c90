/-! booking one day: class and reference, two memories -/
theorem tis_p {M M' : bz_Mm} {t : Nat} (h : ∀ q, 83 ≤ q → q ≤ 87 → M' q t = M q t) (s nr : Nat) (k : Int) (d : Nat) : tis M' s nr k d t = tis M s nr k d t := by
  unfold tis
  rw [h 83 (by decide) (by decide), h 84 (by decide) (by decide), h 87 (by decide) (by decide), h 85 (by decide) (by decide)]
theorem lv_p {M M' : bz_Mm} (s nr : Nat) (k : Int) (d : Nat) : ∀ (n : Nat) (v : Int), (∀ q t, 83 ≤ q → q ≤ 87 → t < n → M' q t = M q t) → lv M' s nr k d n v = lv M s nr k d n v := by
  intro n
  induction n with
  | zero => intro v _; rfl
  | succ n ih =>
    intro v h
    rw [lv_S, lv_S, tis_p (fun q a b => h q n a b (by omega)), ih v (fun q t a b c => h q t a b (by omega)), h 86 n (by decide) (by decide) (by omega)]
theorem kv_p {M M' : bz_Mm} {n : Nat} (h : ∀ q t, 83 ≤ q → q ≤ 87 → t < n → M' q t = M q t) (s nr : Nat) (k : Int) : ∀ d : Nat, kv M' s nr k n d = kv M s nr k n d := by
  intro d
  induction d with
  | zero => show lv M' s nr k 0 n (pln s) = lv M s nr k 0 n (pln s); exact lv_p s nr k 0 n _ h
  | succ d ih => rw [kv_S, kv_S, ih]; exact lv_p s nr k (d + 1) n _ h
theorem tis_kk {M : bz_Mm} {k k' : Int} {t : Nat} (hk : M 87 t ≤ k ∧ M 87 t ≤ k') (s nr d : Nat) : tis M s nr k' d t = tis M s nr k d t := by
  unfold tis
  rw [decide_eq_true (show ¬ k' < M 87 t by omega), decide_eq_true (show ¬ k < M 87 t by omega)]
theorem lv_kk {M : bz_Mm} {k k' : Int} (s nr d : Nat) : ∀ (n : Nat) (v : Int), (∀ t, t < n → M 87 t ≤ k ∧ M 87 t ≤ k') → lv M s nr k' d n v = lv M s nr k d n v := by
  intro n
  induction n with
  | zero => intro v _; rfl
  | succ n ih =>
    intro v hk
    rw [lv_S, lv_S, tis_kk (hk n (by omega)), ih v (fun t ht => hk t (by omega))]
theorem kv_kk {M M' : bz_Mm} {k k' : Int} {n : Nat} (h : ∀ q t, 83 ≤ q → q ≤ 87 → t < n → M' q t = M q t) (hk : ∀ t, t < n → M 87 t ≤ k ∧ M 87 t ≤ k') (s nr : Nat) : ∀ d : Nat, kv M' s nr k' n d = kv M s nr k n d := by
  intro d
  rw [kv_p h]
  induction d with
  | zero => show lv M s nr k' 0 n (pln s) = lv M s nr k 0 n (pln s); exact lv_kk s nr 0 n _ hk
  | succ d ih => rw [kv_S, kv_S, ih]; exact lv_kk s nr (d + 1) n _ hk
theorem KN.s {R K : bz_Mm} {k : Int} {n : Nat} (h : KN R K k n) (h2 : ∀ q t, 83 ≤ q → q ≤ 87 → t < n → K q t = R q t) : KN K K k n := by
  unfold KN at h ⊢
  refine ⟨fun p d hp hd => ?_, fun d hd => ?_⟩
  · rw [kv_p h2, kv_p h2, kv_p h2]; exact h.1 p d hp hd
  · rw [kv_p h2, kv_p h2]; exact h.2 d hd
theorem AL.p {M M' R R' : bz_Mm} {n : Nat} (h : AL M R n) (h2 : ∀ q, 8 < q → q < 16 → M' q = M q) (h3 : ∀ q t, 83 ≤ q → q ≤ 87 → t < n → R' q t = R q t) : AL M' R' n := by
  obtain ⟨a, b, c⟩ := h
  refine ⟨by rw [h2 9 (by decide) (by decide)]; exact a, by rw [h2 10 (by decide) (by decide), h2 11 (by decide) (by decide)]; exact b, fun t ht => ?_⟩
  rw [h2 10 (by decide) (by decide), h2 12 (by decide) (by decide), h2 13 (by decide) (by decide), h2 14 (by decide) (by decide), h2 15 (by decide) (by decide), h3 83 t (by decide) (by decide) ht, h3 84 t (by decide) (by decide) ht, h3 85 t (by decide) (by decide) ht, h3 86 t (by decide) (by decide) ht, h3 87 t (by decide) (by decide) ht]
  exact c t ht
theorem KN.e {R K R' K' : bz_Mm} {k k' : Int} {n : Nat} (h : KN R K k n) (h' : KN R' K' k' n) (hr : ∀ q t, 83 ≤ q → q ≤ 87 → t < n → R' q t = R q t) (hk : ∀ t, t < n → R 87 t ≤ k ∧ R 87 t ≤ k') : ∀ q d, 158 ≤ q → q < 188 → (q ≠ 166 ∧ q ≠ 170 ∧ q ≠ 179) → d < 260 → K' q d = K q d := by
  intro q d a b c hd
  have e := fun s nr => kv_kk hr hk s nr d
  by_cases q1 : q < 166
  · have x := h.1 (q - 158) d (by omega) hd
    have y := h'.1 (q - 158) d (by omega) hd
    rw [show 158 + (q - 158) = q by omega] at x y
    rw [y.1, x.1, e]
  · by_cases q2 : q < 170
    · obtain ⟨x1, x2, x3⟩ := h.2 d hd
      obtain ⟨y1, y2, y3⟩ := h'.2 d hd
      by_cases z1 : q = 167
      · rw [z1, x1, y1]
      · by_cases z2 : q = 168
        · rw [z2, x2, y2, e]
        · rw [show q = 169 by omega, x3, y3, e]
    · by_cases q3 : q < 179
      · have x := h.1 (q - 171) d (by omega) hd
        have y := h'.1 (q - 171) d (by omega) hd
        rw [show 171 + (q - 171) = q by omega] at x y
        rw [y.2.1, x.2.1, e]
      · have x := h.1 (q - 180) d (by omega) hd
        have y := h'.1 (q - 180) d (by omega) hd
        rw [show 180 + (q - 180) = q by omega] at x y
        rw [y.2.2, x.2.2, e]
/-- K is R after knows(k) -/
def KW (R K : bz_Mm) (k : Int) (n : Nat) : Prop := KN R K k n ∧ (∀ q, ((44 < q ∧ q < 48) ∨ q = 82 ∨ (87 < q ∧ q < 158) ∨ (210 < q ∧ q < 221)) → K q = R q) ∧ (K 81 61 = k ∧ K 81 43 = R 81 43) ∧ ∀ q t, 83 ≤ q → q ≤ 87 → t < n → K q t = R q t
def wlk (nf nt nd : Nat) (bk : Int) (N : Nat) (K : bz_Mm) : bz_Mm := itr (fun X d => itr (gGo d nt nd bk 0) 0 nf X) 0 N (sBeg nd K)
def BX (n nf nt nd nl D : Nat) (M R : bz_Mm) : Prop := (R 81 0 = D ∧ R 81 19 = nf ∧ RT nl nt nd R ∧ TE n R) ∧ ((∀ t, t < n → R 87 t ≤ D ∧ 0 ≤ R 86 t ∧ R 86 t ≤ 10000) ∧ ∀ t, t < nt → R 102 t ≤ D) ∧ (∀ i, i < nd → D ≤ R 106 i → R 107 i = 0) ∧ (∀ i, i < nd → R 108 i = if R 106 i < D ∧ opn (R 82) (R 106 i).toNat = true then 1 else 0) ∧ ((∀ w g D', w < 20 → g < 4 → 0 ≤ hwm R w g D' nd) ∧ ∀ i, i < nd → 0 ≤ hbi R nd i + R 107 i) ∧ (∀ g d, g < nf → d < D → opn (R 82) d = true → M 48 (g * 260 + d) = R (212 + g) d ∧ 0 ≤ M 48 (g * 260 + d) ∧ M 48 (g * 260 + d) ≤ 10000000 ∧ -10000000000000 ≤ M 49 (g * 260 + d) ∧ M 49 (g * 260 + d) ≤ 10000000000000) ∧ (∀ i, i < nd → M 39 i = R 105 i ∧ -10000 ≤ R 105 i ∧ R 105 i ≤ 10000) ∧ ∀ K, KW R K D n → STc K M D n nf nt nd nl D ∧ BD K M D n nf nt nd D (wlk nf nt nd 1 D K)
/-- units of days to come are none -/
theorem hwm_past {K : bz_Mm} {w g D D' : Nat} (hD : D ≤ D') : ∀ n : Nat, (∀ i, i < n → D ≤ K 106 i → K 107 i = 0) → hwm K w g D' n = hwm K w g D n := by
  intro n
  induction n with
  | zero => intro _; rfl
  | succ n ih =>
    intro h
    rw [hwm_S, hwm_S, ih (fun i hi => h i (by omega))]
    by_cases c : K 104 n = g ∧ K 106 n < D
    · rw [if_pos c, if_pos (c := K 104 n = g ∧ K 106 n < (D' : Int)) ⟨c.1, by omega⟩]
    · rw [if_neg c]
      by_cases c2 : K 104 n = g ∧ K 106 n < (D' : Int)
      · rw [if_pos c2, h n (by omega) (by omega)]; split <;> omega
      · rw [if_neg c2]
theorem bx_step {F : Nat} {M R : bz_Mm} {l2 : Int} {n nf nt nd nl D : Nat} (hF : 500 < F) (hD : D < 260) (h : BX n nf nt nd nl D M R) : ∃ M1 Mu R2, fUC_openDay F M (D : Int) (D : Int) 0 = some M1 ∧ UC_bookUntil_L30 F F (D : Int) l2 0 M1 = some Mu ∧ fM_books F R = some R2 ∧ BX n nf nt nd nl (D + 1) Mu (st_ R2 81 0 ((D : Int) + 1)) ∧ (∀ q, (q < 40 ∨ q = 42 ∨ (44 < q ∧ q < 48) ∨ (49 < q ∧ q < 53) ∨ 64 < q) → Mu q = M q) ∧ (∀ j, (j < 11 ∨ 16 < j) → Mu 53 j = M 53 j) ∧ (∀ q, q ≠ 81 → q ≠ 107 → q ≠ 108 → q ≠ 109 → (q < 158 ∨ 222 < q) → R2 q = R q) ∧ (∀ j, j ≠ 61 → R2 81 j = R 81 j) ∧ ∀ i, nd ≤ i → (Mu 40 i = M 40 i ∧ Mu 41 i = M 41 i) ∧ R2 107 i = R 107 i ∧ R2 108 i = R 108 i ∧ R2 109 i = R 109 i := by
  obtain ⟨⟨h0, h19, hRT, hTE⟩, ⟨hm1, hm2⟩, hun, h108, ⟨hhw, hhb⟩, h48, h39, hK⟩ := h
  obtain ⟨X, a1, a2, a3, a4, a5, a6⟩ := r_through (F := F) (how := 1) (N := D + 1) (k := (D : Int)) hF ⟨by omega, by omega⟩ (by omega) (by decide) hRT hTE h19
  obtain ⟨hS, hBD⟩ := hK X ⟨a2, fun q hq => a3 q (by omega) (by omega), ⟨by rw [a4, ud_eq], by rw [a4, ud_ne (by decide)]⟩, fun q t u v _ => by rw [a3 q (by omega) (by omega)]⟩
  have hS0 := hS
  have hwX := hS.wok (W := X) (fun _ _ => rfl)
  have hday := hS.day
  have x39 : ∀ i, i < nd → M 39 i = X 105 i ∧ -10000 ≤ X 105 i ∧ X 105 i ≤ 10000 := fun i hi => by rw [a3 105 (by decide) (by decide)]; exact h39 i hi
  obtain ⟨M1, Mu, pc0, pc1, dc, b1, b2, b3, b4, b5, b6, b7, b8, b9⟩ := book_day (F := F) (l2 := l2) hF hD hS x39 hBD
  obtain ⟨t1, t2, t3, t4, t5, t6, t7, t8, t8b, ⟨t9, t9b⟩, t10, t11⟩ := b3
  have wk : itr (gDay 1 (D + 1 - 1) nf nt nd) 0 (D + 1) (sBeg nd X) = itr (gGo D nt nd 0 1) 0 nf (wlk nf nt nd 1 D X) := by
    rw [show D + 1 - 1 = D by omega]; exact walk_1
  rw [wk] at a6
  obtain ⟨hA, hT, hDA, ⟨h14, hnf⟩, hC, ⟨hK1, hK2, hK3⟩, ⟨hLa, hLq⟩, h43, h7, hz, hal, hfee⟩ := hS
  have nd2 := hDA.1.2
  generalize hW : wlk nf nt nd 1 D X = W at hBD t4 t5 t6 t7 t8 t8b t9 t10 t11 b9 a6
  generalize hWN : itr (gGo D nt nd 0 1) 0 nf W = WN at t4 t5 t6 t7 t8 t8b t9 t10 t11 b9 a6
  have wN : ∀ q, q < 188 → q ≠ 107 → WN q = X q := fun q a b => t4 q (Or.inl ⟨a, b⟩)
  have x0 : ∀ j, j ≠ 61 → X 81 j = R 81 j := fun j hj => by rw [a4, ud_ne hj]
  have xR : ∀ q, q ≠ 81 → (q < 158 ∨ (187 < q ∧ q ≠ 221)) → X q = R q := a3
  obtain ⟨R1, c1, c2, c3⟩ := r_books15 (F := F) (D := D) (nf := nf) (W := WN) (by omega) hnf hD (by rw [wN 81 (by decide) (by decide), x0 0 (by decide)]; exact h0) (by rw [wN 81 (by decide) (by decide), x0 19 (by decide)]; exact h19) (by rw [wN 82 (by decide) (by decide)]; exact fun j hj => (h7 j hj).2)
  have r106 : R1 106 = X 106 := by rw [c2 106 (by decide)]; exact wN 106 (by decide) (by decide)
  have r82 : R1 82 = X 82 := by rw [c2 82 (by decide)]; exact wN 82 (by decide) (by decide)
  obtain ⟨R2, e1, e2, e3⟩ := r_books90 (F := F) (D := D) (nd := nd) (W := R1) (by omega) nd2 hD (by rw [c2 81 (by decide), wN 81 (by decide) (by decide), x0 0 (by decide)]; exact h0) (by rw [c2 81 (by decide), wN 81 (by decide) (by decide), x0 35 (by decide)]; exact hRT.2.2.1.1) (fun i hi => by rw [r106]; have := hday i hi; exact ⟨by omega, by omega⟩) (by rw [r82]; exact fun j hj => (h7 j hj).2)
  rw [r106, r82] at e3
  -- rows of the reference afterwards
  have y0 : ∀ q, q ≠ 107 → q ≠ 108 → q ≠ 109 → (q < 188 ∨ 222 < q) → R2 q = X q := fun q w1 w2 w3 w4 => by rw [e2 q w2 w3, c2 q (by omega)]; exact t4 q (by omega)
  have y7 : R2 107 = WN 107 := by rw [e2 107 (by decide) (by decide), c2 107 (by decide)]
  have y9 : ∀ i, R2 109 i = if i < nd ∧ X 106 i = D ∧ opn (X 82) D = true then WN 189 i else X 109 i := fun i => by
    rw [(e3 i).2, c2 189 (by decide), c2 109 (by decide), wN 109 (by decide) (by decide)]
  have y8 : ∀ i, R2 108 i = if i < nd ∧ X 106 i = D ∧ opn (X 82) D = true then 1 else X 108 i := fun i => by
    rw [(e3 i).1, c2 108 (by decide), wN 108 (by decide) (by decide)]
  have y212 : ∀ g, g < nf → R2 (212 + g) = ud (R (212 + g)) D (WN (196 + g) D) := fun g hg => by
    rw [e2 (212 + g) (by omega) (by omega), (c3 g (by omega)).1, if_pos hg, t4 (212 + g) (by omega), xR (212 + g) (by omega) (by omega)]
  have y217 : ∀ g, g < nf → R2 (217 + g) = ud (X (217 + g)) D (if opn (X 82) D = true then WN (201 + g) D else 0) := fun g hg => by
    rw [e2 (217 + g) (by omega) (by omega), (c3 g (by omega)).2, if_pos hg, t4 (217 + g) (by omega), wN 82 (by decide) (by decide)]
  have y217n : ∀ g, g < 4 → ¬ g < nf → R2 (217 + g) = X (217 + g) := fun g hg hn => by
    rw [e2 (217 + g) (by omega) (by omega), (c3 g hg).2, if_neg hn, t4 (217 + g) (by omega)]
  have f104 : ∀ i, i < nd → 0 ≤ X 104 i ∧ X 104 i < nf := fun i hi => (hDA.2.2 i hi).2.2.1
  have n189 : ∀ i, i < nd → R2 109 i = WN 189 i := fun i hi => by
    rw [y9 i]
    by_cases c : i < nd ∧ X 106 i = D ∧ opn (X 82) D = true
    · rw [if_pos c]
    · rw [if_neg c]
      exact ((t10 i hi).2.2.2.2.2.2.1 (fun q => c ⟨hi, q.2⟩)).2.symm
  have n107 : ∀ i, i < nd → ¬ (X 106 i = D ∧ opn (X 82) D = true) → WN 107 i = X 107 i := fun i hi c => ((t10 i hi).2.2.2.2.2.2.1 (fun q => c q.2)).1
  have bks : fM_books F R = some R2 := by
    unfold fM_books
    rw [h0]
    have e : ((D + 1 : Nat) : Int) - 1 = (D : Int) := by omega
    rw [e] at a6
    rw [show (1 : Int) = ((1 : Nat) : Int) from rfl, a6, cl_s, c1, cl1_s, e1, cl1_s]
  refine ⟨M1, Mu, R2, b1, b2, bks, ?_, t1, b8, fun q w1 w2 w3 w4 w5 => ?_, fun j hj => ?_, fun i hi => ?_⟩
  rotate_left
  · rw [y0 q w2 w3 w4 (by omega)]; exact xR q w1 (by omega)
  · rw [y0 81 (by decide) (by decide) (by decide) (by decide)]; exact x0 j hj
  · obtain ⟨p1, p2, p3⟩ := t11 i hi
    have ni : ¬ i < nd := by omega
    rw [y7, p3, y8 i, y9 i, if_neg (fun q => ni q.1), if_neg (fun q => ni q.1), xR 107 (by decide) (by decide), xR 108 (by decide) (by decide), xR 109 (by decide) (by decide)]
    exact ⟨⟨p1, p2⟩, rfl, rfl, rfl⟩
  -- the new day
  have S : ∀ q, q ≠ 81 → st_ R2 81 0 ((D : Int) + 1) q = R2 q := fun q hq => st_ne hq
  have S81 : st_ R2 81 0 ((D : Int) + 1) 81 = ud (R2 81) 0 ((D : Int) + 1) := st_eq _ _ _ _
  generalize hR' : st_ R2 81 0 ((D : Int) + 1) = R' at S S81
  have s0 : ∀ q, q ≠ 81 → q ≠ 107 → q ≠ 108 → q ≠ 109 → (q < 188 ∨ 222 < q) → R' q = X q := fun q w0 w1 w2 w3 w4 => by rw [S q w0]; exact y0 q w1 w2 w3 w4
  have s81 : ∀ j, j ≠ 0 → j ≠ 61 → R' 81 j = R 81 j := fun j w1 w2 => by rw [S81, ud_ne w1, y0 81 (by decide) (by decide) (by decide) (by decide)]; exact x0 j w2
  have hwp : ∀ w g, w < 20 → g < 4 → hwm R' w g (D + 1) nd = WN (206 + g) w ∧ 0 ≤ WN (206 + g) w := fun w g hw hg => by
    obtain ⟨z1, z2, z3⟩ := t8 w g hw hg
    refine ⟨?_, z2⟩
    rw [z3]
    have e : hwm R' w g (D + 1) nd = hwm WN w g (D + 1) nd := hwm_e nd (fun i hi => by
      rw [s0 103 (by decide) (by decide) (by decide) (by decide) (by decide), s0 104 (by decide) (by decide) (by decide) (by decide) (by decide), s0 106 (by decide) (by decide) (by decide) (by decide) (by decide), S 107 (by decide), y7, wN 103 (by decide) (by decide), wN 104 (by decide) (by decide), wN 106 (by decide) (by decide)]
      exact ⟨rfl, rfl, rfl, fun _ _ => rfl⟩)
    rw [e]
    by_cases c : g < nf
    · rw [if_pos c]
    · rw [if_neg c, hwm_D, sdl_z nd (fun i hi q _ => by rw [wN 104 (by decide) (by decide)] at q; have := f104 i hi; omega), Int.add_zero]
  have hun' : ∀ i, i < nd → ((D + 1 : Nat) : Int) ≤ R' 106 i → R' 107 i = 0 := fun i hi q => by
    rw [s0 106 (by decide) (by decide) (by decide) (by decide) (by decide)] at q
    rw [S 107 (by decide), y7, n107 i hi (fun c => by omega), xR 107 (by decide) (by decide)]
    exact hun i hi (by rw [← xR 106 (by decide) (by decide)]; omega)
  have hhw' : ∀ w g D', w < 20 → g < 4 → 0 ≤ hwm R' w g D' nd := fun w g D' hw hg => by
    by_cases c : D + 1 ≤ D'
    · rw [hwm_past c nd hun', (hwp w g hw hg).1]; exact (hwp w g hw hg).2
    · have e : hwm R' w g D' nd = hwm R w g D' nd := hwm_e nd (fun i hi => by
        rw [s0 103 (by decide) (by decide) (by decide) (by decide) (by decide), s0 104 (by decide) (by decide) (by decide) (by decide) (by decide), s0 106 (by decide) (by decide) (by decide) (by decide) (by decide), S 107 (by decide), y7, xR 103 (by decide) (by decide), xR 104 (by decide) (by decide), xR 106 (by decide) (by decide)]
        refine ⟨rfl, rfl, rfl, fun _ q => ?_⟩
        rw [n107 i hi (fun c2 => by rw [xR 106 (by decide) (by decide)] at c2; omega), xR 107 (by decide) (by decide)])
      rw [e]; exact hhw w g D' hw hg
  have rR : ∀ q, (q = 103 ∨ q = 104 ∨ q = 106) → R' q = R q := fun q hq => by rw [s0 q (by omega) (by omega) (by omega) (by omega) (by omega)]; exact xR q (by omega) (by omega)
  have dR : ∀ i, i < nd → 0 ≤ R 106 i := fun i hi => by rw [← xR 106 (by decide) (by decide)]; exact (hday i hi).1
  have hhb' : ∀ i, i < nd → 0 ≤ hbi R' nd i + R' 107 i := fun i hi => by
    by_cases c1 : R 106 i < (D : Int)
    · have e : hbi R' nd i = hbi R nd i := hbi_e hi (fun j hj => by
        rw [rR 103 (by decide), rR 104 (by decide), rR 106 (by decide), S 107 (by decide), y7]
        refine ⟨rfl, rfl, rfl, fun q _ => ?_⟩
        rw [n107 j hj (fun c2 => by rw [xR 106 (by decide) (by decide)] at c2; omega), xR 107 (by decide) (by decide)]) dR
      rw [e, S 107 (by decide), y7, n107 i hi (fun c2 => by rw [xR 106 (by decide) (by decide)] at c2; omega), xR 107 (by decide) (by decide)]
      exact hhb i hi
    · have i3 := (hwX.2.2.1 i hi).2
      have i4 := f104 i hi
      have i6 := dR i hi
      by_cases c2 : R 106 i = (D : Int) ∧ opn (X 82) D = true
      · have k := (t10 i hi).2.2.2.2.2.2.2 i4.2 (by rw [xR 106 (by decide) (by decide)]; exact c2.1) c2.2
        have e6 : (R 106 i).toNat = D := by omega
        unfold hbi
        rw [rR 103 (by decide), rR 104 (by decide), rR 106 (by decide), e6, S 107 (by decide), y7]
        rw [xR 103 (by decide) (by decide), xR 104 (by decide) (by decide)] at k
        have h1 : hwm R' (R 103 i).toNat (R 104 i).toNat D nd = hwm WN (R 103 i).toNat (R 104 i).toNat D nd := hwm_e nd (fun j hj => by
          rw [rR 103 (by decide), rR 104 (by decide), rR 106 (by decide), S 107 (by decide), y7, wN 103 (by decide) (by decide), wN 104 (by decide) (by decide), wN 106 (by decide) (by decide), xR 103 (by decide) (by decide), xR 104 (by decide) (by decide), xR 106 (by decide) (by decide)]
          exact ⟨rfl, rfl, rfl, fun _ _ => rfl⟩)
        have h2 : sdl R' (R 104 i).toNat D (fun j => if R 103 j = R 103 i then WN 107 j else 0) i = sdl WN (R 104 i).toNat D (fun j => if R 103 j = R 103 i then WN 107 j else 0) i := sdl_c i (fun j hj => ⟨⟨by rw [rR 104 (by decide), wN 104 (by decide) (by decide), xR 104 (by decide) (by decide)], by rw [rR 106 (by decide), wN 106 (by decide) (by decide), xR 106 (by decide) (by decide)]⟩, fun _ _ => rfl⟩)
        rw [h1, h2]
        exact k
      · have z7 : ∀ j, j < nd → R 106 j = R 106 i → R' 107 j = 0 := fun j hj q => by
          rw [S 107 (by decide), y7, n107 j hj (fun c3 => by
            rw [xR 106 (by decide) (by decide)] at c3
            exact c2 ⟨by omega, c3.2⟩), xR 107 (by decide) (by decide)]
          exact hun j hj (by omega)
        rw [z7 i hi rfl, Int.add_zero]
        unfold hbi
        have h2 : sdl R' (R' 104 i).toNat (R' 106 i).toNat (fun j => if R' 103 j = R' 103 i then R' 107 j else 0) i = 0 := sdl_z i (fun j hj _ q => by
          rw [rR 106 (by decide)] at q
          rw [z7 j (by omega) (by omega)]; split <;> rfl)
        rw [h2, Int.add_zero]
        refine hhw' _ _ _ ?_ ?_
        · rw [rR 103 (by decide), ← xR 103 (by decide) (by decide)]; omega
        · rw [rR 104 (by decide), ← xR 104 (by decide) (by decide)]; omega
  have d1 : (D : Int) + 1 = ((D + 1 : Nat) : Int) := by omega
  refine ⟨⟨by rw [S81, ud_eq]; exact d1, by rw [s81 19 (by decide) (by decide)]; exact h19, ?_, ?_⟩, ⟨fun t ht => ?_, fun t ht => ?_⟩, hun', fun i hi => ?_, ⟨hhw', hhb'⟩, fun g d hg hd hop => ?_, fun i hi => ?_, fun K' hKW => ?_⟩
  · -- RT
    obtain ⟨z1, z2, z3, z4, z5, z6, z7, z8, z9⟩ := hRT
    refine ⟨by rw [s81 19 (by decide) (by decide)]; exact z1, by rw [s81 27 (by decide) (by decide)]; exact z2, by rw [s81 35 (by decide) (by decide)]; exact z3, ?_, ?_, ?_, ?_, iv_la.c (fun q hq => by rw [s0 q (by omega) (by omega) (by omega) (by omega) (by omega)]; exact xR q (by omega) (by omega)) (s81 43 (by decide) (by decide)) z8, ?_⟩
    · rw [S81, ud_ne (by decide), y0 81 (by decide) (by decide) (by decide) (by decide), hK2]; exact hK3
    · rw [s0 97 (by decide) (by decide) (by decide) (by decide) (by decide), s0 98 (by decide) (by decide) (by decide) (by decide) (by decide), s0 99 (by decide) (by decide) (by decide) (by decide) (by decide), s0 102 (by decide) (by decide) (by decide) (by decide) (by decide), xR 97 (by decide) (by decide), xR 98 (by decide) (by decide), xR 99 (by decide) (by decide), xR 102 (by decide) (by decide)]; exact z5
    · rw [s0 103 (by decide) (by decide) (by decide) (by decide) (by decide), s0 104 (by decide) (by decide) (by decide) (by decide) (by decide), s0 105 (by decide) (by decide) (by decide) (by decide) (by decide), s0 106 (by decide) (by decide) (by decide) (by decide) (by decide), xR 103 (by decide) (by decide), xR 104 (by decide) (by decide), xR 105 (by decide) (by decide), xR 106 (by decide) (by decide)]; exact z6
    · rw [s0 92 (by decide) (by decide) (by decide) (by decide) (by decide), xR 92 (by decide) (by decide)]; exact z7
    · rw [s0 82 (by decide) (by decide) (by decide) (by decide) (by decide), xR 82 (by decide) (by decide)]; exact z9
  · -- TE
    obtain ⟨z1, z2, z3⟩ := hTE
    refine ⟨by rw [s81 12 (by decide) (by decide)]; exact z1, ?_, ?_⟩
    · rw [S81, ud_ne (by decide), y0 81 (by decide) (by decide) (by decide) (by decide), hK2]; exact hK3
    · rw [s0 83 (by decide) (by decide) (by decide) (by decide) (by decide), s0 84 (by decide) (by decide) (by decide) (by decide) (by decide), s0 85 (by decide) (by decide) (by decide) (by decide) (by decide), s0 87 (by decide) (by decide) (by decide) (by decide) (by decide), xR 83 (by decide) (by decide), xR 84 (by decide) (by decide), xR 85 (by decide) (by decide), xR 87 (by decide) (by decide)]; exact z3
  · rw [s0 87 (by decide) (by decide) (by decide) (by decide) (by decide), xR 87 (by decide) (by decide), s0 86 (by decide) (by decide) (by decide) (by decide) (by decide), xR 86 (by decide) (by decide)]
    have := hm1 t ht; omega
  · rw [s0 102 (by decide) (by decide) (by decide) (by decide) (by decide), xR 102 (by decide) (by decide)]
    have := hm2 t ht; omega
  · rw [S 108 (by decide), y8 i, s0 106 (by decide) (by decide) (by decide) (by decide) (by decide), s0 82 (by decide) (by decide) (by decide) (by decide) (by decide), xR 108 (by decide) (by decide), h108 i hi, xR 106 (by decide) (by decide), xR 82 (by decide) (by decide)]
    have d0 := hday i hi
    rw [xR 106 (by decide) (by decide)] at d0
    by_cases c : R 106 i = D
    · have tn : (R 106 i).toNat = D := by omega
      rw [tn]
      by_cases o : opn (R 82) D = true
      · rw [if_pos ⟨hi, c, o⟩, if_pos ⟨by omega, o⟩]
      · rw [if_neg (fun q => o q.2.2), if_neg (fun q => o q.2), if_neg (fun q => o q.2)]
    · rw [if_neg (fun q => c q.2.1)]
      by_cases z : R 106 i < D ∧ opn (R 82) (R 106 i).toNat = true
      · rw [if_pos z, if_pos ⟨by omega, z.2⟩]
      · rw [if_neg z, if_neg (fun q => z ⟨by omega, q.2⟩)]
  · rw [s0 82 (by decide) (by decide) (by decide) (by decide) (by decide), xR 82 (by decide) (by decide)] at hop
    rw [S (212 + g) (by omega), y212 g hg]
    by_cases c : d = D
    · subst c
      rw [ud_eq]
      obtain ⟨z1, z2, z3, z4, z5⟩ := t9 g hg (by rw [xR 82 (by decide) (by decide)]; exact hop)
      exact ⟨z1, z3, z4, z5⟩
    · rw [ud_ne c, (t9b (g * 260 + d) (fun g' hg' => by omega)).1, (t9b (g * 260 + d) (fun g' hg' => by omega)).2]
      exact h48 g d hg (by omega) hop
  · rw [s0 105 (by decide) (by decide) (by decide) (by decide) (by decide), xR 105 (by decide) (by decide), t1 39 (by decide)]
    exact h39 i hi
  · -- what is known next day
    rw [← d1] at hKW
    obtain ⟨w1, w2, w3, w5⟩ := hKW
    have kX : ∀ q, q ≠ 81 → q ≠ 107 → q ≠ 108 → q ≠ 109 → ((44 < q ∧ q < 48) ∨ q = 82 ∨ (87 < q ∧ q < 158)) → K' q = X q := fun q v0 v1 v2 v3 v4 => by rw [w2 q (by omega)]; exact s0 q v0 v1 v2 v3 (by omega)
    have k43 : K' 81 43 = X 81 43 := by rw [w3.2, s81 43 (by decide) (by decide), x0 43 (by decide)]
    have k61 : K' 81 61 = (D : Int) + 1 := w3.1
    have k107 : K' 107 = WN 107 := by rw [w2 107 (by decide), S 107 (by decide), y7]
    have k109 : ∀ i, i < nd → K' 109 i = WN 189 i := fun i hi => by rw [w2 109 (by decide), S 109 (by decide)]; exact n189 i hi
    have k217 : ∀ g d, g < 4 → d < D → K' (217 + g) d = X (217 + g) d := fun g d hg hd => by
      rw [w2 (217 + g) (by omega), S (217 + g) (by omega)]
      by_cases c : g < nf
      · rw [y217 g c, ud_ne (by omega)]
      · rw [y217n g hg c]
    have k217D : opn (X 82) D = true → ∀ g, g < nf → K' (217 + g) D = WN (201 + g) D := fun ho g hg => by
      rw [w2 (217 + g) (by omega), S (217 + g) (by omega), y217 g hg, ud_eq, if_pos ho]
    have hrr : ∀ q t, 83 ≤ q → q ≤ 87 → t < n → R' q t = R q t := fun q t u v _ => by rw [s0 q (by omega) (by omega) (by omega) (by omega) (by omega), xR q (by omega) (by omega)]
    have kT : ∀ q t, 83 ≤ q → q ≤ 87 → t < n → K' q t = X q t := fun q t u v ht => by rw [w5 q t u v ht, hrr q t u v ht, xR q (by omega) (by omega)]
    have knE := KN.e a2 w1 hrr (fun t ht => by have := hm1 t ht; omega)
    have n43 : (X 81 43).toNat ≤ 6 := by have := hwX.2.2.2.2.1; have := hwX.2.2.2.2.2.1; omega
    have laK : iv_la K' nl := iv_la.c (fun q hq => kX q (by omega) (by omega) (by omega) (by omega) (by omega)) k43 hwX.2.2.2
    have u107 : ∀ i, i < nd → -10000 ≤ K' 107 i ∧ K' 107 i ≤ 10000 := fun i hi => by rw [k107]; exact (t10 i hi).2.1
    have wokK : WOK nl nt nd K' := by
      obtain ⟨z1, z2, z3, z4⟩ := hwX
      refine ⟨by rw [kX 92 (by decide) (by decide) (by decide) (by decide) (by decide)]; exact z1, by rw [kX 98 (by decide) (by decide) (by decide) (by decide) (by decide)]; exact z2, fun i hi => ⟨?_, by rw [kX 103 (by decide) (by decide) (by decide) (by decide) (by decide)]; exact (z3 i hi).2⟩, laK⟩
      have := u107 i hi; exact ⟨by omega, by omega⟩
    have kOr : K' 81 61 = X 81 61 ∨ ∀ t, t < nt → X 102 t ≤ X 81 61 ∧ X 102 t ≤ K' 81 61 := Or.inr (fun t ht => by
      rw [xR 102 (by decide) (by decide), hK2, k61]
      have := hm2 t ht; omega)
    have row4 : ∀ i, i < nd → K' 103 i = X 103 i ∧ K' 104 i = X 104 i ∧ K' 105 i = X 105 i ∧ K' 106 i = X 106 i := fun i hi => by
      rw [kX 103 (by decide) (by decide) (by decide) (by decide) (by decide), kX 104 (by decide) (by decide) (by decide) (by decide) (by decide), kX 105 (by decide) (by decide) (by decide) (by decide) (by decide), kX 106 (by decide) (by decide) (by decide) (by decide) (by decide)]
      exact ⟨rfl, rfl, rfl, rfl⟩
    have hCG : CG X K' nt nd nd D := by
      refine ⟨fun q hq => kX q (by omega) (by omega) (by omega) (by omega) (by omega), fun q d u1 u2 u3 u4 => knE q d u1 u2 u3 (by omega), kOr, Nat.le_refl nd, row4, fun i hi q => ⟨?_, ?_⟩, fun i u v => by omega, fun d _ => by rw [kX 82 (by decide) (by decide) (by decide) (by decide) (by decide)], fun f d w hf _ _ => rv_c (fun q u v => kX q (by omega) (by omega) (by omega) (by omega) (by omega)) k43 n43 f hf d w, k217⟩
      · rw [k107]; exact n107 i hi (fun c => by omega)
      · rw [w2 109 (by decide), S 109 (by decide), y9 i, if_neg (fun c => by omega)]
    have hCH : CH X nf nt nd nl := ⟨hwX, nd2, hnf, fun i hi => ⟨(hDA.2.2 i hi).2.2.2.1, (hday i hi).1, (hz i hi).1⟩, hal⟩
    have hKK : KK X K' nt nd nl D := ⟨fun q hq => kX q (by omega) (by omega) (by omega) (by omega) (by omega), fun q u1 u2 u3 => knE q D u1 u2 u3 hD, kOr, row4, by rw [kX 82 (by decide) (by decide) (by decide) (by decide) (by decide)], wokK⟩
    have ww := cg_walk (bk := 1) (m := D) (Or.inr rfl) hCG hCH f104 wokK nd2 u107 (by omega) (Nat.le_refl D)
    have nb0 : NB K' nd W (wlk nf nt nd 1 D K') := by
      rw [← hW]
      obtain ⟨v1, v2, v3, v4⟩ := ww
      exact ⟨fun q hq => (v1 q hq).2, fun g hg => by obtain ⟨u1, u2, u3, u4, u5⟩ := v2 g hg; exact ⟨u1, u2, u4, u5⟩, v4⟩
    have nb := b9 K' _ nl hKK (fun ho => ⟨fun i hi q _ => ⟨by rw [k107], k109 i hi⟩, fun g _ hg => k217D ho g hg⟩) nb0
    have wl : itr (gGo D nt nd 1 0) 0 nf (wlk nf nt nd 1 D K') = wlk nf nt nd 1 (D + 1) K' := by
      unfold wlk
      rw [itr_cat, Nat.zero_add]
    rw [wl] at nb
    generalize wlk nf nt nd 1 (D + 1) K' = A at nb
    obtain ⟨n1, n2, n3⟩ := nb
    have usK : ∀ g, g < 4 → usm K' g (D + 1) nd = WN 210 g := fun g hg => by
      rw [(t7 g hg).2.2]
      have e : usm K' g (D + 1) nd = usm WN g (D + 1) nd := usm_e nd (fun i hi => by
        rw [k107, (row4 i hi).2.1, (row4 i hi).2.2.2, wN 104 (by decide) (by decide), wN 106 (by decide) (by decide)]
        exact ⟨rfl, rfl, fun _ _ => rfl⟩)
      rw [e]
      by_cases c : g < nf
      · rw [if_pos c]
      · rw [if_neg c, usm_D, sdl_z nd (fun i hi q _ => by rw [wN 104 (by decide) (by decide)] at q; have := f104 i hi; omega), Int.add_zero]
    have hwK : ∀ w g D', hwm K' w g D' nd = hwm R' w g D' nd := fun w g D' => hwm_e nd (fun i hi => by
      rw [w2 103 (by decide), w2 104 (by decide), w2 106 (by decide), w2 107 (by decide)]; exact ⟨rfl, rfl, rfl, fun _ _ => rfl⟩)
    have r3K : ∀ i, i < nd → 0 ≤ K' 103 i ∧ K' 103 i < 20 := fun i hi => (wokK.2.2.1 i hi).2
    refine ⟨⟨?_, ?_, ?_, ⟨by rw [t1 1 (by decide)]; exact h14, hnf⟩, fun p hp => ?_, ⟨w1.s w5, k61, ⟨by omega, by omega⟩⟩, ⟨iv_la.c (fun q hq => t1 q (by omega)) (by rw [t1 81 (by decide)]) hLa, fun q hq => by rw [t1 q (by omega), kX q (by omega) (by omega) (by omega) (by omega) (by omega)]; exact hLq q hq⟩, by rw [t1 81 (by decide), k43]; exact h43, fun j hj => by rw [t1 7 (by decide), kX 82 (by decide) (by decide) (by decide) (by decide) (by decide)]; exact h7 j hj, fun i hi => ⟨fun q => ?_, fun q => ?_⟩, fun g D' hg => usm_p r3K (fun w hw => by rw [hwK]; exact hhw' w g D' hw hg), fun g d hg hd hop => ?_⟩, ⟨n1, fun g hg => ?_, fun g p hg hp => ?_, fun g hg => ?_, fun w g hw hg => ?_, fun x y hx hy => ?_, fun i hi => ?_, b4, ?_, b6, fun s nr hs hnr h3 => ?_⟩⟩
    · exact hA.p (fun q u v => t1 q (by omega)) kT
    · unfold TA at hT ⊢
      rw [t1 25 (by decide), t1 26 (by decide), t1 27 (by decide), t1 28 (by decide), t1 29 (by decide), t1 30 (by decide), t1 31 (by decide), t1 32 (by decide), kX 97 (by decide) (by decide) (by decide) (by decide) (by decide), kX 98 (by decide) (by decide) (by decide) (by decide) (by decide), kX 99 (by decide) (by decide) (by decide) (by decide) (by decide), kX 100 (by decide) (by decide) (by decide) (by decide) (by decide), kX 101 (by decide) (by decide) (by decide) (by decide) (by decide), kX 102 (by decide) (by decide) (by decide) (by decide) (by decide)]
      exact hT
    · obtain ⟨z1, z2, z3⟩ := hDA
      refine ⟨by rw [t1 34 (by decide)]; exact z1, by rw [t1 35 (by decide), t1 36 (by decide)]; exact z2, fun i hi => ?_⟩
      obtain ⟨⟨v1, v2, v3, v4⟩, v5, v6, v7, v8, v9⟩ := z3 i hi
      obtain ⟨x1, x2, x3, x4⟩ := row4 i hi
      obtain ⟨p1, p2, p3, p4, p5, p6, p7⟩ := t10 i hi
      rw [t1 38 (by decide), t1 35 (by decide), t1 37 (by decide), x1, x2, x3, x4, k107, k109 i hi]
      exact ⟨⟨v1, v2, p1.1, p1.2⟩, v5, v6, p2, p3, p4⟩
    · rw [t1 6 (by decide), kX 92 (by decide) (by decide) (by decide) (by decide) (by decide)]; exact hC p hp
    · rw [k107]
      rw [(row4 i hi).2.2.2, kX 82 (by decide) (by decide) (by decide) (by decide) (by decide)] at q
      rw [n107 i hi (fun c => q (by
        have : (X 106 i).toNat = D := by have := c.1; omega
        rw [this]; exact c.2))]
      exact (hz i hi).1 q
    · rw [k107] at q
      rw [k109 i hi]; exact (t10 i hi).2.2.2.2.2.1 q
    · rw [kX 82 (by decide) (by decide) (by decide) (by decide) (by decide)] at hop
      by_cases c : d = D
      · subst c
        rw [k217D hop g hg]; exact (t9 g hg hop).2.1
      · rw [k217 g d (by omega) (by omega), (t9b (g * 260 + d) (fun g' hg' => by omega)).2]
        exact hfee g d hg (by omega) hop
    · rw [(n2 g (by omega)).1]; exact (t5 g hg).1 hg
    · rw [(n2 g (by omega)).2.2.1 p hp, t3 g p hg hp]; exact ((t6 g p hg hp).1 hg).symm
    · obtain ⟨z1, z2, z3⟩ := t7 g hg
      rw [(n2 g hg).2.1, usK g hg]
      exact ⟨z1, z2, rfl⟩
    · obtain ⟨z1, z2, z3⟩ := t8 w g hw hg
      rw [(n2 g hg).2.2.2 w hw, hwK, (hwp w g hw hg).1]
      exact ⟨z1, z2, rfl⟩
    · rw [(n2 y hy).2.2.2 (16 + x) (by omega)]; exact t8b x y hx hy
    · rw [n3 i hi, k109 i hi]; exact ⟨rfl, (t10 i hi).2.2.2.2.1⟩
    · obtain ⟨p1, p2, p3, p4, p5, p6⟩ := b5
      refine ⟨p1, p2, p3, ?_, ?_, ?_⟩
      · rw [t1 10 (by decide), t1 11 (by decide)]; exact p4
      · rw [t1 26 (by decide), t1 27 (by decide)]; exact p5
      · rw [t1 35 (by decide), t1 36 (by decide)]; exact p6
    · rw [b7 s nr hs hnr h3]
      show kv X s nr (D : Int) n D = kv K' s nr _ n D
      exact (kv_kk kT (fun t ht => by rw [xR 87 (by decide) (by decide)]; have := hm1 t ht; omega) s nr D).symm
