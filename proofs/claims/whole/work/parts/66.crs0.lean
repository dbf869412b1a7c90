/-! the class's course: blocks of a day in the order by day -/
def ptr (d o : Nat → Int) (n a : Nat) (D : Int) : Prop := a ≤ n ∧ (∀ j, j < a → d (o j).toNat < D) ∧ ∀ j, a ≤ j → j < n → D ≤ d (o j).toNat
def nbx (d o : Nat → Int) (n : Nat) (D : Int) (i : Nat) : Nat := if i < n ∧ d (o i).toNat = D then (o i).toNat else n
theorem blk0 {d o : Nat → Int} {n a : Nat} {D : Int} (hb : by_ok d o n) (hp : ptr d o n a D) : ∀ t, t < nbx d o n D a → t < n → d t ≠ D := by
  obtain ⟨b1, b2, b3, b4⟩ := hb
  intro t h1 h2 h3
  obtain ⟨p, p1, p2⟩ := b3 t h2
  have e : (o p).toNat = t := by omega
  have pa : a ≤ p := by
    by_cases c : a ≤ p
    · exact c
    · have := hp.2.1 p (by omega); rw [e] at this; omega
  unfold nbx at h1
  by_cases c : a < n ∧ d (o a).toNat = D
  · rw [if_pos c] at h1
    by_cases q : p = a
    · rw [q] at e; omega
    · have := b2 a p (by omega) p1
      rw [e] at this
      have := b1 a c.1
      omega
  · have an : a < n := by omega
    have c2 : ¬ d (o a).toNat = D := fun q => c ⟨an, q⟩
    have c3 := hp.2.2 a (Nat.le_refl a) an
    by_cases q : p = a
    · rw [q] at e; rw [e] at c2; exact c2 h3
    · have := b2 a p (by omega) p1
      rw [e] at this
      omega
theorem blkS {d o : Nat → Int} {n i : Nat} {D : Int} (hb : by_ok d o n) (hi : i < n) (hD : d (o i).toNat = D) : (o i).toNat < nbx d o n D (i + 1) ∧ ∀ t, (o i).toNat < t → t < nbx d o n D (i + 1) → t < n → d t ≠ D := by
  obtain ⟨b1, b2, b3, b4⟩ := hb
  have bi := b1 i hi
  refine ⟨?_, ?_⟩
  · unfold nbx
    by_cases c : i + 1 < n ∧ d (o (i + 1)).toNat = D
    · rw [if_pos c]
      have := b2 i (i + 1) (by omega) c.1
      have := b1 (i + 1) c.1
      omega
    · rw [if_neg c]; omega
  · intro t h1 h2 h3 h4
    obtain ⟨p, p1, p2⟩ := b3 t h3
    have e : (o p).toNat = t := by omega
    have pi : i < p := by
      rcases Nat.lt_trichotomy i p with q | q | q
      · exact q
      · rw [← q] at e; omega
      · have := b2 p i q hi; rw [e] at this; omega
    unfold nbx at h2
    by_cases c : i + 1 < n ∧ d (o (i + 1)).toNat = D
    · rw [if_pos c] at h2
      by_cases q : p = i + 1
      · rw [q] at e; omega
      · have := b2 (i + 1) p (by omega) p1
        rw [e] at this
        have := b1 (i + 1) c.1
        omega
    · have c2 : ¬ d (o (i + 1)).toNat = D := fun q => c ⟨by omega, q⟩
      by_cases q : p = i + 1
      · rw [q] at e; rw [e] at c2; exact c2 h4
      · have g1 := b2 (i + 1) p (by omega) p1
        have g2 := b2 i (i + 1) (by omega) (by omega)
        rw [e] at g1
        omega
theorem ptr_n {d o : Nat → Int} {n a i : Nat} {D : Int} (hb : by_ok d o n) (hp : ptr d o n a D) (h1 : a ≤ i) (h2 : i ≤ n) (h3 : ∀ j, a ≤ j → j < i → d (o j).toNat = D) (h4 : i < n → d (o i).toNat ≠ D) : ptr d o n i (D + 1) := by
  obtain ⟨b1, b2, b3, b4⟩ := hb
  refine ⟨h2, fun j hj => ?_, fun j hj hn => ?_⟩
  · by_cases c : a ≤ j
    · have := h3 j c hj; omega
    · have := hp.2.1 j (by omega); omega
  · have g := hp.2.2 i h1 (by omega)
    have g2 := h4 (by omega)
    by_cases e : j = i
    · rw [e]; omega
    · have := b2 i j (by omega) hn
      omega
theorem ptr_0 {d o : Nat → Int} {n : Nat} (hb : by_ok d o n) : ptr d o n 0 0 := by
  refine ⟨by omega, fun j hj => by omega, fun j _ hn => ?_⟩
  have := hb.1 j hn
  exact (hb.2.2.2 (o j).toNat (by omega)).1
theorem lv_skip {M : bz_Mm} {s nr : Nat} {k : Int} {d : Nat} (v : Int) : ∀ (y x : Nat), x ≤ y → (∀ u, x ≤ u → u < y → ¬ tis M s nr k d u = true) → lv M s nr k d y v = lv M s nr k d x v := by
  intro y
  induction y with
  | zero => intro x h _; have : x = 0 := by omega
            rw [this]
  | succ y ih =>
    intro x h1 h2
    by_cases c : x = y + 1
    · rw [c]
    · have e : lv M s nr k d (y + 1) v = if tis M s nr k d y = true then M 86 y else lv M s nr k d y v := rfl
      rw [e, if_neg (h2 y (by omega) (by omega))]
      exact ih x (by omega) (fun u a b => h2 u a (by omega))
theorem lv_S (M : bz_Mm) (s nr : Nat) (k : Int) (d n : Nat) (v : Int) : lv M s nr k d (n + 1) v = if tis M s nr k d n = true then M 86 n else lv M s nr k d n v := rfl
/-- the class's tellings are the reference memory's first n -/
def AL (M R : bz_Mm) (n : Nat) : Prop := (M 9 2 = n ∧ n ≤ 400) ∧ by_ok (M 10) (M 11) n ∧ ∀ t, t < n → (M 12 t = R 83 t ∧ M 13 t = R 84 t ∧ M 10 t = R 85 t ∧ M 14 t = R 86 t ∧ M 15 t = R 87 t) ∧ p_subj (R 83 t) (R 84 t) ∧ r32 (R 87 t)
theorem AL.c {M M' R : bz_Mm} {n : Nat} (h : AL M R n) (h2 : ∀ q, q < 53 → M' q = M q) : AL M' R n := by
  unfold AL at h ⊢
  rw [h2 9 (by decide), h2 10 (by decide), h2 11 (by decide), h2 12 (by decide), h2 13 (by decide), h2 14 (by decide), h2 15 (by decide)]
  exact h
theorem hear_8 {F n t : Nat} {M R : bz_Mm} (hA : AL M R n) (ht : t < n) : ∃ M', fUC_hear_8 F M (t : Int) = some M' ∧ (∀ q, q ≠ 53 → (q < 61 ∨ 64 < q) → M' q = M q) ∧ (∀ j, j ≠ 11 → j ≠ 12 → M' 53 j = M 53 j) ∧ (∀ s nr, s < 4 → nr < 8 → M' (61 + s) nr = if R 83 t = (s : Int) ∧ R 84 t = (nr : Int) then R 86 t else M (61 + s) nr) ∧ (M' 53 11 = M 53 11 ∧ M' 63 = M 63 ∨ M' 53 11 = 1) ∧ (M' 53 12 = M 53 12 ∧ M' 64 = M 64 ∨ M' 53 12 = 1) := by
  obtain ⟨⟨a1, a2⟩, a3, a4⟩ := hA
  obtain ⟨⟨e1, e2, e3, e4, e5⟩, hs, hm⟩ := a4 t ht
  have t4 : t < 400 := by omega
  have row : ∀ (s0 : Nat), s0 < 4 → R 83 t = (s0 : Int) → (0 ≤ R 84 t ∧ R 84 t < 8) → ∀ s nr, s < 4 → nr < 8 → ∀ W : bz_Mm, W (61 + s0) = ud (M (61 + s0)) (R 84 t).toNat (R 86 t) → (∀ q, q ≠ 61 + s0 → 61 ≤ q → q ≤ 64 → W q = M q) → W (61 + s) nr = if R 83 t = (s : Int) ∧ R 84 t = (nr : Int) then R 86 t else M (61 + s) nr := by
    intro s0 h0 hs0 hr s nr hs hnr W w1 w2
    by_cases c : s = s0
    · subst c
      rw [w1]
      by_cases c2 : R 84 t = (nr : Int)
      · have : (R 84 t).toNat = nr := by omega
        rw [this, ud_eq, if_pos ⟨hs0, c2⟩]
      · rw [ud_ne (by omega), if_neg (fun q => c2 q.2)]
    · rw [w2 (61 + s) (by omega) (by omega) (by omega), if_neg (by omega)]
  unfold fUC_hear_8
  rw [rd_s t4 (by decide), rd_s t4 (by decide), rd_s t4 (by decide), e1, e2, e4]
  rcases hs with ⟨s1, s2, s3⟩ | ⟨s1, s2, s3⟩
  · rw [s1, if_neg (by decide), if_pos (by decide), wa_i (by omega) (by omega) (by decide)]
    refine ⟨_, rfl, fun q h1 h2 => st_ne (by omega), fun j _ _ => by rw [st_ne (by decide)], fun s nr x y => ?_, Or.inl ⟨by rw [st_ne (by decide)], st_ne (by decide)⟩, Or.inl ⟨by rw [st_ne (by decide)], st_ne (by decide)⟩⟩
    have := row 1 (by decide) s1 (by omega) s nr x y (st_ M 62 (R 84 t).toNat (R 86 t)) (st_eq _ _ _ _) (fun q h1 _ _ => st_ne h1)
    rw [s1] at this; exact this
  · rcases s1 with s1 | s1 | s1
    · rw [s1, if_pos (by decide), wa_i (by omega) (by omega) (by decide)]
      refine ⟨_, rfl, fun q h1 h2 => st_ne (by omega), fun j _ _ => by rw [st_ne (by decide)], fun s nr x y => ?_, Or.inl ⟨by rw [st_ne (by decide)], st_ne (by decide)⟩, Or.inl ⟨by rw [st_ne (by decide)], st_ne (by decide)⟩⟩
      have := row 0 (by decide) s1 (by omega) s nr x y (st_ M 61 (R 84 t).toNat (R 86 t)) (st_eq _ _ _ _) (fun q h1 _ _ => st_ne h1)
      rw [s1] at this; exact this
    · rw [s1, if_neg (by decide), if_neg (by decide), if_pos (by decide), wa_i (by omega) (by omega) (by decide), wf_s]
      refine ⟨_, rfl, fun q h1 h2 => by rw [st_ne h1, st_ne (by omega)], fun j h1 h2 => by rw [st_eq, ud_ne h1, st_ne (by decide)], fun s nr x y => ?_, Or.inr (by rw [st_eq, ud_eq]), Or.inl ⟨by rw [st_eq, ud_ne (by decide), st_ne (by decide)], by rw [st_ne (by decide), st_ne (by decide)]⟩⟩
      have := row 2 (by decide) s1 (by omega) s nr x y (st_ (st_ M 63 (R 84 t).toNat (R 86 t)) 53 11 1) (by rw [st_ne (by decide), st_eq]) (fun q h1 h2 _ => by rw [st_ne (by omega), st_ne h1])
      rw [s1] at this; exact this
    · rw [s1, if_neg (by decide), if_neg (by decide), if_neg (by decide), wa_i (by omega) (by omega) (by decide), wf_s]
      refine ⟨_, rfl, fun q h1 h2 => by rw [st_ne h1, st_ne (by omega)], fun j h1 h2 => by rw [st_eq, ud_ne h2, st_ne (by decide)], fun s nr x y => ?_, Or.inl ⟨by rw [st_eq, ud_ne (by decide), st_ne (by decide)], by rw [st_ne (by decide), st_ne (by decide)]⟩, Or.inr (by rw [st_eq, ud_eq])⟩
      have := row 3 (by decide) s1 (by omega) s nr x y (st_ (st_ M 64 (R 84 t).toNat (R 86 t)) 53 12 1) (by rw [st_ne (by decide), st_eq]) (fun q h1 h2 _ => by rw [st_ne (by omega), st_ne h1])
      rw [s1] at this; exact this
/-- rows of dividends and splits are plain unless a flag says otherwise -/
def FLG (M : bz_Mm) : Prop := (M 53 11 = 0 ∨ M 53 11 = 1) ∧ (M 53 12 = 0 ∨ M 53 12 = 1) ∧ (M 53 11 = 0 → ∀ p, p < 8 → M 63 p = 0) ∧ (M 53 12 = 0 → ∀ p, p < 8 → M 64 p = 1000)
theorem learn_L {F n D a : Nat} {k : Int} {M0 R : bz_Mm} (hD : D < 260) (hk : r32 k) (hA : AL M0 R n) (hp : ptr (M0 10) (M0 11) n a D) : ∀ (m fuel i : Nat) (M : bz_Mm), i + m = n → m < fuel → a ≤ i → (∀ j, a ≤ j → j < i → M0 10 (M0 11 j).toNat = D) → (∀ q, q ≠ 53 → (q < 61 ∨ 64 < q) → M q = M0 q) → (∀ j, j ≠ 11 → j ≠ 12 → j ≠ 13 → M 53 j = M0 53 j) → M 53 13 = i → FLG M → (∀ s nr, s < 4 → nr < 8 → M (61 + s) nr = lv R s nr k D (nbx (M0 10) (M0 11) n D i) (M0 (61 + s) nr)) → ∃ M', UC_learn_L55 F fuel (D : Int) k M = some M' ∧ (∀ q, q ≠ 53 → (q < 61 ∨ 64 < q) → M' q = M0 q) ∧ (∀ j, j ≠ 11 → j ≠ 12 → j ≠ 13 → M' 53 j = M0 53 j) ∧ (∃ b : Nat, M' 53 13 = b ∧ ptr (M0 10) (M0 11) n b ((D : Int) + 1)) ∧ FLG M' ∧ ∀ s nr, s < 4 → nr < 8 → M' (61 + s) nr = lv R s nr k D n (M0 (61 + s) nr) := by
  have hA0 := hA
  obtain ⟨⟨a1, a2⟩, a3, a4⟩ := hA
  have fin : ∀ (i : Nat) (M : bz_Mm), i ≤ n → a ≤ i → (∀ j, a ≤ j → j < i → M0 10 (M0 11 j).toNat = D) → (i < n → M0 10 (M0 11 i).toNat ≠ D) → (∀ q, q ≠ 53 → (q < 61 ∨ 64 < q) → M q = M0 q) → (∀ j, j ≠ 11 → j ≠ 12 → j ≠ 13 → M 53 j = M0 53 j) → M 53 13 = i → FLG M → (∀ s nr, s < 4 → nr < 8 → M (61 + s) nr = lv R s nr k D (nbx (M0 10) (M0 11) n D i) (M0 (61 + s) nr)) → ∃ M', some M = some M' ∧ (∀ q, q ≠ 53 → (q < 61 ∨ 64 < q) → M' q = M0 q) ∧ (∀ j, j ≠ 11 → j ≠ 12 → j ≠ 13 → M' 53 j = M0 53 j) ∧ (∃ b : Nat, M' 53 13 = b ∧ ptr (M0 10) (M0 11) n b ((D : Int) + 1)) ∧ FLG M' ∧ ∀ s nr, s < 4 → nr < 8 → M' (61 + s) nr = lv R s nr k D n (M0 (61 + s) nr) := by
    intro i M h1 h2 h3 h4 h5 h6 h7 h8 h9
    refine ⟨M, rfl, h5, h6, ⟨i, h7, ptr_n a3 hp h2 h1 h3 h4⟩, h8, fun s nr x y => ?_⟩
    have e : nbx (M0 10) (M0 11) n D i = n := by unfold nbx; rw [if_neg (fun q => h4 q.1 q.2)]
    rw [h9 s nr x y, e]
  intro m
  induction m with
  | zero =>
    intro fuel i M h1 h2 h3 h4 h5 h6 h7 h8 h9
    obtain ⟨fuel, rfl⟩ : ∃ j, fuel = j + 1 := ⟨fuel - 1, by omega⟩
    rw [UC_learn_L55, h7, h5 9 (by decide) (by decide), a1, w32_n (by omega), w32_n (by omega), if_neg (by omega)]
    exact fin i M (by omega) h3 h4 (fun q => by omega) h5 h6 h7 h8 h9
  | succ m ih =>
    intro fuel i M h1 h2 h3 h4 h5 h6 h7 h8 h9
    obtain ⟨fuel, rfl⟩ : ∃ j, fuel = j + 1 := ⟨fuel - 1, by omega⟩
    have bi := a3.1 i (by omega)
    obtain ⟨t, ht⟩ : ∃ t : Nat, M0 11 i = (t : Int) := ⟨(M0 11 i).toNat, by omega⟩
    have tn : t < n := by omega
    have tt : (M0 11 i).toNat = t := by omega
    obtain ⟨⟨e1, e2, e3, e4, e5⟩, hs, hm⟩ := a4 t tn
    have dr := a3.2.2.2 t tn
    have i4 : i < 400 := by omega
    have t4 : t < 400 := by omega
    rw [UC_learn_L55, h7, h5 9 (by decide) (by decide), a1, w32_n (show i ≤ 2147483647 by omega), w32_n (show n ≤ 2147483647 by omega), if_pos (by omega), rd_s i4 (by decide), h5 11 (by decide) (by decide), ht, rd_s t4 (by decide), h5 10 (by decide) (by decide), rd_s i4 (by decide), h5 11 (by decide) (by decide), ht, rd_s t4 (by decide), h5 15 (by decide) (by decide), e5, w32_id (x := M0 10 t) (by omega) (by omega), w32_n (show D ≤ 2147483647 by omega), r32_w hk, r32_w hm]
    by_cases c : M0 10 t = (D : Int)
    · rw [if_pos c]
      have cD : M0 10 (M0 11 i).toNat = (D : Int) := by rw [tt]; exact c
      obtain ⟨g1, g2⟩ := blkS a3 (show i < n by omega) cD
      have nbi : nbx (M0 10) (M0 11) n D i = t := by unfold nbx; rw [if_pos ⟨by omega, cD⟩, tt]
      rw [tt] at g1 g2
      have step : ∀ (s nr : Nat) (v : Int), lv R s nr k D (nbx (M0 10) (M0 11) n D (i + 1)) v = if tis R s nr k D t = true then R 86 t else lv R s nr k D t v := by
        intro s nr v
        rw [lv_skip v (nbx (M0 10) (M0 11) n D (i + 1)) (t + 1) (by omega) (fun u x y q => ?_), lv_S]
        have un : u < n := by
          have : nbx (M0 10) (M0 11) n D (i + 1) ≤ n := by
            unfold nbx
            split
            · rename_i z; have := a3.1 (i + 1) z.1; omega
            · omega
          omega
        have := g2 u (by omega) y un
        apply this
        rw [(a4 u un).1.2.2.1]
        unfold tis at q
        simp only [Bool.and_eq_true, decide_eq_true_eq] at q
        exact q.2
      have ti : ∀ s nr : Nat, tis R s nr k D t = true ↔ (¬ k < R 87 t) ∧ R 83 t = (s : Int) ∧ R 84 t = (nr : Int) := by
        intro s nr
        unfold tis
        simp only [Bool.and_eq_true, decide_eq_true_eq]
        rw [← e3]
        constructor
        · rintro ⟨⟨⟨x, y⟩, z⟩, _⟩; exact ⟨z, x, y⟩
        · rintro ⟨z, x, y⟩; exact ⟨⟨⟨x, y⟩, z⟩, c⟩
      have h4' : ∀ j, a ≤ j → j < i + 1 → M0 10 (M0 11 j).toNat = (D : Int) := fun j x y => by
        by_cases e : j = i
        · rw [e]; exact cD
        · exact h4 j x (by omega)
      by_cases cm : k < R 87 t
      · rw [if_pos cm, cl1_s, wf_s, h7]
        refine ih fuel (i + 1) _ (by omega) (by omega) (by omega) h4' (fun q x y => by rw [st_ne x]; exact h5 q x y) (fun j x y z => by rw [st_eq, ud_ne z]; exact h6 j x y z) (by rw [st_eq, ud_eq]; omega) ?_ (fun s nr x y => ?_)
        · obtain ⟨f1, f2, f3, f4⟩ := h8
          refine ⟨?_, ?_, ?_, ?_⟩
          · rw [st_eq, ud_ne (by decide)]; exact f1
          · rw [st_eq, ud_ne (by decide)]; exact f2
          · rw [st_eq, ud_ne (by decide), st_ne (by decide)]; exact f3
          · rw [st_eq, ud_ne (by decide), st_ne (by decide)]; exact f4
        · rw [st_ne (by omega), h9 s nr x y, nbi, step, if_neg (fun q => ((ti s nr).mp q).1 cm)]
      · have hAM : AL M R n := hA0.c (fun q hq => h5 q (by omega) (by omega))
        obtain ⟨M2, b1, b2, b3, b4, b5, b6⟩ := hear_8 (F := F) hAM tn
        rw [if_neg cm, b1, cl_s, cl1_s, wf_s, b3 13 (by decide) (by decide), h7]
        refine ih fuel (i + 1) _ (by omega) (by omega) (by omega) h4' (fun q x y => by rw [st_ne x, b2 q x y]; exact h5 q x y) (fun j x y z => by rw [st_eq, ud_ne z, b3 j x y]; exact h6 j x y z) (by rw [st_eq, ud_eq]; omega) ?_ (fun s nr x y => ?_)
        · obtain ⟨f1, f2, f3, f4⟩ := h8
          refine ⟨?_, ?_, ?_, ?_⟩
          · rw [st_eq, ud_ne (by decide)]
            rcases b5 with b5 | b5
            · rw [b5.1]; exact f1
            · exact Or.inr b5
          · rw [st_eq, ud_ne (by decide)]
            rcases b6 with b6 | b6
            · rw [b6.1]; exact f2
            · exact Or.inr b6
          · rw [st_eq, ud_ne (by decide), st_ne (by decide)]
            rcases b5 with b5 | b5
            · rw [b5.1, b5.2]; exact f3
            · rw [b5]; intro q; omega
          · rw [st_eq, ud_ne (by decide), st_ne (by decide)]
            rcases b6 with b6 | b6
            · rw [b6.1, b6.2]; exact f4
            · rw [b6]; intro q; omega
        · rw [st_ne (by omega), b4 s nr x y, h9 s nr x y, nbi, step]
          by_cases z : R 83 t = (s : Int) ∧ R 84 t = (nr : Int)
          · rw [if_pos z, if_pos ((ti s nr).mpr ⟨cm, z⟩)]
          · rw [if_neg z, if_neg (fun q => z ((ti s nr).mp q).2)]
    · rw [if_neg c]
      exact fin i M (by omega) h3 h4 (fun _ q => c (by rw [← tt]; exact q)) h5 h6 h7 h8 h9
