/-! orders by day: o lists 0..n-1, sorted by day, and by age within a day -/
def by_ok (d o : Nat → Int) (n : Nat) : Prop := (∀ i, i < n → 0 ≤ o i ∧ o i < n) ∧ (∀ i j, i < j → j < n → d (o i).toNat < d (o j).toNat ∨ (d (o i).toNat = d (o j).toNat ∧ o i < o j)) ∧ (∀ t : Nat, t < n → ∃ i, i < n ∧ o i = t) ∧ ∀ i, i < n → 0 ≤ d i ∧ d i < 260
def by_o (o : Nat → Int) (p n : Nat) : Nat → Int := fun i => if i = p then (n : Int) else if p < i ∧ i ≤ n then o (i - 1) else o i
theorem by_ins {d o : Nat → Int} {n p : Nat} {D : Int} (hb : by_ok d o n) (hp : p ≤ n) (h1 : ∀ i, p ≤ i → i < n → D < d (o i).toNat) (h2 : p = 0 ∨ ¬ D < d (o (p - 1)).toNat) (hD : 0 ≤ D ∧ D < 260) : by_ok (ud d n D) (by_o o p n) (n + 1) := by
  obtain ⟨b1, b2, b3, b4⟩ := hb
  have e1 : ∀ i, i < p → by_o o p n i = o i := fun i hi => by unfold by_o; rw [if_neg (by omega), if_neg (by omega)]
  have e2 : by_o o p n p = n := if_pos rfl
  have e3 : ∀ i, p < i → i ≤ n → by_o o p n i = o (i - 1) := fun i hi hj => by unfold by_o; rw [if_neg (by omega), if_pos ⟨hi, hj⟩]
  have u1 : ∀ i, i < n → ud d n D (o i).toNat = d (o i).toNat := fun i hi => ud_ne (by have := b1 i hi; omega)
  have u2 : ud d n D ((n : Int)).toNat = D := by rw [Int.toNat_natCast]; exact ud_eq d n D
  have hle : ∀ i, i < p → d (o i).toNat ≤ D := by
    intro i hi
    rcases h2 with h2 | h2
    · omega
    · by_cases hi2 : i = p - 1
      · rw [hi2]; omega
      · rcases b2 i (p - 1) (by omega) (by omega) with h | h <;> omega
  refine ⟨fun i hi => ?_, fun i j hij hj => ?_, fun t ht => ?_, fun i hi => ?_⟩
  · rcases Nat.lt_trichotomy i p with h | h | h
    · rw [e1 i h]; have := b1 i (by omega); omega
    · rw [h, e2]; omega
    · rw [e3 i h (by omega)]; have := b1 (i - 1) (by omega); omega
  · rcases Nat.lt_trichotomy j p with h | h | h
    · rw [e1 i (by omega), e1 j h, u1 i (by omega), u1 j (by omega)]; exact b2 i j hij (by omega)
    · rw [e1 i (by omega), h, e2, u1 i (by omega), u2]
      have := hle i (by omega); have := b1 i (by omega); omega
    · rw [e3 j h (by omega), u1 (j - 1) (by omega)]
      rcases Nat.lt_trichotomy i p with g | g | g
      · rw [e1 i g, u1 i (by omega)]; exact b2 i (j - 1) (by omega) (by omega)
      · rw [g, e2, u2]; exact Or.inl (h1 (j - 1) (by omega) (by omega))
      · rw [e3 i g (by omega), u1 (i - 1) (by omega)]; exact b2 (i - 1) (j - 1) (by omega) (by omega)
  · by_cases h : t = n
    · exact ⟨p, by omega, by rw [e2, h]⟩
    · obtain ⟨i, hi, hio⟩ := b3 t (by omega)
      by_cases g : i < p
      · exact ⟨i, by omega, by rw [e1 i g]; exact hio⟩
      · exact ⟨i + 1, by omega, by rw [e3 (i + 1) (by omega) (by omega)]; exact hio⟩
  · by_cases h : i = n
    · rw [h, ud_eq]; exact hD
    · rw [ud_ne h]; exact b4 i (by omega)
def by_sh (M : bz_Mm) (a p q : Nat) : bz_Mm := fun b => if b = a then (fun i => if p < i ∧ i ≤ q then M a (i - 1) else M a i) else M b
theorem by_sh0 (M : bz_Mm) (a p : Nat) : by_sh M a p p = M := by
  funext b i
  unfold by_sh
  by_cases hb : b = a
  · rw [if_pos hb, if_neg (by omega), hb]
  · rw [if_neg hb]
theorem by_sh1 (M : bz_Mm) {a p q : Nat} (h : p ≤ q) : by_sh (st_ M a (q + 1) (M a q)) a p q = by_sh M a p (q + 1) := by
  funext b i
  unfold by_sh
  by_cases hb : b = a
  · rw [if_pos hb, if_pos hb, st_eq]
    by_cases h1 : p < i ∧ i ≤ q
    · rw [if_pos h1, if_pos (by omega), ud_ne (by omega)]
    · rw [if_neg h1]
      by_cases h2 : i = q + 1
      · rw [h2, ud_eq, if_pos (by omega)]; rfl
      · rw [ud_ne h2, if_neg (by omega)]
  · rw [if_neg hb, if_neg hb, st_ne hb]
theorem cl2_s {α β γ : Type} (a : α) (b : β) (k : α → β → Option γ) : cl2_ (some (a, b)) k = k a b := rfl
theorem by_e (M : bz_Mm) (a p n : Nat) : st_ (by_sh M a p n) a p (n : Int) = fun b => if b = a then by_o (M a) p n else M b := by
  funext b i
  by_cases hb : b = a
  · rw [hb, st_eq, if_pos rfl]
    unfold by_o by_sh
    by_cases h : i = p
    · rw [h, ud_eq, if_pos rfl]
    · rw [ud_ne h, if_neg h, if_pos rfl]
  · rw [st_ne hb, if_neg hb]; unfold by_sh; rw [if_neg hb]
theorem by_loop_9 {F n : Nat} {D l2 : Int} (hD : 0 ≤ D ∧ D < 260) (hn : n < 400) : ∀ (p k : Nat) (M : bz_Mm), p < k → p ≤ n → (∀ i, i < p → 0 ≤ M 11 i ∧ M 11 i < n) → (∀ i, i < n → 0 ≤ M 10 i ∧ M 10 i < 260) → ∃ p' : Nat, p' ≤ p ∧ UB_add_9_L21 F k l2 D (p : Int) M = some ((p' : Int), by_sh M 11 p' p) ∧ (∀ i, p' ≤ i → i < p → D < M 10 (M 11 i).toNat) ∧ (p' = 0 ∨ ¬ D < M 10 (M 11 (p' - 1)).toNat) := by
  intro p
  induction p with
  | zero =>
    intro k M hk hp h1 h2
    obtain ⟨k, rfl⟩ : ∃ j, k = j + 1 := ⟨k - 1, by omega⟩
    refine ⟨0, Nat.le_refl _, ?_, fun i _ h => absurd h (by omega), Or.inl rfl⟩
    unfold UB_add_9_L21
    rw [if_neg (by show ¬ 0 < w32 0; rw [w32_0]; decide), by_sh0]
  | succ p ih =>
    intro k M hk hp h1 h2
    obtain ⟨k, rfl⟩ : ∃ j, k = j + 1 := ⟨k - 1, by omega⟩
    have hx1 := h1 p (by omega)
    have hx2 := h2 (M 11 p).toNat (by omega)
    have c1 : ((p + 1 : Nat) : Int) - 1 = (p : Int) := by omega
    have c2 : ((p + 1 : Nat) : Int) + -1 = (p : Int) := by omega
    have g1 : w32 ((p + 1 : Nat) : Int) = ((p + 1 : Nat) : Int) := w32_id (by omega) (by omega)
    have g2 : w32 (p : Int) = (p : Int) := w32_id (by omega) (by omega)
    have g3 : w32 (M 11 p) = M 11 p := w32_id (by omega) (by omega)
    have g4 : w32 D = D := w32_id (by omega) (by omega)
    have g5 : w32 (M 10 (M 11 p).toNat) = M 10 (M 11 p).toNat := w32_id (by omega) (by omega)
    have s1 : (0 : Int) ≤ (p : Int) ∧ (p : Int) < ((400 : Nat) : Int) := by omega
    have s2 : (0 : Int) ≤ M 11 p ∧ M 11 p < ((400 : Nat) : Int) := by omega
    have s3 : (0 : Int) ≤ ((p + 1 : Nat) : Int) ∧ ((p + 1 : Nat) : Int) < ((400 : Nat) : Int) := by omega
    have t1 : ((p : Int)).toNat = p := Int.toNat_natCast p
    have t2 : (((p + 1 : Nat) : Int)).toNat = p + 1 := Int.toNat_natCast (p + 1)
    unfold UB_add_9_L21 rd_ wa_
    rw [c1, c2, g1, g2, if_pos (show (0 : Int) < ((p + 1 : Nat) : Int) by omega), if_pos s1, t1]
    try dsimp only
    rw [g3, if_pos s2]
    try dsimp only
    rw [g4, g5, if_pos s1]
    try dsimp only
    rw [if_pos s3, t2]
    try dsimp only
    by_cases hlt : D < M 10 (M 11 p).toNat
    · rw [if_pos hlt]
      have q1 : ∀ i, i ≤ p → st_ M 11 (p + 1) (M 11 p) 11 i = M 11 i := fun i hi => by rw [st_eq, ud_ne (by omega)]
      have q2 : st_ M 11 (p + 1) (M 11 p) 10 = M 10 := st_ne (by decide)
      obtain ⟨p', a1, a2, a3, a4⟩ := ih k (st_ M 11 (p + 1) (M 11 p)) (by omega) (by omega) (fun i hi => by rw [q1 i (by omega)]; exact h1 i (by omega)) (fun i hi => by rw [q2]; exact h2 i hi)
      refine ⟨p', by omega, by rw [a2, by_sh1 M a1], fun i hi hj => ?_, ?_⟩
      · by_cases he : i = p
        · rw [he]; exact hlt
        · have := a3 i hi (by omega)
          rw [q2, q1 i (by omega)] at this; exact this
      · rw [q2, q1 (p' - 1) (by omega)] at a4; exact a4
    · rw [if_neg hlt]
      refine ⟨p + 1, Nat.le_refl _, by rw [by_sh0], fun i hi hj => absurd hj (by omega), Or.inr ?_⟩
      show ¬ D < M 10 (M 11 p).toNat
      exact hlt
def by_m_9 (M : bz_Mm) (o : Nat → Int) (n : Nat) (D : Int) : bz_Mm := st_ (st_ (fun b => if b = 11 then o else M b) 10 n D) 9 2 ((n : Int) + 1)
theorem by_a1_9 {F : Nat} {M : bz_Mm} {D : Int} {n : Nat} (hn : M 9 2 = n) (hc : n < 400) : fUB_add_9 F M D = cl2_ (UB_add_9_L21 F F (n : Int) D (n : Int) M) (fun l3 m5 => wa_ m5 11 l3 400 (n : Int) fun m6 => wa_ m6 10 (n : Int) 400 D fun m7 => wf_ m7 9 2 ((n : Int) + 1) fun m8 => some ((n : Int), m8)) := by
  have g1 : w32 (M 9 2) < 400 := by rw [hn, w32_id (by omega) (by omega)]; omega
  unfold fUB_add_9
  rw [if_pos g1, hn]
  unfold lt_
  exact Eq.refl _
theorem by_a2_9 {M : bz_Mm} {D : Int} {n p : Nat} (hc : n < 400) (hp : p ≤ n) : (wa_ (by_sh M 11 p n) 11 (p : Int) 400 (n : Int) fun m6 => wa_ m6 10 (n : Int) 400 D fun m7 => wf_ m7 9 2 ((n : Int) + 1) fun m8 => some ((n : Int), m8)) = some ((n : Int), by_m_9 M (by_o (M 11) p n) n D) := by
  have g2 : w32 (p : Int) = (p : Int) := w32_id (by omega) (by omega)
  have g1 : w32 (n : Int) = (n : Int) := w32_id (by omega) (by omega)
  have k1 : 0 ≤ w32 (p : Int) ∧ w32 (p : Int) < ((400 : Nat) : Int) := by rw [g2]; omega
  have k2 : 0 ≤ w32 (n : Int) ∧ w32 (n : Int) < ((400 : Nat) : Int) := by rw [g1]; omega
  unfold wa_ wf_
  rw [if_pos k1]
  try dsimp only
  rw [if_pos k2]
  try dsimp only
  rw [g1, g2, Int.toNat_natCast, Int.toNat_natCast, by_e]
  unfold by_m_9
  exact Eq.refl _
theorem by_add_9 {F : Nat} {M : bz_Mm} {D : Int} {n : Nat} (hF : 400 < F) (hD : 0 ≤ D ∧ D < 260) (hn : M 9 2 = n) (hc : n < 400) (hb : by_ok (M 10) (M 11) n) : ∃ o, fUB_add_9 F M D = some ((n : Int), by_m_9 M o n D) ∧ by_ok (ud (M 10) n D) o (n + 1) := by
  obtain ⟨p, p1, p2, p3, p4⟩ := by_loop_9 (F := F) (l2 := (n : Int)) hD hc n F M (by omega) (Nat.le_refl n) hb.1 hb.2.2.2
  refine ⟨by_o (M 11) p n, ?_, by_ins hb p1 p3 p4 hD⟩
  rw [by_a1_9 hn hc, p2, cl2_s, by_a2_9 hc p1]
theorem by_full_9 {F : Nat} {M : bz_Mm} {D : Int} (hn : M 9 2 = 400) : fUB_add_9 F M D = some (-1, M) := by
  unfold fUB_add_9
  rw [hn, if_neg (by decide)]
theorem by_loop_17 {F n : Nat} {D l2 : Int} (hD : 0 ≤ D ∧ D < 260) (hn : n < 7) : ∀ (p k : Nat) (M : bz_Mm), p < k → p ≤ n → (∀ i, i < p → 0 ≤ M 19 i ∧ M 19 i < n) → (∀ i, i < n → 0 ≤ M 18 i ∧ M 18 i < 260) → ∃ p' : Nat, p' ≤ p ∧ UB_add_17_L21 F k l2 D (p : Int) M = some ((p' : Int), by_sh M 19 p' p) ∧ (∀ i, p' ≤ i → i < p → D < M 18 (M 19 i).toNat) ∧ (p' = 0 ∨ ¬ D < M 18 (M 19 (p' - 1)).toNat) := by
  intro p
  induction p with
  | zero =>
    intro k M hk hp h1 h2
    obtain ⟨k, rfl⟩ : ∃ j, k = j + 1 := ⟨k - 1, by omega⟩
    refine ⟨0, Nat.le_refl _, ?_, fun i _ h => absurd h (by omega), Or.inl rfl⟩
    unfold UB_add_17_L21
    rw [if_neg (by show ¬ 0 < w32 0; rw [w32_0]; decide), by_sh0]
  | succ p ih =>
    intro k M hk hp h1 h2
    obtain ⟨k, rfl⟩ : ∃ j, k = j + 1 := ⟨k - 1, by omega⟩
    have hx1 := h1 p (by omega)
    have hx2 := h2 (M 19 p).toNat (by omega)
    have c1 : ((p + 1 : Nat) : Int) - 1 = (p : Int) := by omega
    have c2 : ((p + 1 : Nat) : Int) + -1 = (p : Int) := by omega
    have g1 : w32 ((p + 1 : Nat) : Int) = ((p + 1 : Nat) : Int) := w32_id (by omega) (by omega)
    have g2 : w32 (p : Int) = (p : Int) := w32_id (by omega) (by omega)
    have g3 : w32 (M 19 p) = M 19 p := w32_id (by omega) (by omega)
    have g4 : w32 D = D := w32_id (by omega) (by omega)
    have g5 : w32 (M 18 (M 19 p).toNat) = M 18 (M 19 p).toNat := w32_id (by omega) (by omega)
    have s1 : (0 : Int) ≤ (p : Int) ∧ (p : Int) < ((7 : Nat) : Int) := by omega
    have s2 : (0 : Int) ≤ M 19 p ∧ M 19 p < ((7 : Nat) : Int) := by omega
    have s3 : (0 : Int) ≤ ((p + 1 : Nat) : Int) ∧ ((p + 1 : Nat) : Int) < ((7 : Nat) : Int) := by omega
    have t1 : ((p : Int)).toNat = p := Int.toNat_natCast p
    have t2 : (((p + 1 : Nat) : Int)).toNat = p + 1 := Int.toNat_natCast (p + 1)
    unfold UB_add_17_L21 rd_ wa_
    rw [c1, c2, g1, g2, if_pos (show (0 : Int) < ((p + 1 : Nat) : Int) by omega), if_pos s1, t1]
    try dsimp only
    rw [g3, if_pos s2]
    try dsimp only
    rw [g4, g5, if_pos s1]
    try dsimp only
    rw [if_pos s3, t2]
    try dsimp only
    by_cases hlt : D < M 18 (M 19 p).toNat
    · rw [if_pos hlt]
      have q1 : ∀ i, i ≤ p → st_ M 19 (p + 1) (M 19 p) 19 i = M 19 i := fun i hi => by rw [st_eq, ud_ne (by omega)]
      have q2 : st_ M 19 (p + 1) (M 19 p) 18 = M 18 := st_ne (by decide)
      obtain ⟨p', a1, a2, a3, a4⟩ := ih k (st_ M 19 (p + 1) (M 19 p)) (by omega) (by omega) (fun i hi => by rw [q1 i (by omega)]; exact h1 i (by omega)) (fun i hi => by rw [q2]; exact h2 i hi)
      refine ⟨p', by omega, by rw [a2, by_sh1 M a1], fun i hi hj => ?_, ?_⟩
      · by_cases he : i = p
        · rw [he]; exact hlt
        · have := a3 i hi (by omega)
          rw [q2, q1 i (by omega)] at this; exact this
      · rw [q2, q1 (p' - 1) (by omega)] at a4; exact a4
    · rw [if_neg hlt]
      refine ⟨p + 1, Nat.le_refl _, by rw [by_sh0], fun i hi hj => absurd hj (by omega), Or.inr ?_⟩
      show ¬ D < M 18 (M 19 p).toNat
      exact hlt
def by_m_17 (M : bz_Mm) (o : Nat → Int) (n : Nat) (D : Int) : bz_Mm := st_ (st_ (fun b => if b = 19 then o else M b) 18 n D) 17 2 ((n : Int) + 1)
theorem by_a1_17 {F : Nat} {M : bz_Mm} {D : Int} {n : Nat} (hn : M 17 2 = n) (hc : n < 7) : fUB_add_17 F M D = cl2_ (UB_add_17_L21 F F (n : Int) D (n : Int) M) (fun l3 m5 => wa_ m5 19 l3 7 (n : Int) fun m6 => wa_ m6 18 (n : Int) 7 D fun m7 => wf_ m7 17 2 ((n : Int) + 1) fun m8 => some ((n : Int), m8)) := by
  have g1 : w32 (M 17 2) < 7 := by rw [hn, w32_id (by omega) (by omega)]; omega
  unfold fUB_add_17
  rw [if_pos g1, hn]
  unfold lt_
  exact Eq.refl _
theorem by_a2_17 {M : bz_Mm} {D : Int} {n p : Nat} (hc : n < 7) (hp : p ≤ n) : (wa_ (by_sh M 19 p n) 19 (p : Int) 7 (n : Int) fun m6 => wa_ m6 18 (n : Int) 7 D fun m7 => wf_ m7 17 2 ((n : Int) + 1) fun m8 => some ((n : Int), m8)) = some ((n : Int), by_m_17 M (by_o (M 19) p n) n D) := by
  have g2 : w32 (p : Int) = (p : Int) := w32_id (by omega) (by omega)
  have g1 : w32 (n : Int) = (n : Int) := w32_id (by omega) (by omega)
  have k1 : 0 ≤ w32 (p : Int) ∧ w32 (p : Int) < ((7 : Nat) : Int) := by rw [g2]; omega
  have k2 : 0 ≤ w32 (n : Int) ∧ w32 (n : Int) < ((7 : Nat) : Int) := by rw [g1]; omega
  unfold wa_ wf_
  rw [if_pos k1]
  try dsimp only
  rw [if_pos k2]
  try dsimp only
  rw [g1, g2, Int.toNat_natCast, Int.toNat_natCast, by_e]
  unfold by_m_17
  exact Eq.refl _
theorem by_add_17 {F : Nat} {M : bz_Mm} {D : Int} {n : Nat} (hF : 7 < F) (hD : 0 ≤ D ∧ D < 260) (hn : M 17 2 = n) (hc : n < 7) (hb : by_ok (M 18) (M 19) n) : ∃ o, fUB_add_17 F M D = some ((n : Int), by_m_17 M o n D) ∧ by_ok (ud (M 18) n D) o (n + 1) := by
  obtain ⟨p, p1, p2, p3, p4⟩ := by_loop_17 (F := F) (l2 := (n : Int)) hD hc n F M (by omega) (Nat.le_refl n) hb.1 hb.2.2.2
  refine ⟨by_o (M 19) p n, ?_, by_ins hb p1 p3 p4 hD⟩
  rw [by_a1_17 hn hc, p2, cl2_s, by_a2_17 hc p1]
theorem by_full_17 {F : Nat} {M : bz_Mm} {D : Int} (hn : M 17 2 = 7) : fUB_add_17 F M D = some (-1, M) := by
  unfold fUB_add_17
  rw [hn, if_neg (by decide)]
theorem by_loop_25 {F n : Nat} {D l2 : Int} (hD : 0 ≤ D ∧ D < 260) (hn : n < 120) : ∀ (p k : Nat) (M : bz_Mm), p < k → p ≤ n → (∀ i, i < p → 0 ≤ M 27 i ∧ M 27 i < n) → (∀ i, i < n → 0 ≤ M 26 i ∧ M 26 i < 260) → ∃ p' : Nat, p' ≤ p ∧ UB_add_25_L21 F k l2 D (p : Int) M = some ((p' : Int), by_sh M 27 p' p) ∧ (∀ i, p' ≤ i → i < p → D < M 26 (M 27 i).toNat) ∧ (p' = 0 ∨ ¬ D < M 26 (M 27 (p' - 1)).toNat) := by
  intro p
  induction p with
  | zero =>
    intro k M hk hp h1 h2
    obtain ⟨k, rfl⟩ : ∃ j, k = j + 1 := ⟨k - 1, by omega⟩
    refine ⟨0, Nat.le_refl _, ?_, fun i _ h => absurd h (by omega), Or.inl rfl⟩
    unfold UB_add_25_L21
    rw [if_neg (by show ¬ 0 < w32 0; rw [w32_0]; decide), by_sh0]
  | succ p ih =>
    intro k M hk hp h1 h2
    obtain ⟨k, rfl⟩ : ∃ j, k = j + 1 := ⟨k - 1, by omega⟩
    have hx1 := h1 p (by omega)
    have hx2 := h2 (M 27 p).toNat (by omega)
    have c1 : ((p + 1 : Nat) : Int) - 1 = (p : Int) := by omega
    have c2 : ((p + 1 : Nat) : Int) + -1 = (p : Int) := by omega
    have g1 : w32 ((p + 1 : Nat) : Int) = ((p + 1 : Nat) : Int) := w32_id (by omega) (by omega)
    have g2 : w32 (p : Int) = (p : Int) := w32_id (by omega) (by omega)
    have g3 : w32 (M 27 p) = M 27 p := w32_id (by omega) (by omega)
    have g4 : w32 D = D := w32_id (by omega) (by omega)
    have g5 : w32 (M 26 (M 27 p).toNat) = M 26 (M 27 p).toNat := w32_id (by omega) (by omega)
    have s1 : (0 : Int) ≤ (p : Int) ∧ (p : Int) < ((120 : Nat) : Int) := by omega
    have s2 : (0 : Int) ≤ M 27 p ∧ M 27 p < ((120 : Nat) : Int) := by omega
    have s3 : (0 : Int) ≤ ((p + 1 : Nat) : Int) ∧ ((p + 1 : Nat) : Int) < ((120 : Nat) : Int) := by omega
    have t1 : ((p : Int)).toNat = p := Int.toNat_natCast p
    have t2 : (((p + 1 : Nat) : Int)).toNat = p + 1 := Int.toNat_natCast (p + 1)
    unfold UB_add_25_L21 rd_ wa_
    rw [c1, c2, g1, g2, if_pos (show (0 : Int) < ((p + 1 : Nat) : Int) by omega), if_pos s1, t1]
    try dsimp only
    rw [g3, if_pos s2]
    try dsimp only
    rw [g4, g5, if_pos s1]
    try dsimp only
    rw [if_pos s3, t2]
    try dsimp only
    by_cases hlt : D < M 26 (M 27 p).toNat
    · rw [if_pos hlt]
      have q1 : ∀ i, i ≤ p → st_ M 27 (p + 1) (M 27 p) 27 i = M 27 i := fun i hi => by rw [st_eq, ud_ne (by omega)]
      have q2 : st_ M 27 (p + 1) (M 27 p) 26 = M 26 := st_ne (by decide)
      obtain ⟨p', a1, a2, a3, a4⟩ := ih k (st_ M 27 (p + 1) (M 27 p)) (by omega) (by omega) (fun i hi => by rw [q1 i (by omega)]; exact h1 i (by omega)) (fun i hi => by rw [q2]; exact h2 i hi)
      refine ⟨p', by omega, by rw [a2, by_sh1 M a1], fun i hi hj => ?_, ?_⟩
      · by_cases he : i = p
        · rw [he]; exact hlt
        · have := a3 i hi (by omega)
          rw [q2, q1 i (by omega)] at this; exact this
      · rw [q2, q1 (p' - 1) (by omega)] at a4; exact a4
    · rw [if_neg hlt]
      refine ⟨p + 1, Nat.le_refl _, by rw [by_sh0], fun i hi hj => absurd hj (by omega), Or.inr ?_⟩
      show ¬ D < M 26 (M 27 p).toNat
      exact hlt
def by_m_25 (M : bz_Mm) (o : Nat → Int) (n : Nat) (D : Int) : bz_Mm := st_ (st_ (fun b => if b = 27 then o else M b) 26 n D) 25 2 ((n : Int) + 1)
theorem by_a1_25 {F : Nat} {M : bz_Mm} {D : Int} {n : Nat} (hn : M 25 2 = n) (hc : n < 120) : fUB_add_25 F M D = cl2_ (UB_add_25_L21 F F (n : Int) D (n : Int) M) (fun l3 m5 => wa_ m5 27 l3 120 (n : Int) fun m6 => wa_ m6 26 (n : Int) 120 D fun m7 => wf_ m7 25 2 ((n : Int) + 1) fun m8 => some ((n : Int), m8)) := by
  have g1 : w32 (M 25 2) < 120 := by rw [hn, w32_id (by omega) (by omega)]; omega
  unfold fUB_add_25
  rw [if_pos g1, hn]
  unfold lt_
  exact Eq.refl _
theorem by_a2_25 {M : bz_Mm} {D : Int} {n p : Nat} (hc : n < 120) (hp : p ≤ n) : (wa_ (by_sh M 27 p n) 27 (p : Int) 120 (n : Int) fun m6 => wa_ m6 26 (n : Int) 120 D fun m7 => wf_ m7 25 2 ((n : Int) + 1) fun m8 => some ((n : Int), m8)) = some ((n : Int), by_m_25 M (by_o (M 27) p n) n D) := by
  have g2 : w32 (p : Int) = (p : Int) := w32_id (by omega) (by omega)
  have g1 : w32 (n : Int) = (n : Int) := w32_id (by omega) (by omega)
  have k1 : 0 ≤ w32 (p : Int) ∧ w32 (p : Int) < ((120 : Nat) : Int) := by rw [g2]; omega
  have k2 : 0 ≤ w32 (n : Int) ∧ w32 (n : Int) < ((120 : Nat) : Int) := by rw [g1]; omega
  unfold wa_ wf_
  rw [if_pos k1]
  try dsimp only
  rw [if_pos k2]
  try dsimp only
  rw [g1, g2, Int.toNat_natCast, Int.toNat_natCast, by_e]
  unfold by_m_25
  exact Eq.refl _
theorem by_add_25 {F : Nat} {M : bz_Mm} {D : Int} {n : Nat} (hF : 120 < F) (hD : 0 ≤ D ∧ D < 260) (hn : M 25 2 = n) (hc : n < 120) (hb : by_ok (M 26) (M 27) n) : ∃ o, fUB_add_25 F M D = some ((n : Int), by_m_25 M o n D) ∧ by_ok (ud (M 26) n D) o (n + 1) := by
  obtain ⟨p, p1, p2, p3, p4⟩ := by_loop_25 (F := F) (l2 := (n : Int)) hD hc n F M (by omega) (Nat.le_refl n) hb.1 hb.2.2.2
  refine ⟨by_o (M 27) p n, ?_, by_ins hb p1 p3 p4 hD⟩
  rw [by_a1_25 hn hc, p2, cl2_s, by_a2_25 hc p1]
theorem by_full_25 {F : Nat} {M : bz_Mm} {D : Int} (hn : M 25 2 = 120) : fUB_add_25 F M D = some (-1, M) := by
  unfold fUB_add_25
  rw [hn, if_neg (by decide)]
theorem by_loop_34 {F n : Nat} {D l2 : Int} (hD : 0 ≤ D ∧ D < 260) (hn : n < 200) : ∀ (p k : Nat) (M : bz_Mm), p < k → p ≤ n → (∀ i, i < p → 0 ≤ M 36 i ∧ M 36 i < n) → (∀ i, i < n → 0 ≤ M 35 i ∧ M 35 i < 260) → ∃ p' : Nat, p' ≤ p ∧ UB_add_34_L21 F k l2 D (p : Int) M = some ((p' : Int), by_sh M 36 p' p) ∧ (∀ i, p' ≤ i → i < p → D < M 35 (M 36 i).toNat) ∧ (p' = 0 ∨ ¬ D < M 35 (M 36 (p' - 1)).toNat) := by
  intro p
  induction p with
  | zero =>
    intro k M hk hp h1 h2
    obtain ⟨k, rfl⟩ : ∃ j, k = j + 1 := ⟨k - 1, by omega⟩
    refine ⟨0, Nat.le_refl _, ?_, fun i _ h => absurd h (by omega), Or.inl rfl⟩
    unfold UB_add_34_L21
    rw [if_neg (by show ¬ 0 < w32 0; rw [w32_0]; decide), by_sh0]
  | succ p ih =>
    intro k M hk hp h1 h2
    obtain ⟨k, rfl⟩ : ∃ j, k = j + 1 := ⟨k - 1, by omega⟩
    have hx1 := h1 p (by omega)
    have hx2 := h2 (M 36 p).toNat (by omega)
    have c1 : ((p + 1 : Nat) : Int) - 1 = (p : Int) := by omega
    have c2 : ((p + 1 : Nat) : Int) + -1 = (p : Int) := by omega
    have g1 : w32 ((p + 1 : Nat) : Int) = ((p + 1 : Nat) : Int) := w32_id (by omega) (by omega)
    have g2 : w32 (p : Int) = (p : Int) := w32_id (by omega) (by omega)
    have g3 : w32 (M 36 p) = M 36 p := w32_id (by omega) (by omega)
    have g4 : w32 D = D := w32_id (by omega) (by omega)
    have g5 : w32 (M 35 (M 36 p).toNat) = M 35 (M 36 p).toNat := w32_id (by omega) (by omega)
    have s1 : (0 : Int) ≤ (p : Int) ∧ (p : Int) < ((200 : Nat) : Int) := by omega
    have s2 : (0 : Int) ≤ M 36 p ∧ M 36 p < ((200 : Nat) : Int) := by omega
    have s3 : (0 : Int) ≤ ((p + 1 : Nat) : Int) ∧ ((p + 1 : Nat) : Int) < ((200 : Nat) : Int) := by omega
    have t1 : ((p : Int)).toNat = p := Int.toNat_natCast p
    have t2 : (((p + 1 : Nat) : Int)).toNat = p + 1 := Int.toNat_natCast (p + 1)
    unfold UB_add_34_L21 rd_ wa_
    rw [c1, c2, g1, g2, if_pos (show (0 : Int) < ((p + 1 : Nat) : Int) by omega), if_pos s1, t1]
    try dsimp only
    rw [g3, if_pos s2]
    try dsimp only
    rw [g4, g5, if_pos s1]
    try dsimp only
    rw [if_pos s3, t2]
    try dsimp only
    by_cases hlt : D < M 35 (M 36 p).toNat
    · rw [if_pos hlt]
      have q1 : ∀ i, i ≤ p → st_ M 36 (p + 1) (M 36 p) 36 i = M 36 i := fun i hi => by rw [st_eq, ud_ne (by omega)]
      have q2 : st_ M 36 (p + 1) (M 36 p) 35 = M 35 := st_ne (by decide)
      obtain ⟨p', a1, a2, a3, a4⟩ := ih k (st_ M 36 (p + 1) (M 36 p)) (by omega) (by omega) (fun i hi => by rw [q1 i (by omega)]; exact h1 i (by omega)) (fun i hi => by rw [q2]; exact h2 i hi)
      refine ⟨p', by omega, by rw [a2, by_sh1 M a1], fun i hi hj => ?_, ?_⟩
      · by_cases he : i = p
        · rw [he]; exact hlt
        · have := a3 i hi (by omega)
          rw [q2, q1 i (by omega)] at this; exact this
      · rw [q2, q1 (p' - 1) (by omega)] at a4; exact a4
    · rw [if_neg hlt]
      refine ⟨p + 1, Nat.le_refl _, by rw [by_sh0], fun i hi hj => absurd hj (by omega), Or.inr ?_⟩
      show ¬ D < M 35 (M 36 p).toNat
      exact hlt
def by_m_34 (M : bz_Mm) (o : Nat → Int) (n : Nat) (D : Int) : bz_Mm := st_ (st_ (fun b => if b = 36 then o else M b) 35 n D) 34 2 ((n : Int) + 1)
theorem by_a1_34 {F : Nat} {M : bz_Mm} {D : Int} {n : Nat} (hn : M 34 2 = n) (hc : n < 200) : fUB_add_34 F M D = cl2_ (UB_add_34_L21 F F (n : Int) D (n : Int) M) (fun l3 m5 => wa_ m5 36 l3 200 (n : Int) fun m6 => wa_ m6 35 (n : Int) 200 D fun m7 => wf_ m7 34 2 ((n : Int) + 1) fun m8 => some ((n : Int), m8)) := by
  have g1 : w32 (M 34 2) < 200 := by rw [hn, w32_id (by omega) (by omega)]; omega
  unfold fUB_add_34
  rw [if_pos g1, hn]
  unfold lt_
  exact Eq.refl _
theorem by_a2_34 {M : bz_Mm} {D : Int} {n p : Nat} (hc : n < 200) (hp : p ≤ n) : (wa_ (by_sh M 36 p n) 36 (p : Int) 200 (n : Int) fun m6 => wa_ m6 35 (n : Int) 200 D fun m7 => wf_ m7 34 2 ((n : Int) + 1) fun m8 => some ((n : Int), m8)) = some ((n : Int), by_m_34 M (by_o (M 36) p n) n D) := by
  have g2 : w32 (p : Int) = (p : Int) := w32_id (by omega) (by omega)
  have g1 : w32 (n : Int) = (n : Int) := w32_id (by omega) (by omega)
  have k1 : 0 ≤ w32 (p : Int) ∧ w32 (p : Int) < ((200 : Nat) : Int) := by rw [g2]; omega
  have k2 : 0 ≤ w32 (n : Int) ∧ w32 (n : Int) < ((200 : Nat) : Int) := by rw [g1]; omega
  unfold wa_ wf_
  rw [if_pos k1]
  try dsimp only
  rw [if_pos k2]
  try dsimp only
  rw [g1, g2, Int.toNat_natCast, Int.toNat_natCast, by_e]
  unfold by_m_34
  exact Eq.refl _
theorem by_add_34 {F : Nat} {M : bz_Mm} {D : Int} {n : Nat} (hF : 200 < F) (hD : 0 ≤ D ∧ D < 260) (hn : M 34 2 = n) (hc : n < 200) (hb : by_ok (M 35) (M 36) n) : ∃ o, fUB_add_34 F M D = some ((n : Int), by_m_34 M o n D) ∧ by_ok (ud (M 35) n D) o (n + 1) := by
  obtain ⟨p, p1, p2, p3, p4⟩ := by_loop_34 (F := F) (l2 := (n : Int)) hD hc n F M (by omega) (Nat.le_refl n) hb.1 hb.2.2.2
  refine ⟨by_o (M 36) p n, ?_, by_ins hb p1 p3 p4 hD⟩
  rw [by_a1_34 hn hc, p2, cl2_s, by_a2_34 hc p1]
theorem by_full_34 {F : Nat} {M : bz_Mm} {D : Int} (hn : M 34 2 = 200) : fUB_add_34 F M D = some (-1, M) := by
  unfold fUB_add_34
  rw [hn, if_neg (by decide)]
