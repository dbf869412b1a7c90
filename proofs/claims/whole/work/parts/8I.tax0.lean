/-! tax: the same deals in the same order -/
def txC (K : bz_Mm) (c : Nat → Int) (s : Int × Int) (d : Nat) : Int × Int := (s.1 + (if K 107 d < 0 then -((w64 (s.1 * -K 107 d)).tdiv s.2) else c d), s.2 + K 107 d)
def txS (K : bz_Mm) (c : Nat → Int) (w g D : Nat) : Nat → Int × Int → Int × Int
  | 0, s => s
  | n + 1, s => if K 103 n = w ∧ K 104 n = g ∧ K 106 n = D then txC K c (txS K c w g D n s) n else txS K c w g D n s
theorem txS_S (K : bz_Mm) (c : Nat → Int) (w g D n : Nat) (s : Int × Int) : txS K c w g D (n + 1) s = if K 103 n = w ∧ K 104 n = g ∧ K 106 n = D then txC K c (txS K c w g D n s) n else txS K c w g D n s := rfl
def txD (K : bz_Mm) (c : Nat → Int) (w g nd : Nat) : Nat → Int × Int
  | 0 => (0, 0)
  | D + 1 => txS K c w g D nd (txD K c w g nd D)
theorem txD_S (K : bz_Mm) (c : Nat → Int) (w g nd D : Nat) : txD K c w g nd (D + 1) = txS K c w g D nd (txD K c w g nd D) := rfl
theorem txS_k {K : bz_Mm} {c : Nat → Int} {w g D : Nat} {s : Int × Int} : ∀ (y x : Nat), x ≤ y → (∀ u, x ≤ u → u < y → K 106 u ≠ D) → txS K c w g D y s = txS K c w g D x s := by
  intro y
  induction y with
  | zero => intro x h _; have : x = 0 := by omega
            rw [this]
  | succ y ih =>
    intro x a b
    by_cases e : x = y + 1
    · rw [e]
    · rw [txS_S, if_neg (fun q => b y (by omega) (by omega) q.2.2)]
      exact ih x (by omega) (fun u p q => b u p (by omega))
theorem txD_k {K : bz_Mm} {c : Nat → Int} {w g nd D1 : Nat} : ∀ m : Nat, (∀ u, u < nd → ¬ ((D1 : Int) ≤ K 106 u ∧ K 106 u < D1 + m)) → txD K c w g nd (D1 + m) = txD K c w g nd D1 := by
  intro m
  induction m with
  | zero => intro _; rfl
  | succ m ih =>
    intro h
    rw [show D1 + (m + 1) = (D1 + m) + 1 by omega, txD_S, txS_k nd 0 (by omega) (fun u _ hu q => h u hu (by omega)), ih (fun u hu q => h u hu (by omega))]
    rfl
/-- the state ahead of index i of day D -/
def txB (K : bz_Mm) (c : Nat → Int) (w g nd D i : Nat) : Int × Int := txS K c w g D i (txD K c w g nd D)
/-- nothing lies between -/
theorem txB_k {K : bz_Mm} {c : Nat → Int} {w g nd D1 i1 D2 i2 : Nat} (h1 : i1 ≤ nd) (h2 : i2 ≤ nd) (hl : D1 < D2 ∨ (D1 = D2 ∧ i1 ≤ i2)) (h : ∀ u, u < nd → ¬ (((D1 : Int) < K 106 u ∨ (K 106 u = D1 ∧ i1 ≤ u)) ∧ (K 106 u < D2 ∨ (K 106 u = D2 ∧ u < i2)))) : txB K c w g nd D2 i2 = txB K c w g nd D1 i1 := by
  unfold txB
  by_cases e : D1 = D2
  · subst e
    exact txS_k i2 i1 (by omega) (fun u a b q => h u (by omega) (by omega))
  · obtain ⟨m, hm⟩ : ∃ m, D2 = (D1 + 1) + m := ⟨D2 - (D1 + 1), by omega⟩
    rw [txS_k i2 0 (by omega) (fun u a b q => h u (by omega) (by omega))]
    show txD K c w g nd D2 = _
    rw [hm, txD_k m (fun u hu q => h u hu (by omega)), txD_S]
    exact txS_k nd i1 h1 (fun u a b q => h u b (by omega))
def TOK (K : bz_Mm) (c : Nat → Int) (nd : Nat) : Prop := nd ≤ 200 ∧ (∀ d, d < nd → (0 ≤ c d ∧ c d ≤ 1000000000) ∧ (K 107 d = 0 → c d = 0)) ∧ (∀ d, d < nd → 0 ≤ hbi K nd d + K 107 d) ∧ ∀ d, d < nd → (-10000 ≤ K 107 d ∧ K 107 d ≤ 10000) ∧ (0 ≤ K 103 d ∧ K 103 d < 20) ∧ (0 ≤ K 104 d ∧ K 104 d < 4) ∧ 0 ≤ K 106 d ∧ K 106 d < 260
theorem shr_r {cost has u : Int} (hc : 0 ≤ cost ∧ cost ≤ 100000000000000) (hu : 0 < u ∧ u ≤ 10000) (hh : u ≤ has) : (w64 (cost * u)).tdiv has = cost * u / has ∧ 0 ≤ (w64 (cost * u)).tdiv has ∧ (w64 (cost * u)).tdiv has ≤ cost := by
  have h1 : 0 ≤ cost * u := Int.mul_nonneg hc.1 (by omega)
  have h2 : cost * u ≤ 100000000000000 * 10000 := Int.mul_le_mul hc.2 hu.2 (by omega) (by decide)
  rw [r64_w (x := cost * u) ⟨by omega, by omega⟩, Int.tdiv_eq_ediv_of_nonneg h1]
  refine ⟨rfl, Int.ediv_nonneg h1 (by omega), ?_⟩
  have h3 : cost * u ≤ cost * has := Int.mul_le_mul_of_nonneg_left hh hc.1
  have h4 : cost * u / has ≤ cost * has / has := Int.ediv_le_ediv (by omega) h3
  rw [Int.mul_ediv_cancel cost (by omega)] at h4
  exact h4
theorem tx_inv {K : bz_Mm} {c : Nat → Int} {w g nd : Nat} (hK : TOK K c nd) : ∀ D : Nat, D ≤ 260 → ∀ i : Nat, i ≤ nd → (txB K c w g nd D i).2 = hwm K w g D nd + sdl K g D (fun j => if K 103 j = (w : Int) then K 107 j else 0) i ∧ (0 ≤ (txB K c w g nd D i).1 ∧ (txB K c w g nd D i).1 ≤ 1000000000 * (200 * (D : Int) + i)) ∧ (-(10000 * (200 * (D : Int) + i)) ≤ (txB K c w g nd D i).2 ∧ (txB K c w g nd D i).2 ≤ 10000 * (200 * (D : Int) + i)) := by
  obtain ⟨k1, k2, k3, k4⟩ := hK
  intro D
  induction D with
  | zero =>
    intro _ i
    have h0 : ∀ m, m ≤ nd → hwm K w g 0 m = 0 := fun m => by
      induction m with
      | zero => intro _; rfl
      | succ m ih => intro hm; have := (k4 m (by omega)).2.2.2; rw [hwm_S, ih (by omega), if_neg (by omega)]; omega
    induction i with
    | zero =>
      intro _
      rw [h0 nd (Nat.le_refl nd)]
      show (0 : Int) = 0 + 0 ∧ (0 ≤ (0 : Int) ∧ (0 : Int) ≤ _) ∧ _ ≤ (0 : Int) ∧ (0 : Int) ≤ _
      exact ⟨by omega, ⟨by omega, by omega⟩, by omega, by omega⟩
    | succ i ih =>
      intro hi
      obtain ⟨a, b, e⟩ := ih (by omega)
      obtain ⟨u1, u2, u3, u4⟩ := k4 i (by omega)
      have z : txB K c w g nd 0 (i + 1) = if K 103 i = w ∧ K 104 i = g ∧ K 106 i = (0 : Nat) then txC K c (txB K c w g nd 0 i) i else txB K c w g nd 0 i := rfl
      rw [z, sdl_S]
      by_cases q : K 103 i = w ∧ K 104 i = g ∧ K 106 i = (0 : Nat)
      · rw [if_pos q, if_pos (c := K 104 i = (g : Int) ∧ K 106 i = ((0 : Nat) : Int)) q.2, if_pos q.1]
        have hb := k3 i (by omega)
        have eb : hbi K nd i = (txB K c w g nd 0 i).2 := by
          rw [a]
          unfold hbi
          rw [show (K 103 i).toNat = w by omega, show (K 104 i).toNat = g by omega, show (K 106 i).toNat = 0 by omega, q.1]
        unfold txC
        dsimp only
        generalize txB K c w g nd 0 i = s at a b e eb
        refine ⟨by omega, ?_, by omega, by omega⟩
        by_cases n : K 107 i < 0
        · rw [if_pos n]
          have sh := shr_r (cost := s.1) (has := s.2) (u := -K 107 i) (by omega) (by omega) (by omega)
          omega
        · rw [if_neg n]
          have := (k2 i (by omega)).1
          omega
      · rw [if_neg q]
        have : (if K 104 i = (g : Int) ∧ K 106 i = ((0 : Nat) : Int) then (if K 103 i = (w : Int) then K 107 i else 0) else 0) = 0 := by
          by_cases x : K 104 i = (g : Int) ∧ K 106 i = ((0 : Nat) : Int)
          · rw [if_pos x, if_neg (fun y => q ⟨y, x⟩)]
          · rw [if_neg x]
        rw [this]
        exact ⟨by omega, ⟨b.1, by omega⟩, by omega, by omega⟩
  | succ D ihD =>
    intro hD i
    induction i with
    | zero =>
      intro _
      obtain ⟨a, b, e⟩ := ihD (by omega) nd (Nat.le_refl nd)
      have z : txB K c w g nd (D + 1) 0 = txB K c w g nd D nd := rfl
      rw [z, a, hwm_D]
      rw [a] at e
      refine ⟨?_, ⟨b.1, by have := b.2; omega⟩, by omega, by omega⟩
      show _ = _ + 0
      omega
    | succ i ih =>
      intro hi
      obtain ⟨a, b, e⟩ := ih (by omega)
      obtain ⟨u1, u2, u3, u4⟩ := k4 i (by omega)
      have z : txB K c w g nd (D + 1) (i + 1) = if K 103 i = w ∧ K 104 i = g ∧ K 106 i = ((D + 1) : Nat) then txC K c (txB K c w g nd (D + 1) i) i else txB K c w g nd (D + 1) i := rfl
      rw [z, sdl_S]
      by_cases q : K 103 i = w ∧ K 104 i = g ∧ K 106 i = ((D + 1) : Nat)
      · rw [if_pos q, if_pos (c := K 104 i = (g : Int) ∧ K 106 i = (((D + 1) : Nat) : Int)) q.2, if_pos q.1]
        have hb := k3 i (by omega)
        have eb : hbi K nd i = (txB K c w g nd (D + 1) i).2 := by
          rw [a]
          unfold hbi
          rw [show (K 103 i).toNat = w by omega, show (K 104 i).toNat = g by omega, show (K 106 i).toNat = (D + 1) by omega, q.1]
        unfold txC
        dsimp only
        generalize txB K c w g nd (D + 1) i = s at a b e eb
        refine ⟨by omega, ?_, by omega, by omega⟩
        by_cases n : K 107 i < 0
        · rw [if_pos n]
          have sh := shr_r (cost := s.1) (has := s.2) (u := -K 107 i) (by omega) (by omega) (by omega)
          omega
        · rw [if_neg n]
          have := (k2 i (by omega)).1
          omega
      · rw [if_neg q]
        have : (if K 104 i = (g : Int) ∧ K 106 i = (((D + 1) : Nat) : Int) then (if K 103 i = (w : Int) then K 107 i else 0) else 0) = 0 := by
          by_cases x : K 104 i = (g : Int) ∧ K 106 i = (((D + 1) : Nat) : Int)
          · rw [if_pos x, if_neg (fun y => q ⟨y, x⟩)]
          · rw [if_neg x]
        rw [this]
        exact ⟨by omega, ⟨b.1, by omega⟩, by omega, by omega⟩
