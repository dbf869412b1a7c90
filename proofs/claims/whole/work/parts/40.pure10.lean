/-! steps for simp, with omega for the side goals -/
theorem rd_i {α : Type} {M : bz_Mm} {a n : Nat} {j : Int} {k : Int → Option α} (h0 : 0 ≤ j) (h1 : j < (n : Int)) (hn : n ≤ 2147483647) : rd_ M a j n k = k (M a j.toNat) := by
  have g : w32 j = j := w32_id (by omega) (by omega)
  unfold rd_
  rw [g, if_pos ⟨h0, h1⟩]
theorem wa_i {α : Type} {M : bz_Mm} {a n : Nat} {j v : Int} {k : bz_Mm → Option α} (h0 : 0 ≤ j) (h1 : j < (n : Int)) (hn : n ≤ 2147483647) : wa_ M a j n v k = k (st_ M a j.toNat v) := by
  have g : w32 j = j := w32_id (by omega) (by omega)
  unfold wa_
  rw [g, if_pos ⟨h0, h1⟩]
theorem ra_i {α : Type} {n : Nat} {j : Int} {k : Nat → Option α} (h0 : 0 ≤ j) (h1 : j < (n : Int)) (hn : n ≤ 2147483647) : ra_ j n k = k j.toNat := by
  have g : w32 j = j := w32_id (by omega) (by omega)
  unfold ra_
  rw [g, if_pos ⟨h0, h1⟩]
theorem rw_i {α : Type} {j : Int} {k : Int → Option α} (h0 : 0 ≤ j) (h1 : j < 12) : rw_ j k = k (bz_wo.getD j.toNat 0) := by
  have g : w32 j = j := w32_id (by omega) (by omega)
  unfold rw_ wo_
  rw [g, if_pos ⟨h0, by omega⟩]
theorem lt_x {α : Type} (e : Int) (k : Int → Option α) : lt_ e k = k e := rfl
theorem cs1_l {α β γ : Type} (b : β) (l : β → Option α) (k : γ → Option α) : cs1_ (some (Sum.inl b)) l k = l b := rfl
theorem cs1_r {α β γ : Type} (b : γ) (l : β → Option α) (k : γ → Option α) : cs1_ (some (Sum.inr b)) l k = k b := rfl
/-! laws: which one counts on a day, and what it says -/
/-- the last law among the first n that was taken by a day -/
def lw (t : Nat → Int) (day : Int) : Nat → Int
  | 0 => -1
  | n + 1 => if t n ≤ day then (n : Int) else lw t day n
theorem lw_S (t : Nat → Int) (day : Int) (n : Nat) : lw t day (n + 1) = if t n ≤ day then (n : Int) else lw t day n := rfl
theorem lw_r (t : Nat → Int) (day : Int) (n : Nat) : -1 ≤ lw t day n ∧ lw t day n < n := by
  induction n with
  | zero => exact ⟨by unfold lw; omega, by unfold lw; omega⟩
  | succ n ih => unfold lw; split <;> omega
def ru (M : bz_Mm) (l f w : Nat) : Int := if M (119 + 5 * l + f) w = -2147483648 then (if M (119 + 5 * l + 4) w = -2147483648 then bz_wo.getD w 0 else M (119 + 5 * l + 4) w) else M (119 + 5 * l + f) w
def rv (M : bz_Mm) (f : Nat) (day : Int) (w : Nat) : Int := if lw (M 154) day (M 81 43).toNat = -1 then bz_wo.getD w 0 else ru M (lw (M 154) day (M 81 43).toNat).toNat f w
def rl_ok (w : Nat) (x : Int) : Prop := x ≤ [5000, 1000, 10000, 24, 5000, 100000, 2, 100000, 300, 2, 90, 60].getD w 0 ∧ (if w = 7 then -1 ≤ x else 0 ≤ x)
def iv_la (M : bz_Mm) (n : Nat) : Prop := M 45 2 = n ∧ M 81 43 = n ∧ n ≤ 6 ∧ (∀ l, l < n → M 46 l = M 154 l ∧ r32 (M 154 l)) ∧ (∀ w, w < 12 → M 155 w = bz_wo.getD w 0) ∧ (∀ l f w, l < n → f < 5 → w < 12 → r32 (M (119 + 5 * l + f) w)) ∧ ∀ l f w, l < n → f < 4 → w < 12 → M 47 ((l * 4 + f) * 12 + w) = ru M l f w ∧ rl_ok w (ru M l f w)
theorem lw_U {F : Nat} {M : bz_Mm} {f day w : Int} (hd : r32 day) {n : Nat} (hn : n ≤ 6) (hr : ∀ l, l < n → M 46 l = M 154 l ∧ r32 (M 154 l)) : ∀ (j fuel : Nat), j ≤ n → j < fuel → UL_value_L8 F fuel M f day w ((j : Int) - 1) = some (lw (M 154) day j) := by
  intro j
  induction j with
  | zero =>
    intro fuel h1 h2
    obtain ⟨fuel, rfl⟩ : ∃ j, fuel = j + 1 := ⟨fuel - 1, by omega⟩
    unfold UL_value_L8
    simp (disch := omega) only [w32_id]
    rw [if_pos (by omega)]
    rfl
  | succ j ih =>
    intro fuel h1 h2
    obtain ⟨fuel, rfl⟩ : ∃ j, fuel = j + 1 := ⟨fuel - 1, by omega⟩
    obtain ⟨e1, e2⟩ := hr j (by omega)
    have e3 := ih fuel (by omega) (by omega)
    have c : (((j + 1 : Nat) : Int) - 1).toNat = j := by omega
    have c2 : ((j + 1 : Nat) : Int) - 1 + -1 = (j : Int) - 1 := by omega
    unfold UL_value_L8
    simp (disch := omega) only [w32_id (x := ((j + 1 : Nat) : Int) - 1), rd_i, c, e1, r32_w e2, r32_w hd, c2, e3]
    rw [if_neg (by omega), lw_S]
    by_cases h : day < M 154 j
    · rw [if_pos h, if_neg (by omega)]
    · rw [if_neg h, if_pos (by omega)]
      congr 1; omega
theorem lw_M {F : Nat} {M : bz_Mm} {f day w : Int} (hd : r32 day) {n : Nat} (hn : n ≤ 6) (h43 : M 81 43 = n) (hr : ∀ l, l < n → r32 (M 154 l)) : ∀ (m fuel i : Nat), m + i = n → m < fuel → M_ruleOf_L6 F fuel M f day w (i : Int) (lw (M 154) day i) = some (lw (M 154) day n) := by
  intro m
  induction m with
  | zero =>
    intro fuel i h1 h2
    obtain ⟨fuel, rfl⟩ : ∃ j, fuel = j + 1 := ⟨fuel - 1, by omega⟩
    have e : i = n := by omega
    subst e
    unfold M_ruleOf_L6
    rw [h43, if_neg (by omega)]
  | succ m ih =>
    intro fuel i h1 h2
    obtain ⟨fuel, rfl⟩ : ∃ j, fuel = j + 1 := ⟨fuel - 1, by omega⟩
    have e2 := hr i (by omega)
    have e3 := ih fuel (i + 1) (by omega) (by omega)
    have c2 : (i : Int) + 1 = ((i + 1 : Nat) : Int) := by omega
    unfold M_ruleOf_L6
    simp (disch := omega) only [w32_id (x := (i : Int)), w32_id (x := (n : Int)), h43, rd_i, Int.toNat_natCast, r32_w e2, r32_w hd, c2]
    rw [if_pos (by omega)]
    rw [lw_S] at e3
    by_cases h : day < M 154 i
    · rw [if_neg (by omega)] at e3
      rw [if_pos h]; exact e3
    · rw [if_pos (by omega)] at e3
      rw [if_neg h]; exact e3
theorem rule_both {F n : Nat} {M : bz_Mm} {f day w : Int} (hF : 6 < F) (hI : iv_la M n) (hf : 0 ≤ f ∧ f < 4) (hd : r32 day) (hw : 0 ≤ w ∧ w < 12) : fUL_value F M f day w = some (rv M f.toNat day w.toNat) ∧ fM_ruleOf F M f day w = some (rv M f.toNat day w.toNat) ∧ rl_ok w.toNat (rv M f.toNat day w.toNat) := by
  obtain ⟨i1, i2, i3, i4, i5, i6, i7⟩ := hI
  have a1 := lw_U (F := F) (f := f) (w := w) hd i3 i4 n F (Nat.le_refl n) (by omega)
  have a2 : M_ruleOf_L6 F F M f day w 0 (-1) = _ := lw_M (F := F) (f := f) (w := w) hd i3 i2 (fun l h => (i4 l h).2) n F 0 (by omega) (by omega)
  have hr := lw_r (M 154) day n
  have e0 : (M 81 43).toNat = n := by rw [i2]; exact Int.toNat_natCast n
  unfold fUL_value fM_ruleOf rv
  rw [e0, i1, lt_x, a1, a2, cl1_s, cl1_s]
  generalize lw (M 154) day n = x at hr ⊢
  have ew := i5 w.toNat (by omega)
  by_cases hx : x = -1
  · subst hx
    simp (disch := omega) only [w32_id, rw_i, rd_i, if_true, ew, true_and]
    refine ⟨if_pos (by decide), ?_⟩
    obtain ⟨w, rfl⟩ : ∃ q : Nat, w = q := ⟨w.toNat, by omega⟩
    rw [Int.toNat_natCast]
    have : w < 12 := by omega
    clear ew hw a1 a2
    exact match w, this with
    | 0, _ => by unfold rl_ok; decide
    | 1, _ => by unfold rl_ok; decide
    | 2, _ => by unfold rl_ok; decide
    | 3, _ => by unfold rl_ok; decide
    | 4, _ => by unfold rl_ok; decide
    | 5, _ => by unfold rl_ok; decide
    | 6, _ => by unfold rl_ok; decide
    | 7, _ => by unfold rl_ok; decide
    | 8, _ => by unfold rl_ok; decide
    | 9, _ => by unfold rl_ok; decide
    | 10, _ => by unfold rl_ok; decide
    | 11, _ => by unfold rl_ok; decide
    | k + 12, h => absurd h (by omega)
  · have g1 := i7 x.toNat f.toNat w.toNat (by omega) (by omega) (by omega)
    have g2 := i6 x.toNat f.toNat w.toNat (by omega) (by omega) (by omega)
    have g3 := i6 x.toNat 4 w.toNat (by omega) (by omega) (by omega)
    have c : ((x * 4 + f) * 12 + w).toNat = (x.toNat * 4 + f.toNat) * 12 + w.toNat := by omega
    have c4 : (4 : Int).toNat = 4 := rfl
    have c5 : 0 ≤ (x * 4 + f) * 12 + w ∧ (x * 4 + f) * 12 + w < 288 := by omega
    simp (disch := omega) only [w32_id (x := x), rd_i, ra_i, c, c4, r32_w g2, r32_w g3, g1.1, if_neg hx, ew]
    rw [if_neg (by omega)]
    refine ⟨rfl, ?_, g1.2⟩
    unfold ru
    repeat' split
    all_goals rfl
theorem eq_rule {F n : Nat} {M : bz_Mm} {a1 a2 a3 : Int} (hF : 6 < F) (hI : iv_la M n) (h1 : r32 a1) (h2 : r32 a2) (h3 : r32 a3) (hf : 0 ≤ M 1 14 ∧ M 1 14 ≤ 4) (hf2 : M 81 19 = M 1 14) : ∃ x, fU_rule F M a1 a2 a3 = some x ∧ fM_rule1 F M a1 a2 a3 = some x := by
  have z0 : r32 0 := r32_of (by decide) (by decide)
  unfold fU_rule fM_rule1
  simp only [uUS_isFund h1 hf, uM_isFund h1 (by omega : 0 ≤ M 81 19 ∧ M 81 19 ≤ 4), uU_isDay h2, r32_w h3, r32_w h2, fM_in_0 h2 z0 (r32_of (by decide) (by decide) : r32 259), fM_in_0 h3 z0 (r32_of (by decide) (by decide) : r32 11), hf2]
  by_cases c : (0 ≤ a1 ∧ a1 < M 1 14) ∧ (0 ≤ a2 ∧ a2 < 260) ∧ 0 ≤ a3 ∧ a3 < 12
  · obtain ⟨b1, b2, b3⟩ := rule_both (f := a1) hF hI (by omega) h2 c.2.2
    simp only [b1, b2, cl_s]
    refine ⟨rv M a1.toNat a2 a3.toNat, ?_, ?_⟩ <;> (repeat' split) <;> first | rfl | (exfalso; omega)
  · refine ⟨-2147483648, ?_, ?_⟩ <;> (repeat' split) <;> first | rfl | (exfalso; omega)
