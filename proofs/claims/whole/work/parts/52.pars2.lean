/-! runs of bytes in the reference -/
theorem uM_skips {F n L : Nat} {T S : Nat → Int} (hF : 601 < F) (ht : tx T S n) (hL : L ≤ n) {M : bz_Mm} {a : Nat} (hS : M 110 = S) (h39 : M 81 39 = L) (ha : M 81 38 = a) (han : a ≤ 601) : fM_skips F M = some (st_ M 81 38 ((rn pSp T a (L - a) : Nat) : Int)) := by
  have h6 := ht.1
  have key : ∀ (m fuel a : Nat) (M : bz_Mm), M 110 = S → M 81 39 = L → M 81 38 = a → a ≤ 601 → m = L - a → m < fuel → M_skips_L0 F fuel M = some (st_ M 81 38 ((rn pSp T a m : Nat) : Int)) := by
    intro m
    induction m with
    | zero =>
      intro fuel a M hS h39 ha han h1 h2
      obtain ⟨fuel, rfl⟩ : ∃ j, fuel = j + 1 := ⟨fuel - 1, by omega⟩
      rw [M_skips_L0, h39, ha, w32_id (x := (a : Int)) (by omega) (by omega), w32_id (x := (L : Int)) (by omega) (by omega), if_neg (by omega)]
      have e : ((rn pSp T a 0 : Nat) : Int) = M 81 38 := by rw [ha]; rfl
      rw [e, st_self]
    | succ m ih =>
      intro fuel a M hS h39 ha han h1 h2
      obtain ⟨fuel, rfl⟩ : ∃ j, fuel = j + 1 := ⟨fuel - 1, by omega⟩
      obtain ⟨b1, b2⟩ := ht.2 a (by omega)
      obtain ⟨d1, d2, d3, d4, d5⟩ := sb_r b1
      have e : (a : Int) + 1 = ((a + 1 : Nat) : Int) := by omega
      rw [M_skips_L0, h39, ha, w32_id (x := (a : Int)) (by omega) (by omega), w32_id (x := (L : Int)) (by omega) (by omega), if_pos (by omega), rd_s (by omega) (by decide), hS, b2, w32_id (x := sb (T a)) (by omega) (by omega), wf_s, e, rn_S]
      by_cases c : T a = 32
      · rw [if_pos ((d3 32 (by decide)).mpr c), if_pos (pSp_t.mpr c), ih fuel (a + 1) (st_ M 81 38 ((a + 1 : Nat) : Int)) (by rw [st_ne (by decide)]; exact hS) (by rw [st_eq, ud_ne (by decide)]; exact h39) (by rw [st_eq, ud_eq]) (by omega) (by omega) (by omega), st_st]
      · rw [if_neg (fun q => c ((d3 32 (by decide)).mp q)), if_neg (fun q => c (pSp_t.mp q)), ← ha, st_self]
  unfold fM_skips
  rw [key (L - a) F a M hS h39 ha han rfl (by omega), cl1_s]
theorem uM_wordEnd {F n L : Nat} {T S : Nat → Int} (hF : 600 < F) (ht : tx T S n) (hL : L ≤ n) {M : bz_Mm} {a : Nat} (hS : M 110 = S) (h39 : M 81 39 = L) (ha : M 81 38 = a) (haL : a ≤ L) : fM_wordEnd F M = some ((rn pLe T a (L - a) : Nat) : Int) := by
  have h6 := ht.1
  have key : ∀ (m fuel a : Nat), a + m = L → m < fuel → M_wordEnd_L5 F fuel M (a : Int) = some ((rn pLe T a m : Nat) : Int) := by
    intro m
    induction m with
    | zero =>
      intro fuel a h1 h2
      obtain ⟨fuel, rfl⟩ : ∃ j, fuel = j + 1 := ⟨fuel - 1, by omega⟩
      rw [M_wordEnd_L5, h39, w32_id (x := (a : Int)) (by omega) (by omega), w32_id (x := (L : Int)) (by omega) (by omega), if_neg (by omega)]
      rfl
    | succ m ih =>
      intro fuel a h1 h2
      obtain ⟨fuel, rfl⟩ : ∃ j, fuel = j + 1 := ⟨fuel - 1, by omega⟩
      obtain ⟨b1, b2⟩ := ht.2 a (by omega)
      obtain ⟨d1, d2, d3, d4, d5⟩ := sb_r b1
      have e : (a : Int) + 1 = ((a + 1 : Nat) : Int) := by omega
      rw [M_wordEnd_L5, h39, w32_id (x := (a : Int)) (by omega) (by omega), w32_id (x := (L : Int)) (by omega) (by omega), if_pos (by omega), rd_s (by omega) (by decide), hS, b2, e, ih fuel (a + 1) (by omega) (by omega), rn_S]
      unfold fM_isLetter
      rw [w32_id (x := sb (T a)) (by omega) (by omega)]
      by_cases c : 97 ≤ T a ∧ T a ≤ 122
      · have c2 := d4.mpr c
        rw [if_pos (pLe_t.mpr c), if_neg (by rw [if_neg (by omega), if_neg (by omega)]; decide)]
      · have c2 : ¬ (97 ≤ sb (T a) ∧ sb (T a) ≤ 122) := fun q => c (d4.mp q)
        rw [if_neg (c := pLe (T a) = true) (fun q => c (pLe_t.mp q)), if_pos]
        by_cases c3 : sb (T a) < 97
        · rw [if_pos c3]; decide
        · rw [if_neg c3, if_pos (by omega)]; decide
  unfold fM_wordEnd
  rw [lt_x, ha, key (L - a) F a (by omega) (by omega), cl1_s]
/-- a line from l0 to L: L is the first line's end from l0 on -/
def ln (T : Nat → Int) (n l0 L : Nat) : Prop := l0 ≤ L ∧ L ≤ n ∧ (L < n → T L = 10) ∧ ∀ j, l0 ≤ j → j < L → T j ≠ 10
theorem ln.c {T : Nat → Int} {n l0 L i : Nat} {P : Int → Bool} (h : ln T n l0 L) (h10 : P 10 = false) (hi : i ≤ L) : rn P T i (L - i) = rn P T i (n - i) := (rn_c h10 h.2.2.1 h.2.1 hi).symm
theorem ln.r {T : Nat → Int} {n l0 L i : Nat} {P : Int → Bool} (h : ln T n l0 L) (h10 : P 10 = false) (hi : i ≤ L) : i ≤ rn P T i (n - i) ∧ rn P T i (n - i) ≤ L := by
  rw [← h.c h10 hi]
  have := rn_r (P := P) (T := T) (L - i) i
  omega
theorem kd_0 {T : Nat → Int} {n l0 L s : Nat} (h : ln T n l0 L) (h0 : l0 ≤ s) (hs : s ≤ L) : kd T n s = 0 ↔ s = L := by
  obtain ⟨h1, h2, h3, h4⟩ := h
  unfold kd
  by_cases c : s = L
  · subst c
    by_cases c2 : s < n
    · rw [if_pos c2, if_pos (h3 c2)]; simp
    · rw [if_neg c2]; simp
  · rw [if_pos (by omega), if_neg (h4 s h0 (by omega))]
    constructor
    · intro q
      exfalso
      revert q
      repeat' split
      all_goals omega
    · intro q; exact absurd q c
theorem uM_isWord {F n l0 L w : Nat} {T S : Nat → Int} (hF : 600 < F) (hw : w < 18) (ht : tx T S n) (hl : ln T n l0 L) {M : bz_Mm} {s : Nat} (hS : M 110 = S) (h39 : M 81 39 = L) (hs : M 81 38 = s) (hsL : s ≤ L) : ∃ x : Int, fM_isWord F M w = some x ∧ (w32 x = 0 ↔ ¬ wd T n s w) := by
  have h6 := ht.1
  have hLn := hl.2.1
  obtain ⟨w1, w2, w3⟩ := wrd w hw
  have hr := hl.r (P := pLe) (i := s) (by decide) hsL
  unfold fM_isWord
  rw [uM_wordEnd hF ht hLn hS h39 hs hsL, cl_s, hl.c (by decide) hsL, hs, w1, w32_id (x := ((sn_ w : Nat) : Int)) (by omega) (by omega), w32_id (x := ((rn pLe T s (n - s) : Nat) : Int) - (s : Int)) (by omega) (by omega)]
  by_cases c2 : rn pLe T s (n - s) = s + sn_ w
  · have k : M_isWord_L20 F F M w 0 = _ := wm_M (F := F) hw ht hS hs (by omega) (sn_ w) F 0 (by omega) (by omega)
    rw [if_pos (by omega), k]
    by_cases c3 : wm T s w 0 (sn_ w) = true
    · rw [if_pos c3, cs1_r]
      exact ⟨1, rfl, by rw [w32_1p]; simp; exact ⟨c2, c3⟩⟩
    · rw [if_neg c3, cs1_l]
      exact ⟨0, rfl, by rw [w32_0]; simp; exact fun q => c3 q.2⟩
  · rw [if_neg (by omega)]
    exact ⟨0, rfl, by rw [w32_0]; simp; exact fun q => c2 q.1⟩
/-! numbers -/
def nw (T : Nat → Int) : Nat → Nat → Int → Int
  | _, 0, v => v
  | i, m + 1, v => if pDi (T i) = true then nw T (i + 1) m (if 2000000000 < 10 * v + T i - 48 then 2000000000 else 10 * v + T i - 48) else v
theorem nw_S (T : Nat → Int) (i m : Nat) (v : Int) : nw T i (m + 1) v = if pDi (T i) = true then nw T (i + 1) m (if 2000000000 < 10 * v + T i - 48 then 2000000000 else 10 * v + T i - 48) else v := rfl
theorem nu_nw {T : Nat → Int} : ∀ (m i : Nat) (u v : Int), (0 ≤ v ∧ v ≤ 2000000000) → u = (if 1000000 < v then 1000000 else v) → (0 ≤ nw T i m v ∧ nw T i m v ≤ 2000000000) ∧ nu T i m u = (if 1000000 < nw T i m v then 1000000 else nw T i m v) := by
  intro m
  induction m with
  | zero => intro i u v h1 h2; exact ⟨h1, h2⟩
  | succ m ih =>
    intro i u v h1 h2
    rw [nu_S, nw_S]
    by_cases c : pDi (T i) = true
    · have c2 := pDi_t.mp c
      rw [if_pos c, if_pos c]
      refine ih (i + 1) _ _ ?_ ?_
      · split <;> omega
      · rw [h2]; repeat' split
        all_goals omega
    · rw [if_neg c, if_neg c]; exact ⟨h1, h2⟩
theorem uM_digits {F n L : Nat} {T S : Nat → Int} (ht : tx T S n) (hL : L ≤ n) {M : bz_Mm} {l1 : Int} (hS : M 110 = S) (h39 : M 81 39 = L) : ∀ (m fuel i : Nat) (v : Int), (0 ≤ v ∧ v ≤ 2000000000) → i + m = L → m < fuel → M_number_L21 F fuel M l1 v (i : Int) = some (nw T i m v, ((rn pDi T i m : Nat) : Int)) := by
  have h6 := ht.1
  intro m
  induction m with
  | zero =>
    intro fuel i v hv h1 h2
    obtain ⟨fuel, rfl⟩ : ∃ j, fuel = j + 1 := ⟨fuel - 1, by omega⟩
    rw [M_number_L21, h39, w32_id (x := (i : Int)) (by omega) (by omega), w32_id (x := (L : Int)) (by omega) (by omega), if_neg (by omega)]
    rfl
  | succ m ih =>
    intro fuel i v hv h1 h2
    obtain ⟨fuel, rfl⟩ : ∃ j, fuel = j + 1 := ⟨fuel - 1, by omega⟩
    obtain ⟨b1, b2⟩ := ht.2 i (by omega)
    obtain ⟨d1, d2, d3, d4, d5⟩ := sb_r b1
    have e : (i : Int) + 1 = ((i + 1 : Nat) : Int) := by omega
    rw [M_number_L21, h39, w32_id (x := (i : Int)) (by omega) (by omega), w32_id (x := (L : Int)) (by omega) (by omega), if_pos (by omega), rd_s (by omega) (by decide), hS, b2, nw_S, rn_S]
    unfold fM_isDigit
    rw [w32_id (x := sb (T i)) (by omega) (by omega)]
    by_cases c : 48 ≤ T i ∧ T i ≤ 57
    · have c2 := d5.mpr c
      have e2 : sb (T i) = T i := by unfold sb; rw [if_pos (by omega)]
      rw [if_pos (pDi_t.mpr c), if_pos (pDi_t.mpr c), if_neg (c := w32 _ = 0) (by rw [if_neg (by omega), if_neg (by omega)]; decide), rd_s (by omega) (by decide), hS, b2, w32_id (x := sb (T i)) (by omega) (by omega), lt_x, e2, uM_near ⟨by omega, by omega⟩ ⟨by decide, by decide⟩ ⟨by decide, by decide⟩, if_neg (c := 10 * v + T i - 48 < 0) (by omega), e]
      exact ih fuel (i + 1) _ (by split <;> omega) (by omega) (by omega)
    · have c2 : ¬ (48 ≤ sb (T i) ∧ sb (T i) ≤ 57) := fun q => c (d5.mp q)
      rw [if_neg (c := pDi (T i) = true) (fun q => c (pDi_t.mp q)), if_neg (c := pDi (T i) = true) (fun q => c (pDi_t.mp q)), if_pos]
      by_cases c3 : sb (T i) < 48
      · rw [if_pos c3]; decide
      · rw [if_neg c3, if_pos (by omega)]; decide
