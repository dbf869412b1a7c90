/-! the parser: runs of bytes, both sides -/
theorem st_self (M : bz_Mm) (a j : Nat) : st_ M a j (M a j) = M := by
  funext b i
  unfold st_ ud
  by_cases h : b = a
  · subst h
    rw [if_pos rfl]
    by_cases g : i = j
    · subst g; rw [if_pos rfl]
    · rw [if_neg g]
  · rw [if_neg h]
theorem st_st (M : bz_Mm) (a j : Nat) (u v : Int) : st_ (st_ M a j u) a j v = st_ M a j v := by
  funext b i
  unfold st_ ud
  by_cases h : b = a
  · rw [if_pos h, if_pos h, if_pos rfl]
    by_cases g : i = j
    · rw [if_pos g, if_pos g]
    · rw [if_neg g, if_neg g, if_neg g]
  · rw [if_neg h, if_neg h, if_neg h]
def rn (P : Int → Bool) (T : Nat → Int) : Nat → Nat → Nat
  | i, 0 => i
  | i, m + 1 => if P (T i) = true then rn P T (i + 1) m else i
theorem rn_S (P : Int → Bool) (T : Nat → Int) (i m : Nat) : rn P T i (m + 1) = if P (T i) = true then rn P T (i + 1) m else i := rfl
theorem rn_r {P : Int → Bool} {T : Nat → Int} : ∀ (m i : Nat), i ≤ rn P T i m ∧ rn P T i m ≤ i + m := by
  intro m
  induction m with
  | zero => intro i; exact ⟨Nat.le_refl _, Nat.le_refl _⟩
  | succ m ih =>
    intro i
    rw [rn_S]
    have := ih (i + 1)
    split <;> omega
theorem rn_n {P : Int → Bool} {T : Nat → Int} {i m : Nat} (h : P (T i) = false) : rn P T i m = i := by
  cases m with
  | zero => rfl
  | succ m => rw [rn_S, if_neg (by rw [h]; decide)]
theorem rn_all {P : Int → Bool} {T : Nat → Int} : ∀ (m i j : Nat), i ≤ j → j < rn P T i m → P (T j) = true := by
  intro m
  induction m with
  | zero => intro i j h1 h2; have : rn P T i 0 = i := rfl; omega
  | succ m ih =>
    intro i j h1 h2
    rw [rn_S] at h2
    by_cases c : P (T i) = true
    · rw [if_pos c] at h2
      by_cases e : j = i
      · rw [e]; exact c
      · exact ih (i + 1) j (by omega) h2
    · rw [if_neg c] at h2; omega
theorem rn_st {P : Int → Bool} {T : Nat → Int} : ∀ (m i : Nat), rn P T i m < i + m → P (T (rn P T i m)) = false := by
  intro m
  induction m with
  | zero => intro i h; have : rn P T i 0 = i := rfl; omega
  | succ m ih =>
    intro i h
    rw [rn_S] at h ⊢
    by_cases c : P (T i) = true
    · rw [if_pos c] at h ⊢; exact ih (i + 1) (by omega)
    · rw [if_neg c]; exact Bool.eq_false_iff.mpr c
theorem rn_cut {P : Int → Bool} {T : Nat → Int} {n L : Nat} (h10 : P 10 = false) (hL : L < n → T L = 10) (hn : L ≤ n) : ∀ (m i : Nat), i + m = L → rn P T i (n - i) = rn P T i m := by
  intro m
  induction m with
  | zero =>
    intro i h
    have e : i = L := by omega
    subst e
    by_cases c : i < n
    · rw [rn_n (by rw [hL c]; exact h10)]; rfl
    · have : n - i = 0 := by omega
      rw [this]
  | succ m ih =>
    intro i h
    have e : n - i = (n - (i + 1)) + 1 := by omega
    rw [e, rn_S, rn_S]
    split
    · exact ih (i + 1) (by omega)
    · rfl
theorem rn_c {P : Int → Bool} {T : Nat → Int} {n L i : Nat} (h10 : P 10 = false) (hL : L < n → T L = 10) (hn : L ≤ n) (hi : i ≤ L) : rn P T i (n - i) = rn P T i (L - i) := rn_cut h10 hL hn (L - i) i (by omega)
def pSp (x : Int) : Bool := decide (x = 32)
def pLe (x : Int) : Bool := decide (97 ≤ x ∧ x ≤ 122)
def pDi (x : Int) : Bool := decide (48 ≤ x ∧ x ≤ 57)
theorem pSp_t {x : Int} : pSp x = true ↔ x = 32 := by unfold pSp; exact decide_eq_true_iff
theorem pLe_t {x : Int} : pLe x = true ↔ (97 ≤ x ∧ x ≤ 122) := by unfold pLe; exact decide_eq_true_iff
theorem pDi_t {x : Int} : pDi x = true ↔ (48 ≤ x ∧ x ≤ 57) := by unfold pDi; exact decide_eq_true_iff
/-- the text of both: bytes of the class, signed ones of the reference -/
def tx (T S : Nat → Int) (n : Nat) : Prop := n ≤ 600 ∧ ∀ j, j < n → (0 ≤ T j ∧ T j ≤ 255) ∧ S j = sb (T j)
theorem sb_r {x : Int} (h : 0 ≤ x ∧ x ≤ 255) : -128 ≤ sb x ∧ sb x ≤ 127 ∧ (∀ c : Int, 0 ≤ c ∧ c < 128 → (sb x = c ↔ x = c)) ∧ ((97 ≤ sb x ∧ sb x ≤ 122) ↔ (97 ≤ x ∧ x ≤ 122)) ∧ ((48 ≤ sb x ∧ sb x ≤ 57) ↔ (48 ≤ x ∧ x ≤ 57)) := by
  unfold sb
  by_cases c : x < 128
  · rw [if_pos c]; refine ⟨by omega, by omega, fun c _ => Iff.rfl, Iff.rfl, Iff.rfl⟩
  · rw [if_neg c]; refine ⟨by omega, by omega, fun c hc => by omega, by omega, by omega⟩
def kd (T : Nat → Int) (n i : Nat) : Int := if i < n then (if T i = 10 then 0 else if 97 ≤ T i ∧ T i ≤ 122 then 1 else if 48 ≤ T i ∧ T i ≤ 57 then 2 else if T i = 58 then 3 else 4) else 0
theorem uUX_kindAt {F n i : Nat} {M : bz_Mm} {T S : Nat → Int} (ht : tx T S n) (hT : M 51 = T) (hn : M 50 2 = n) (hi : i ≤ n) : fUX_kindAt F M (i : Int) = some (kd T n i) := by
  have h6 := ht.1
  unfold fUX_kindAt kd
  rw [hn, w32_id (x := (i : Int)) (by omega) (by omega), w32_id (x := (n : Int)) (by omega) (by omega)]
  by_cases c : i < n
  · obtain ⟨b1, b2⟩ := ht.2 i c
    rw [if_pos (by omega), if_pos c, rd_s (by omega) (by decide), rd_s (by omega) (by decide), hT, w32_id (x := T i) (by omega) (by omega)]
    generalize T i = x at b1
    repeat' split
    all_goals first | rfl | (exfalso; omega)
  · rw [if_neg (by omega), if_neg c]
theorem uUX_skip {F n : Nat} {M : bz_Mm} {T S : Nat → Int} (ht : tx T S n) (hT : M 51 = T) (hn : M 50 2 = n) : ∀ (m fuel i : Nat), i + m = n → m < fuel → UX_next_L5 F fuel M (i : Int) = some ((rn pSp T i m : Nat) : Int) := by
  have h6 := ht.1
  intro m
  induction m with
  | zero =>
    intro fuel i h1 h2
    obtain ⟨fuel, rfl⟩ : ∃ j, fuel = j + 1 := ⟨fuel - 1, by omega⟩
    rw [UX_next_L5, hn, w32_id (x := (i : Int)) (by omega) (by omega), w32_id (x := (n : Int)) (by omega) (by omega), if_neg (by omega)]
    rfl
  | succ m ih =>
    intro fuel i h1 h2
    obtain ⟨fuel, rfl⟩ : ∃ j, fuel = j + 1 := ⟨fuel - 1, by omega⟩
    obtain ⟨b1, b2⟩ := ht.2 i (by omega)
    have e : (i : Int) + 1 = ((i + 1 : Nat) : Int) := by omega
    rw [UX_next_L5, hn, w32_id (x := (i : Int)) (by omega) (by omega), w32_id (x := (n : Int)) (by omega) (by omega), if_pos (by omega), rd_s (by omega) (by decide), hT, w32_id (x := T i) (by omega) (by omega), e, ih fuel (i + 1) (by omega) (by omega), rn_S]
    by_cases c : T i = 32
    · rw [if_pos c, if_pos (pSp_t.mpr c)]
    · rw [if_neg c, if_neg (fun q => c (pSp_t.mp q))]
theorem kd_1 {T : Nat → Int} {n i : Nat} (h : i < n) : kd T n i = 1 ↔ pLe (T i) = true := by
  unfold kd
  rw [if_pos h, pLe_t]
  repeat' split
  all_goals omega
theorem kd_2 {T : Nat → Int} {n i : Nat} (h : i < n) : kd T n i = 2 ↔ pDi (T i) = true := by
  unfold kd
  rw [if_pos h, pDi_t]
  repeat' split
  all_goals omega
theorem kd_r (T : Nat → Int) (n i : Nat) : 0 ≤ kd T n i ∧ kd T n i ≤ 4 := by
  unfold kd
  repeat' split
  all_goals omega
theorem uUX_letters {F n : Nat} {M : bz_Mm} {T S : Nat → Int} (ht : tx T S n) (hT : M 51 = T) (hn : M 50 2 = n) (hk : M 50 3 = 1) : ∀ (m fuel i : Nat), i + m = n → m < fuel → UX_next_L76 F fuel (i : Int) M = some (((rn pLe T i m : Nat) : Int), M) := by
  have h6 := ht.1
  intro m
  induction m with
  | zero =>
    intro fuel i h1 h2
    obtain ⟨fuel, rfl⟩ : ∃ j, fuel = j + 1 := ⟨fuel - 1, by omega⟩
    rw [UX_next_L76, hn, w32_id (x := (i : Int)) (by omega) (by omega), w32_id (x := (n : Int)) (by omega) (by omega), if_neg (by omega)]
    rfl
  | succ m ih =>
    intro fuel i h1 h2
    obtain ⟨fuel, rfl⟩ : ∃ j, fuel = j + 1 := ⟨fuel - 1, by omega⟩
    have e : (i : Int) + 1 = ((i + 1 : Nat) : Int) := by omega
    have k1 := kd_1 (T := T) (n := n) (i := i) (by omega)
    have k2 := kd_r T n i
    rw [UX_next_L76, hn, w32_id (x := (i : Int)) (by omega) (by omega), w32_id (x := (n : Int)) (by omega) (by omega), if_pos (by omega), uUX_kindAt ht hT hn (by omega), cl_s, hk, w32_id (x := kd T n i) (by omega) (by omega), w32_1p, e, ih fuel (i + 1) (by omega) (by omega), rn_S]
    by_cases c : pLe (T i) = true
    · rw [if_pos (k1.mpr c), if_neg (by decide), if_pos c]
    · rw [if_neg (fun q => c (k1.mp q)), if_neg c]
/-- the number that digits tell, never above a million -/
def nu (T : Nat → Int) : Nat → Nat → Int → Int
  | _, 0, v => v
  | i, m + 1, v => if pDi (T i) = true then nu T (i + 1) m (if 1000000 < v * 10 + T i - 48 then 1000000 else v * 10 + T i - 48) else v
theorem nu_S (T : Nat → Int) (i m : Nat) (v : Int) : nu T i (m + 1) v = if pDi (T i) = true then nu T (i + 1) m (if 1000000 < v * 10 + T i - 48 then 1000000 else v * 10 + T i - 48) else v := rfl
theorem uJM_min0 {x y : Int} (hx : r32 x) (hy : r32 y) : fJM_min0 x y = if y < x then y else x := by
  unfold fJM_min0
  rw [r32_w hx, r32_w hy]
theorem uUX_digits {F n : Nat} {T S : Nat → Int} (ht : tx T S n) : ∀ (m fuel i : Nat) (M : bz_Mm), M 51 = T → M 50 2 = n → M 50 3 = 2 → (0 ≤ M 50 6 ∧ M 50 6 ≤ 1000000) → i + m = n → m < fuel → UX_next_L76a F fuel (i : Int) M = some (((rn pDi T i m : Nat) : Int), st_ M 50 6 (nu T i m (M 50 6))) := by
  have h6 := ht.1
  intro m
  induction m with
  | zero =>
    intro fuel i M hT hn hk h0 h1 h2
    obtain ⟨fuel, rfl⟩ : ∃ j, fuel = j + 1 := ⟨fuel - 1, by omega⟩
    rw [UX_next_L76a, hn, w32_id (x := (i : Int)) (by omega) (by omega), w32_id (x := (n : Int)) (by omega) (by omega), if_neg (by omega)]
    unfold nu
    rw [st_self]; rfl
  | succ m ih =>
    intro fuel i M hT hn hk h0 h1 h2
    obtain ⟨fuel, rfl⟩ : ∃ j, fuel = j + 1 := ⟨fuel - 1, by omega⟩
    obtain ⟨b1, b2⟩ := ht.2 i (by omega)
    have e : (i : Int) + 1 = ((i + 1 : Nat) : Int) := by omega
    have k1 := kd_2 (T := T) (n := n) (i := i) (by omega)
    have k2 := kd_r T n i
    rw [UX_next_L76a, hn, w32_id (x := (i : Int)) (by omega) (by omega), w32_id (x := (n : Int)) (by omega) (by omega), if_pos (by omega), uUX_kindAt ht hT hn (by omega), cl_s, hk, w32_id (x := kd T n i) (by omega) (by omega), w32_id (x := (2 : Int)) (by decide) (by decide), e, rn_S, nu_S]
    by_cases c : pDi (T i) = true
    · have c2 := pDi_t.mp c
      rw [if_pos (k1.mpr c), if_pos rfl, if_pos c, if_pos c, rd_s (by omega) (by decide), hT, wf_s, uJM_min0 ⟨by omega, by omega⟩ ⟨by omega, by omega⟩]
      have q : 0 ≤ (if 1000000 < M 50 6 * 10 + T i - 48 then 1000000 else M 50 6 * 10 + T i - 48) ∧ (if 1000000 < M 50 6 * 10 + T i - 48 then 1000000 else M 50 6 * 10 + T i - 48) ≤ 1000000 := by split <;> omega
      generalize (if 1000000 < M 50 6 * 10 + T i - 48 then 1000000 else M 50 6 * 10 + T i - 48) = v at q ⊢
      have := ih fuel (i + 1) (st_ M 50 6 v) (by rw [st_ne (by decide)]; exact hT) (by rw [st_eq, ud_ne (by decide)]; exact hn) (by rw [st_eq, ud_ne (by decide)]; exact hk) (by rw [st_eq, ud_eq]; exact q) (by omega) (by omega)
      rw [this, st_st, st_eq, ud_eq]
    · rw [if_neg (fun q => c (k1.mp q)), if_neg c, if_neg c, st_self]
