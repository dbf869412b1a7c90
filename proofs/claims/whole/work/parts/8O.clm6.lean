/-! balances, both sides -/
theorem sumr_R (t : Nat → Int) : ∀ (m i : Nat) (a : Int), sumr t i (m + 1) a = sumr t i m a + t (i + m) := by
  intro m
  induction m with
  | zero => intro i a; rfl
  | succ m ih => intro i a; rw [sumr_S, ih, sumr_S, show i + 1 + m = i + (m + 1) by omega]
/-- what the class gives to party j, of who x -/
def gvX (sm wy : Nat → Int) (g : Nat) (r6 r9 : Int) (j x : Nat) : Int := (if gtX x (wy x) g r6 r9 = j then sm x else 0) - (if j = 20 + g then sm x else 0)
theorem u_weigh {F g : Nat} {k r6 r9 : Int} {M2 : bz_Mm} {sm wy : Nat → Int} (hF : 300 < F) (hg : g < 4) (h3 : M2 65 3 = g) (h4 : M2 65 4 = k) (l6 : ∀ Z : bz_Mm, (∀ q, q ≠ 68 → Z q = M2 q) → fUL_value F Z (g : Int) k 6 = some r6 ∧ fUL_value F Z (g : Int) k 9 = some r9) (b6 : 0 ≤ r6 ∧ r6 ≤ 2) (b9 : 0 ≤ r9 ∧ r9 ≤ 2) (hs : ∀ Z : bz_Mm, (∀ q, q ≠ 68 → Z q = M2 q) → ∀ x : Nat, x < 24 → fUQ_sumOf F Z (x : Int) = some (sm x) ∧ fUQ_wayOf F Z (x : Int) = some (wy x) ∧ 0 ≤ wy x ∧ wy x ≤ 3) (h0 : sm (20 + g) = 0) : ∃ m1, fUQ_weigh F M2 = some m1 ∧ (∀ q, q ≠ 68 → m1 q = M2 q) ∧ ∀ j, j < 42 → m1 68 j = sumr (gvX sm wy g r6 r9 j) 0 24 0 + (if j = 40 then -(sumr (fun x => lkX (sm x) (wy x) r6 r9) 0 24 (M2 55 g - M2 54 g)) else 0) + (if j = 20 + g then sumr (fun x => lkX (sm x) (wy x) r6 r9) 0 24 (M2 55 g - M2 54 g) else 0) := by
  have lp : ∀ (m fuel x : Nat) (X : bz_Mm), x + m = 24 → m < fuel → (∀ q, q ≠ 68 → X q = M2 q) → (∀ j, j < 42 → X 68 j = sumr (gvX sm wy g r6 r9 j) 0 x 0) → ∃ m3, UQ_weigh_L10 F fuel (x : Int) X = some m3 ∧ (∀ q, q ≠ 68 → m3 q = M2 q) ∧ ∀ j, j < 42 → m3 68 j = sumr (gvX sm wy g r6 r9 j) 0 24 0 := by
    intro m
    induction m with
    | zero =>
      intro fuel x X e1 e2 e3 e4
      obtain ⟨fuel, rfl⟩ : ∃ j, fuel = j + 1 := ⟨fuel - 1, by omega⟩
      have e : x = 24 := by omega
      subst e
      refine ⟨X, ?_, e3, e4⟩
      rw [UQ_weigh_L10, w32_n (show 24 ≤ 2147483647 by omega), if_neg (by omega)]
    | succ m ih =>
      intro fuel x X e1 e2 e3 e4
      obtain ⟨fuel, rfl⟩ : ∃ j, fuel = j + 1 := ⟨fuel - 1, by omega⟩
      obtain ⟨s1, s2, s3⟩ := hs X e3 x (by omega)
      have e : (x : Int) + 1 = ((x + 1 : Nat) : Int) := by omega
      have h3X : X 65 3 = g := by rw [e3 65 (by decide)]; exact h3
      have gt := u_getter (F := F) (Z := X) (x := x) (w := wy x) hg (by omega) s3 h3X (by rw [e3 65 (by decide)]; exact h4) (l6 X e3).1 (l6 X e3).2 b6 b9
      have gr := gtX_r (x := x) (g := g) (w := wy x) (r6 := r6) (r9 := r9) (by omega) hg
      have ge : 20 + (g : Int) = ((20 + g : Nat) : Int) := by omega
      have give : fUQ_give F X (x : Int) = some (st_ (st_ X 68 (gtX x (wy x) g r6 r9) (X 68 (gtX x (wy x) g r6 r9) + sm x)) 68 (20 + g) (ud (X 68) (gtX x (wy x) g r6 r9) (X 68 (gtX x (wy x) g r6 r9) + sm x) (20 + g) - sm x)) := by
        unfold fUQ_give
        rw [s1, cl_s, s2, cl_s, gt, cl_s, rd_s gr (by decide), wa_s gr (by decide), st_ne (show (65 : Nat) ≠ 68 by decide), h3X, ge, rd_s (by omega) (by decide), wa_s (by omega) (by decide), st_eq]
      rw [UQ_weigh_L10, w32_n (show x ≤ 2147483647 by omega), if_pos (by omega), give, cl_s, e]
      refine ih fuel (x + 1) _ (by omega) (by omega) (fun q hq => by rw [st_ne hq, st_ne hq]; exact e3 q hq) (fun j hj => ?_)
      rw [st_eq, st_eq, sumr_R, Nat.zero_add, ← e4 j hj]
      unfold gvX
      by_cases c1 : j = 20 + g
      · subst c1
        rw [ud_eq, if_pos rfl]
        by_cases c2 : gtX x (wy x) g r6 r9 = 20 + g
        · rw [c2, ud_eq, if_pos rfl]; omega
        · rw [ud_ne (fun z => c2 z.symm), if_neg c2]; omega
      · rw [ud_ne c1, if_neg c1]
        by_cases c2 : gtX x (wy x) g r6 r9 = j
        · rw [c2, ud_eq, if_pos rfl]; omega
        · rw [ud_ne (fun z => c2 z.symm), if_neg c2]; omega
  obtain ⟨m3, t1, t2, t3⟩ := lp 24 F 0 (fl M2 68 0 42 0) (by omega) (by omega) (fun q hq => flz_o hq) (fun j hj => by rw [flz_e, if_pos (by omega)]; rfl)
  rw [show ((0 : Nat) : Int) = 0 from rfl] at t1
  have lk := u_lack (F := F) (Z := m3) (sm := sm) (wy := wy) hF hg (by rw [t2 65 (by decide)]; exact h3) (by rw [t2 65 (by decide)]; exact h4) (l6 m3 t2).1 (l6 m3 t2).2 b6 b9 (hs m3 t2) h0
  rw [t2 55 (by decide), t2 54 (by decide)] at lk
  generalize sumr (fun x => lkX (sm x) (wy x) r6 r9) 0 24 (M2 55 g - M2 54 g) = L at lk
  have ge : 20 + (g : Int) = ((20 + g : Nat) : Int) := by omega
  refine ⟨st_ (st_ m3 68 40 (m3 68 40 - L)) 68 (20 + g) (m3 68 (20 + g) + L), ?_, fun q hq => by rw [st_ne hq, st_ne hq]; exact t2 q hq, fun j hj => ?_⟩
  · unfold fUQ_weigh
    rw [uJA_fill0 (by omega) (by decide), cl_s, t1, cl1_s, lk, cl_s, show (40 : Int) = ((40 : Nat) : Int) from rfl, rd_s (by decide) (by decide), wa_s (by decide) (by decide), st_ne (show (65 : Nat) ≠ 68 by decide), t2 65 (by decide), h3, ge, rd_s (by omega) (by decide), wa_s (by omega) (by decide), st_eq, ud_ne (show 20 + g ≠ 40 by omega)]
  · rw [st_eq, st_eq, ← t3 j hj]
    by_cases c1 : j = 20 + g
    · subst c1
      rw [ud_eq, if_neg (by omega), if_pos rfl]; omega
    · rw [ud_ne c1, if_neg (c := j = 20 + g) c1]
      by_cases c2 : j = 40
      · subst c2; rw [ud_eq, if_pos rfl]; omega
      · rw [ud_ne c2, if_neg c2]; omega
/-- to which party the reference gives -/
def dsX (p : Nat) (w r6 r9 : Int) : Nat := if w = 0 then p else if w = 1 then (if r6 = 1 then 20 else if r6 = 2 then 21 else 99) else if w = 3 then (if r9 = 1 then 20 else if r9 = 2 then 21 else 99) else 99
theorem r_zero {F : Nat} {y : bz_Mm} {k g : Int} (hF : 300 < F) : ∃ y0, M_balances_L13 F F k g 0 y = some y0 ∧ (∀ q, q ≠ 230 → y0 q = y q) ∧ ∀ j, j < 22 → y0 230 j = 0 := by
  have lp : ∀ (m fuel p : Nat) (X : bz_Mm), p + m = 22 → m < fuel → (∀ q, q ≠ 230 → X q = y q) → (∀ j, j < p → X 230 j = 0) → ∃ y0, M_balances_L13 F fuel k g (p : Int) X = some y0 ∧ (∀ q, q ≠ 230 → y0 q = y q) ∧ ∀ j, j < 22 → y0 230 j = 0 := by
    intro m
    induction m with
    | zero =>
      intro fuel p X e1 e2 e3 e4
      obtain ⟨fuel, rfl⟩ : ∃ j, fuel = j + 1 := ⟨fuel - 1, by omega⟩
      have e : p = 22 := by omega
      subst e
      exact ⟨X, by rw [M_balances_L13, w32_n (show 22 ≤ 2147483647 by omega), if_neg (by omega)], e3, e4⟩
    | succ m ih =>
      intro fuel p X e1 e2 e3 e4
      obtain ⟨fuel, rfl⟩ : ∃ j, fuel = j + 1 := ⟨fuel - 1, by omega⟩
      rw [M_balances_L13, w32_n (show p ≤ 2147483647 by omega), if_pos (by omega), wa_s (by omega) (by decide), show (p : Int) + 1 = ((p + 1 : Nat) : Int) by omega]
      refine ih fuel (p + 1) _ (by omega) (by omega) (fun q hq => by rw [st_ne hq]; exact e3 q hq) (fun j hj => ?_)
      rw [st_eq]
      by_cases c : j = p
      · subst c; rw [ud_eq]
      · rw [ud_ne c]; exact e4 j (by omega)
  exact lp 22 F 0 y (by omega) (by omega) (fun _ _ => rfl) (fun j hj => by omega)
theorem r_bal37 {F g : Nat} {k r6 r9 : Int} {y : bz_Mm} {sm wy : Nat → Int} (hF : 300 < F) (l6 : ∀ Z : bz_Mm, (∀ q, q ≠ 230 → Z q = y q) → fM_ruleOf F Z (g : Int) k 6 = some r6 ∧ fM_ruleOf F Z (g : Int) k 9 = some r9) (b6 : 0 ≤ r6 ∧ r6 ≤ 2) (b9 : 0 ≤ r9 ∧ r9 ≤ 2) (hs : ∀ p, p < 20 → y 225 p = sm p ∧ y 226 p = wy p ∧ 0 ≤ wy p ∧ wy p ≤ 3) : ∀ (m fuel p : Nat) (own : Int) (X : bz_Mm), p + m = 20 → m < fuel → (∀ q, q ≠ 230 → X q = y q) → own = sumr (fun p => if dsX p (wy p) r6 r9 = 99 then 0 else -sm p) 0 p 0 → (∀ j, j < 22 → X 230 j = sumr (fun p => if dsX p (wy p) r6 r9 = j then sm p else 0) 0 p 0) → ∃ y1, M_balances_L37 F fuel k (g : Int) (p : Int) own X = some (sumr (fun p => if dsX p (wy p) r6 r9 = 99 then 0 else -sm p) 0 20 0, y1) ∧ (∀ q, q ≠ 230 → y1 q = y q) ∧ ∀ j, j < 22 → y1 230 j = sumr (fun p => if dsX p (wy p) r6 r9 = j then sm p else 0) 0 20 0 := by
  intro m
  induction m with
  | zero =>
    intro fuel p own X e1 e2 e3 e4 e5
    obtain ⟨fuel, rfl⟩ : ∃ j, fuel = j + 1 := ⟨fuel - 1, by omega⟩
    have e : p = 20 := by omega
    subst e
    exact ⟨X, by rw [M_balances_L37, w32_n (show 20 ≤ 2147483647 by omega), if_neg (by omega), e4], e3, e5⟩
  | succ m ih =>
    intro fuel p own X e1 e2 e3 e4 e5
    obtain ⟨fuel, rfl⟩ : ∃ j, fuel = j + 1 := ⟨fuel - 1, by omega⟩
    obtain ⟨s1, s2, s3⟩ := hs p (by omega)
    have e : (p : Int) + 1 = ((p + 1 : Nat) : Int) := by omega
    have x5 : X 225 p = sm p := by rw [e3 225 (by decide)]; exact s1
    have x6 : X 226 p = wy p := by rw [e3 226 (by decide)]; exact s2
    have gt := r_goesTo (F := F) (g := g) (k := k) (m := X) (p := p) (by omega) (by rw [x6]; exact s3) (l6 X e3).1 (l6 X e3).2
    rw [x6] at gt
    have step : ∀ d : Nat, d < 22 → dsX p (wy p) r6 r9 = d → ∃ y1, M_balances_L37 F fuel k (g : Int) ((p + 1 : Nat) : Int) (own - sm p) (st_ X 230 d (X 230 d + sm p)) = some (sumr (fun p => if dsX p (wy p) r6 r9 = 99 then 0 else -sm p) 0 20 0, y1) ∧ (∀ q, q ≠ 230 → y1 q = y q) ∧ ∀ j, j < 22 → y1 230 j = sumr (fun p => if dsX p (wy p) r6 r9 = j then sm p else 0) 0 20 0 := fun d hd he => by
      refine ih fuel (p + 1) _ _ (by omega) (by omega) (fun q hq => by rw [st_ne hq]; exact e3 q hq) ?_ (fun j hj => ?_)
      · rw [sumr_R, Nat.zero_add, ← e4, he, if_neg (by omega)]; omega
      · rw [st_eq, sumr_R, Nat.zero_add, ← e5 j hj, he]
        by_cases c : j = d
        · subst c; rw [ud_eq, if_pos rfl]
        · rw [ud_ne c, if_neg (fun z => c z.symm)]; omega
    have skip : dsX p (wy p) r6 r9 = 99 → ∃ y1, M_balances_L37 F fuel k (g : Int) ((p + 1 : Nat) : Int) own X = some (sumr (fun p => if dsX p (wy p) r6 r9 = 99 then 0 else -sm p) 0 20 0, y1) ∧ (∀ q, q ≠ 230 → y1 q = y q) ∧ ∀ j, j < 22 → y1 230 j = sumr (fun p => if dsX p (wy p) r6 r9 = j then sm p else 0) 0 20 0 := fun he => by
      refine ih fuel (p + 1) _ _ (by omega) (by omega) e3 ?_ (fun j hj => ?_)
      · rw [sumr_R, Nat.zero_add, ← e4, he, if_pos rfl]; omega
      · rw [sumr_R, Nat.zero_add, ← e5 j hj, he, if_neg (by omega)]; omega
    rw [M_balances_L37, w32_n (show p ≤ 2147483647 by omega), if_pos (by omega), gt, cl_s, rd_s (by omega) (by decide), x6, w32_id (x := wy p) (by omega) (by omega), e]
    by_cases c0 : wy p = 0
    · rw [if_pos c0, rd_s (by omega) (by decide), rd_s (by omega) (by decide), wa_s (by omega) (by decide), rd_s (by omega) (by decide), st_ne (show (225 : Nat) ≠ 230 by decide), x5, lt_x]
      exact step p (by omega) (by unfold dsX; rw [if_pos c0])
    rw [if_neg c0]
    have give : ∀ r : Int, 0 ≤ r ∧ r ≤ 2 → dsX p (wy p) r6 r9 = (if r = 1 then 20 else if r = 2 then 21 else 99) → ∃ y1, (if 0 < w32 r then cl1_ (if w32 r = 1 then some (20 : Int) else some 21) fun v7 => rd_ X 230 v7 22 fun x8 => rd_ X 225 (p : Int) 20 fun x9 => wa_ X 230 v7 22 (x8 + x9) fun m10 => rd_ m10 225 (p : Int) 20 fun x11 => lt_ (own - x11) fun l3 => M_balances_L37 F fuel k (g : Int) ((p + 1 : Nat) : Int) l3 m10 else M_balances_L37 F fuel k (g : Int) ((p + 1 : Nat) : Int) own X) = some (sumr (fun p => if dsX p (wy p) r6 r9 = 99 then 0 else -sm p) 0 20 0, y1) ∧ (∀ q, q ≠ 230 → y1 q = y q) ∧ ∀ j, j < 22 → y1 230 j = sumr (fun p => if dsX p (wy p) r6 r9 = j then sm p else 0) 0 20 0 := fun r hr he => by
      rw [w32_id (x := r) (by omega) (by omega)]
      by_cases d1 : r = 1
      · rw [if_pos d1] at he
        rw [if_pos (show 0 < r by omega), if_pos d1, cl1_s, show (20 : Int) = ((20 : Nat) : Int) from rfl, rd_s (by decide) (by decide), rd_s (by omega) (by decide), wa_s (by decide) (by decide), rd_s (by omega) (by decide), st_ne (show (225 : Nat) ≠ 230 by decide), x5, lt_x]
        exact step 20 (by decide) he
      · rw [if_neg d1] at he
        by_cases d2 : r = 2
        · rw [if_pos d2] at he
          rw [if_pos (show 0 < r by omega), if_neg d1, cl1_s, show (21 : Int) = ((21 : Nat) : Int) from rfl, rd_s (by decide) (by decide), rd_s (by omega) (by decide), wa_s (by decide) (by decide), rd_s (by omega) (by decide), st_ne (show (225 : Nat) ≠ 230 by decide), x5, lt_x]
          exact step 21 (by decide) he
        · rw [if_neg d2] at he
          rw [if_neg (show ¬ 0 < r by omega)]
          exact skip he
    by_cases c1 : wy p = 1
    · rw [if_pos c1]
      exact give r6 b6 (by unfold dsX; rw [if_neg c0, if_pos c1])
    rw [if_neg c1]
    by_cases c3 : wy p = 3
    · rw [if_pos c3]
      exact give r9 b9 (by unfold dsX; rw [if_neg c0, if_neg c1, if_pos c3])
    rw [if_neg c3, show w32 (-1) = -1 from by decide, if_neg (by decide)]
    exact skip (by unfold dsX; rw [if_neg c0, if_neg c1, if_neg c3])
/-- the class's number of the reference's party -/
def nmC (q : Nat) : Nat := if q < 16 then q else if q < 20 then q + 4 else q + 20
theorem nmC_i {a b : Nat} (ha : a < 22) (hb : b < 22) (h : nmC a = nmC b) : a = b := by
  unfold nmC at h
  by_cases a1 : a < 16 <;> by_cases b1 : b < 16
  · rw [if_pos a1, if_pos b1] at h; exact h
  · rw [if_pos a1, if_neg b1] at h
    split at h <;> omega
  · rw [if_neg a1, if_pos b1] at h
    split at h <;> omega
  · rw [if_neg a1, if_neg b1] at h
    repeat' split at h
    all_goals omega
theorem gt_ds {p g : Nat} {w r6 r9 : Int} (hp : p < 20) (hw : 0 ≤ w ∧ w ≤ 3) : (dsX p w r6 r9 = 99 ∧ gtX (wc p) w g r6 r9 = 20 + g) ∨ (dsX p w r6 r9 < 22 ∧ gtX (wc p) w g r6 r9 = nmC (dsX p w r6 r9) ∧ (dsX p w r6 r9 < 20 → dsX p w r6 r9 = p)) := by
  unfold dsX gtX
  by_cases c0 : w = 0
  · right
    rw [if_pos c0, if_pos c0]
    refine ⟨by omega, ?_, fun _ => rfl⟩
    unfold wc nmC
    split
    · rfl
    · first | rfl | rw [if_pos hp]
  rw [if_neg c0, if_neg c0]
  by_cases c2 : w = 2
  · left
    rw [if_neg (by omega), if_neg (by omega), if_pos c2]; exact ⟨rfl, rfl⟩
  rw [if_neg c2]
  by_cases c1 : w = 1
  · rw [if_pos c1, if_pos c1]
    by_cases d1 : r6 = 1
    · right; rw [if_pos d1, if_pos d1]; exact ⟨by omega, rfl, fun q => by omega⟩
    · rw [if_neg d1, if_neg d1]
      by_cases d2 : r6 = 2
      · right; rw [if_pos d2, if_pos d2]; exact ⟨by omega, rfl, fun q => by omega⟩
      · left; rw [if_neg d2, if_neg d2]; exact ⟨rfl, rfl⟩
  · rw [if_neg c1, if_neg c1, if_pos (show w = 3 by omega)]
    by_cases d1 : r9 = 1
    · right; rw [if_pos d1, if_pos d1]; exact ⟨by omega, rfl, fun q => by omega⟩
    · rw [if_neg d1, if_neg d1]
      by_cases d2 : r9 = 2
      · right; rw [if_pos d2, if_pos d2]; exact ⟨by omega, rfl, fun q => by omega⟩
      · left; rw [if_neg d2, if_neg d2]; exact ⟨rfl, rfl⟩
theorem sumr_sw {t : Nat → Nat → Int} : ∀ (m i j l : Nat), sumr (fun a => sumr (t a) j l 0) i m 0 = sumr (fun b => sumr (fun a => t a b) i m 0) j l 0 := by
  intro m
  induction m with
  | zero => intro i j l; exact (sumr_0 l j).symm
  | succ m ih =>
    intro i j l
    rw [sumr_S, sumr_a, ih (i + 1) j l]
    have e : (fun b => sumr (fun a => t a b) i (m + 1) 0) = (fun b => t i b + sumr (fun a => t a b) (i + 1) m 0) := funext (fun b => by rw [sumr_S, sumr_a]; omega)
    rw [e]
    have e2 : sumr (fun b => t i b + sumr (fun a => t a b) (i + 1) m 0) j l 0 = sumr (t i) j l 0 + sumr (fun b => sumr (fun a => t a b) (i + 1) m 0) j l 0 := sumr_ad l j
    rw [e2]; omega
theorem bal_both {F : Nat} {M : bz_Mm} {g n nf nt nd nl nh now : Nat} (hF : 500 < F) (h : IQ M n nf nt nd nl now) (hH : IH M nf nd nh) (hg : g < nf) : ∃ m1, fU_settle F M (g : Int) = some m1 ∧ (∀ Zr : bz_Mm, (∀ q, (q < 68 ∨ 76 < q) → Zr q = m1 q) → QY M Zr n nf nt nd nl now ∧ ∃ y, fM_balances F Zr (g : Int) = some y ∧ QY M y n nf nt nd nl now ∧ (∀ q, q < 22 → m1 68 (nmC q) = y 230 q ∧ -100000000000000000 ≤ y 230 q ∧ y 230 q ≤ 100000000000000000) ∧ sumr (y 230) 0 22 0 = 0) ∧ (∀ j, j < 42 → (∀ q, q < 22 → j ≠ nmC q) → m1 68 j = 0) := by
  have hI := h.1
  have hL := hI.2.2.2.2.2.2.1
  have nf4 := hI.2.1.2.2
  have g4 : g < 4 := by omega
  obtain ⟨k1, k2, k3, k4, k5⟩ := kn_U hI
  have kb : 0 ≤ (knw now : Int) ∧ (knw now : Int) ≤ 259 := by omega
  obtain ⟨M', M2, ⟨b1, b2⟩, ⟨⟨q1, cbd⟩, q2a⟩, s65, rest⟩ := ask_both (k := (knw now : Int)) hF h hH kb hg
  obtain ⟨_, _, sm, wy, _, _, cl, s0, su, _⟩ := rest M2 (fun _ _ => rfl)
  generalize hr6 : rv M g (knw now) 6 = r6
  generalize hr9 : rv M g (knw now) 9 = r9
  have o6 := (ru_it (w := 6) hF hI g4 kb (by decide)).2.2
  have o9 := (ru_it (w := 9) hF hI g4 kb (by decide)).2.2
  rw [hr6] at o6
  rw [hr9] at o9
  have ruZ : ∀ Z, IT Z n nf nt nd nl now → FR n M Z → (fUL_value F Z (g : Int) (knw now : Int) 6 = some r6 ∧ fUL_value F Z (g : Int) (knw now : Int) 9 = some r9) ∧ fM_ruleOf F Z (g : Int) (knw now : Int) 6 = some r6 ∧ fM_ruleOf F Z (g : Int) (knw now : Int) 9 = some r9 := fun Z hZ fZ => by
    obtain ⟨v1, v2, -⟩ := ru_it (w := 6) hF hZ g4 kb (by decide)
    obtain ⟨v3, v4, -⟩ := ru_it (w := 9) hF hZ g4 kb (by decide)
    rw [rv_fr hL fZ g4, hr6] at v1 v2
    rw [rv_fr hL fZ g4, hr9] at v3 v4
    exact ⟨⟨v2, v4⟩, v1, v3⟩
  have e20 : wc (16 + g) = 20 + g := by unfold wc; rw [if_neg (by omega)]; omega
  have z20 : smC sm (20 + g) = 0 := by
    have := smC_w (sm := sm) (p := 16 + g) (by omega)
    rw [e20] at this
    rw [this]; exact s0
  have smx : ∀ Z : bz_Mm, (∀ q, q ≠ 68 → Z q = M2 q) → ∀ x : Nat, x < 24 → fUQ_sumOf F Z (x : Int) = some (smC sm x) ∧ fUQ_wayOf F Z (x : Int) = some (smC wy x) ∧ 0 ≤ smC wy x ∧ smC wy x ≤ 3 := fun Z hZ x hx => by
    obtain ⟨sw, sz⟩ := su Z (fun q hq => hZ q (by omega))
    rcases wc_all hx with t | ⟨p, hp, e⟩
    · rw [smC_z t.1 t.2, smC_z t.1 t.2]; exact ⟨(sz x t.1 t.2).1, (sz x t.1 t.2).2, by omega, by omega⟩
    · rw [e, smC_w hp, smC_w hp]; exact ⟨(sw p hp).1, (sw p hp).2, (cl p hp).2.2.2.2.2.1⟩
  obtain ⟨m1, w1, w2, w3⟩ := u_weigh (F := F) (g := g) (k := (knw now : Int)) (r6 := r6) (r9 := r9) (M2 := M2) (sm := smC sm) (wy := smC wy) (by omega) g4 s65.1 s65.2 (fun Z hZ => (ruZ Z (q2a Z (fun q hq => hZ q (by omega))).1.1 (q2a Z (fun q hq => hZ q (by omega))).2.1).1) (rl6 o6) (rl9 o9) smx z20
  refine ⟨m1, ?_, fun Zr hZr => ?_, fun j hj hn => ?_⟩
  · unfold fU_settle
    rw [lt_x, k1, b1, cl_s, b2, cl_s, w1, cl_s]
  rotate_left
  · rw [w3 j hj]
    have n16 : nmC (16 + g) = 20 + g := by unfold nmC; rw [if_neg (by omega), if_pos (by omega)]; omega
    have j1 : j ≠ 40 := hn 20 (by omega)
    have j2 : j ≠ 20 + g := fun z => hn (16 + g) (by omega) (by rw [n16]; exact z)
    have s24 : sumr (gvX (smC sm) (smC wy) g r6 r9 j) 0 24 0 = sumr (fun _ => 0) 0 20 0 := sum24 (fun p hp => by
      unfold gvX
      rw [smC_w hp, smC_w hp, if_neg j2]
      have wr := (cl p hp).2.2.2.2.2.1
      rcases gt_ds (p := p) (g := g) (w := wy p) (r6 := r6) (r9 := r9) hp wr with ⟨d1, d2⟩ | ⟨d1, d2, d3⟩
      · rw [d2, if_neg (fun z => j2 z.symm)]; rfl
      · rw [d2, if_neg (fun z => hn _ d1 z.symm)]; rfl) (fun x x1 x2 => by
      unfold gvX
      rw [smC_z (sm := sm) x1 x2]
      repeat' split
      all_goals rfl)
    rw [s24, sumr_0, if_neg j1, if_neg j2]; omega
  -- the reference, from there
  have zr2 : ∀ q, (q < 68 ∨ 76 < q) → Zr q = M2 q := fun q hq => by rw [hZr q hq]; exact w2 q (by omega)
  have qm1 := q2a Zr zr2
  refine ⟨qm1, ?_⟩
  obtain ⟨y, _, sm', wy', ⟨b3, b4⟩, q3, cl', s0', su', c55⟩ := rest Zr zr2
  have same : ∀ p, p < 20 → sm' p = sm p ∧ wy' p = wy p := fun p hp => by
    obtain ⟨u1, u2⟩ := (su M2 (fun _ _ => rfl)).1 p hp
    obtain ⟨v1, v2⟩ := (su' M2 (fun _ _ => rfl)).1 p hp
    rw [u1] at v1
    rw [u2] at v2
    exact ⟨(Option.some.inj v1).symm, (Option.some.inj v2).symm⟩
  obtain ⟨y0, z1, z2, z3⟩ := r_zero (F := F) (y := y) (k := (knw now : Int)) (g := (g : Int)) (by omega)
  have frq : ∀ Z : bz_Mm, (∀ q, q ≠ 230 → Z q = y q) → QY M Z n nf nt nd nl now := fun Z hZ => by
    obtain ⟨⟨c1, c2, c3, c4, c5, c6⟩, d1, d2⟩ := q3
    have fz : FR n y Z := ⟨fun q hq => hZ q (by omega), fun q t u v _ => by rw [hZ q (by omega)], fun j _ => by rw [hZ 81 (by decide)], by rw [hZ 81 (by decide)]; exact c1.2.2.1.2.2.1, fun j _ => by rw [hZ 53 (by decide)]⟩
    refine ⟨⟨c1.fr fz, ?_, by rw [hZ 1 (by decide)]; exact c3, by rw [hZ 53 (by decide), hZ 1 (by decide)]; exact c4, by rw [hZ 53 (by decide)]; exact c5, by rw [hZ 82 (by decide), hZ 106 (by decide), hZ 42 (by decide)]; exact c6⟩, d1.t fz, by rw [hZ 77 (by decide)]; exact d2⟩
    unfold CA at c2 ⊢
    rw [hZ 53 (by decide), hZ 1 (by decide)]
    rcases c2 with t | t | t
    · exact Or.inl t
    · exact Or.inr (Or.inl t)
    · exact Or.inr (Or.inr ⟨t.1, t.2.1, t.2.2.fr fz (fun q hq => hZ q (by omega))⟩)
  obtain ⟨y1, t1, t2, t3⟩ := r_bal37 (F := F) (g := g) (k := (knw now : Int)) (r6 := r6) (r9 := r9) (y := y) (sm := sm) (wy := wy) (by omega) (fun Z hZ => (ruZ Z (frq Z hZ).1.1 (frq Z hZ).2.1).2) (rl6 o6) (rl9 o9) (fun p hp => by
    obtain ⟨_, _, x3, x4, _, x6, _⟩ := cl' p hp
    rw [x3, x4, (same p hp).1, (same p hp).2]
    exact ⟨rfl, rfl, (cl p hp).2.2.2.2.2.1⟩) 20 F 0 0 y0 (by omega) (by omega) z2 rfl (fun j hj => by rw [z3 j hj]; rfl)
  rw [show ((0 : Nat) : Int) = 0 from rfl] at t1
  obtain ⟨zr, b5, q4, cz, c54, c230⟩ := b4 y1 t2
  have rr := r_lack (F := F) (g := g) (k := (knw now : Int)) (r6 := r6) (r9 := r9) (m := zr) (a := y1 188 g - zr 188 g) (by omega) (ruZ zr q4.1.1 q4.2.1).2.1 (ruZ zr q4.1.1 q4.2.1).2.2 (rl6 o6) (rl9 o9) (fun p hp => by
    obtain ⟨x1, x2⟩ := cz p hp
    obtain ⟨_, _, _, _, x3, x4, x5⟩ := cl' p hp
    rw [x1, x2]; exact ⟨⟨by omega, by omega⟩, x4, x5⟩)
  have es : sumr (fun x => lkX (smC sm x) (smC wy x) r6 r9) 0 24 (M2 55 g - M2 54 g) = sumr (fun p => lkX (zr 225 p) (zr 226 p) r6 r9) 0 20 (y1 188 g - zr 188 g) := by
    rw [t2 188 (by decide), c55, c54]
    exact sum24 (fun p hp => by rw [smC_w hp, smC_w hp, (cz p hp).1, (cz p hp).2, (same p hp).1, (same p hp).2]) (fun x x1 x2 => by rw [smC_z x1 x2, smC_z x1 x2]; rfl)
  rw [es] at w3
  have bL : -70000000000000000 ≤ sumr (fun p => lkX (zr 225 p) (zr 226 p) r6 r9) 0 20 (y1 188 g - zr 188 g) ∧ sumr (fun p => lkX (zr 225 p) (zr 226 p) r6 r9) 0 20 (y1 188 g - zr 188 g) ≤ 70000000000000000 := by
    rw [sumr_a, t2 188 (by decide), c55, c54]
    have := sumr_b (t := fun p => lkX (zr 225 p) (zr 226 p) r6 r9) (B := 1000000000000) 20 0 (fun p _ hp => by
      have b := (cl' p (by omega)).2.2.2.2.1
      rw [(cz p (by omega)).1]
      unfold lkX
      repeat' split
      all_goals omega)
    have := cbd
    omega
  generalize sumr (fun p => lkX (zr 225 p) (zr 226 p) r6 r9) 0 20 (y1 188 g - zr 188 g) = L at w3 rr bL
  generalize hO : sumr (fun p => if dsX p (wy p) r6 r9 = 99 then 0 else -sm p) 0 20 0 = O at t1
  have ge : 16 + (g : Int) = ((16 + g : Nat) : Int) := by omega
  have fin : ∀ q, q < 22 → st_ (st_ zr 230 20 (zr 230 20 - L)) 230 (16 + g) (ud (zr 230) 20 (zr 230 20 - L) (16 + g) + (O + L)) 230 q = sumr (fun p => if dsX p (wy p) r6 r9 = q then sm p else 0) 0 20 0 + (if q = 20 then -L else 0) + (if q = 16 + g then O + L else 0) := fun q hq => by
    rw [st_eq, st_eq, c230]
    by_cases c1 : q = 16 + g
    · subst c1
      rw [ud_eq, ud_ne (show 16 + g ≠ 20 by omega), if_neg (by omega), if_pos rfl, t3 _ hq]; omega
    · rw [ud_ne c1, if_neg (c := q = 16 + g) c1]
      by_cases c2 : q = 20
      · subst c2; rw [ud_eq, if_pos rfl, t3 20 (by omega)]; omega
      · rw [ud_ne c2, if_neg c2, t3 q hq]; omega
  refine ⟨st_ (st_ zr 230 20 (zr 230 20 - L)) 230 (16 + g) (ud (zr 230) 20 (zr 230 20 - L) (16 + g) + (O + L)), ?_, ?_, fun q hq => ?_, ?_⟩
  · unfold fM_balances fM_houseOwes
    rw [lt_x, (kn_U qm1.1.1).2.1, b3, cl_s, z1, cl1_s, t1, cl2_s]
    try dsimp only
    rw [rd_s g4 (by decide), b5, cl_s, rd_s g4 (by decide), lt_x, rr, cl1_s, cl2_s]
    try dsimp only
    rw [show (20 : Int) = ((20 : Nat) : Int) from rfl, rd_s (by decide) (by decide), wa_s (by decide) (by decide), ge, rd_s (by omega) (by decide), wa_s (by omega) (by decide), st_eq]
  · obtain ⟨⟨c1, c2, c3, c4, c5, c6⟩, d1, d2⟩ := q4
    have hZ : ∀ q, q ≠ 230 → st_ (st_ zr 230 20 (zr 230 20 - L)) 230 (16 + g) (ud (zr 230) 20 (zr 230 20 - L) (16 + g) + (O + L)) q = zr q := fun q hq => by rw [st_ne hq, st_ne hq]
    generalize st_ (st_ zr 230 20 (zr 230 20 - L)) 230 (16 + g) (ud (zr 230) 20 (zr 230 20 - L) (16 + g) + (O + L)) = Z at hZ
    have fz : FR n zr Z := ⟨fun q hq => hZ q (by omega), fun q t u v _ => by rw [hZ q (by omega)], fun j _ => by rw [hZ 81 (by decide)], by rw [hZ 81 (by decide)]; exact c1.2.2.1.2.2.1, fun j _ => by rw [hZ 53 (by decide)]⟩
    refine ⟨⟨c1.fr fz, ?_, by rw [hZ 1 (by decide)]; exact c3, by rw [hZ 53 (by decide), hZ 1 (by decide)]; exact c4, by rw [hZ 53 (by decide)]; exact c5, by rw [hZ 82 (by decide), hZ 106 (by decide), hZ 42 (by decide)]; exact c6⟩, d1.t fz, by rw [hZ 77 (by decide)]; exact d2⟩
    unfold CA at c2 ⊢
    rw [hZ 53 (by decide), hZ 1 (by decide)]
    rcases c2 with t | t | t
    · exact Or.inl t
    · exact Or.inr (Or.inl t)
    · exact Or.inr (Or.inr ⟨t.1, t.2.1, t.2.2.fr fz (fun q hq => hZ q (by omega))⟩)
  · have nq : nmC q < 42 := by unfold nmC; repeat' split
                               all_goals omega
    have smb : ∀ p, p < 20 → -1000000000000 ≤ sm p ∧ sm p ≤ 1000000000000 := fun p hp => (cl p hp).2.2.2.2.1
    have bS : -20000000000000 ≤ sumr (fun p => if dsX p (wy p) r6 r9 = q then sm p else 0) 0 20 0 ∧ sumr (fun p => if dsX p (wy p) r6 r9 = q then sm p else 0) 0 20 0 ≤ 20000000000000 := by
      have := sumr_b (t := fun p => if dsX p (wy p) r6 r9 = q then sm p else 0) (B := 1000000000000) 20 0 (fun p _ hp => by
        have := smb p (by omega)
        split <;> omega)
      omega
    have bO : -20000000000000 ≤ O ∧ O ≤ 20000000000000 := by
      rw [← hO]
      have := sumr_b (t := fun p => if dsX p (wy p) r6 r9 = 99 then 0 else -sm p) (B := 1000000000000) 20 0 (fun p _ hp => by
        have := smb p (by omega)
        split <;> omega)
      omega
    refine ⟨?_, ?_⟩
    rotate_left
    · rw [fin q hq]
      repeat' split
      all_goals omega
    rw [fin q hq, w3 (nmC q) nq]
    have e40 : (nmC q = 40) ↔ (q = 20) := ⟨fun z => nmC_i hq (by omega) (by rw [z]; rfl), fun z => by rw [z]; rfl⟩
    have n16 : nmC (16 + g) = 20 + g := by unfold nmC; rw [if_neg (by omega), if_pos (by omega)]; omega
    have eg : (nmC q = 20 + g) ↔ (q = 16 + g) := ⟨fun z => nmC_i hq (by omega) (by rw [z, n16]), fun z => by rw [z, n16]⟩
    have term : ∀ p, p < 20 → gvX (smC sm) (smC wy) g r6 r9 (nmC q) (wc p) = (if dsX p (wy p) r6 r9 = q then sm p else 0) + (if q = 16 + g then (if dsX p (wy p) r6 r9 = 99 then 0 else -sm p) else 0) := fun p hp => by
      unfold gvX
      rw [smC_w hp, smC_w hp]
      have wr := (cl p hp).2.2.2.2.2.1
      rcases gt_ds (p := p) (g := g) (w := wy p) (r6 := r6) (r9 := r9) hp wr with ⟨d1, d2⟩ | ⟨d1, d2, d3⟩
      · rw [d1, d2, if_neg (show ¬ 99 = q by omega), if_pos rfl]
        by_cases c : q = 16 + g
        · rw [if_pos (eg.mpr c).symm, if_pos (eg.mpr c), if_pos c]; omega
        · rw [if_neg (fun z => c (eg.mp z.symm)), if_neg (fun z => c (eg.mp z)), if_neg c]; omega
      · rw [d2, if_neg (show ¬ dsX p (wy p) r6 r9 = 99 by omega)]
        by_cases c : q = 16 + g
        · rw [if_pos (eg.mpr c), if_pos c]
          by_cases e : dsX p (wy p) r6 r9 = q
          · rw [if_pos e, e, if_pos rfl]; omega
          · rw [if_neg e, if_neg (fun z => e (nmC_i d1 hq z))]; omega
        · rw [if_neg (fun z => c (eg.mp z)), if_neg c]
          by_cases e : dsX p (wy p) r6 r9 = q
          · rw [if_pos e, e, if_pos rfl]; omega
          · rw [if_neg e, if_neg (fun z => e (nmC_i d1 hq z))]; omega
    have s24 : sumr (gvX (smC sm) (smC wy) g r6 r9 (nmC q)) 0 24 0 = sumr (fun p => (if dsX p (wy p) r6 r9 = q then sm p else 0) + (if q = 16 + g then (if dsX p (wy p) r6 r9 = 99 then 0 else -sm p) else 0)) 0 20 0 := sum24 term (fun x x1 x2 => by
      unfold gvX
      rw [smC_z (sm := sm) x1 x2]
      repeat' split
      all_goals rfl)
    rw [s24]
    have ad : sumr (fun p => (if dsX p (wy p) r6 r9 = q then sm p else 0) + (if q = 16 + g then (if dsX p (wy p) r6 r9 = 99 then 0 else -sm p) else 0)) 0 20 0 = sumr (fun p => if dsX p (wy p) r6 r9 = q then sm p else 0) 0 20 0 + sumr (fun p => if q = 16 + g then (if dsX p (wy p) r6 r9 = 99 then 0 else -sm p) else 0) 0 20 0 := sumr_ad 20 0
    rw [ad]
    by_cases c : q = 16 + g
    · have e : (fun p => if q = 16 + g then (if dsX p (wy p) r6 r9 = 99 then 0 else -sm p) else 0) = (fun p => if dsX p (wy p) r6 r9 = 99 then 0 else -sm p) := funext (fun p => if_pos c)
      rw [e, hO, if_neg (fun z => by have := e40.mp z; omega), if_pos (eg.mpr c), if_neg (by omega), if_pos c]; omega
    · have e : (fun p => if q = 16 + g then (if dsX p (wy p) r6 r9 = 99 then 0 else -sm p) else 0) = (fun _ => (0 : Int)) := funext (fun p => if_neg c)
      rw [e, sumr_0, if_neg (fun z => c (eg.mp z)), if_neg c]
      by_cases c2 : q = 20
      · rw [if_pos (e40.mpr c2), if_pos c2]; omega
      · rw [if_neg (fun z => c2 (e40.mp z)), if_neg c2]; omega
  · have e : sumr (st_ (st_ zr 230 20 (zr 230 20 - L)) 230 (16 + g) (ud (zr 230) 20 (zr 230 20 - L) (16 + g) + (O + L)) 230) 0 22 0 = sumr (fun q => sumr (fun p => if dsX p (wy p) r6 r9 = q then sm p else 0) 0 20 0 + ((if q = 20 then -L else 0) + (if q = 16 + g then O + L else 0))) 0 22 0 := sumr_c 22 0 0 (fun j hj yy => by rw [fin j (by omega)]; omega)
    rw [e]
    have ad1 : sumr (fun q => sumr (fun p => if dsX p (wy p) r6 r9 = q then sm p else 0) 0 20 0 + ((if q = 20 then -L else 0) + (if q = 16 + g then O + L else 0))) 0 22 0 = sumr (fun q => sumr (fun p => if dsX p (wy p) r6 r9 = q then sm p else 0) 0 20 0) 0 22 0 + sumr (fun q : Nat => (if q = 20 then -L else 0) + (if q = 16 + g then O + L else 0)) 0 22 0 := sumr_ad 22 0
    have ad2 : sumr (fun q : Nat => (if q = 20 then -L else 0) + (if q = 16 + g then O + L else 0)) 0 22 0 = sumr (fun q : Nat => if q = 20 then -L else 0) 0 22 0 + sumr (fun q : Nat => if q = 16 + g then O + L else 0) 0 22 0 := sumr_ad 22 0
    have one : ∀ (a : Nat) (v : Int), a < 22 → sumr (fun q : Nat => if q = a then v else 0) 0 22 0 = v := fun a v ha => by
      have := (sumr_1 (x := (a : Int)) (v := v) 22 0).1 (by omega)
      have e : (fun w : Nat => if (a : Int) = (w : Int) then v else 0) = (fun q : Nat => if q = a then v else 0) := funext (fun w => by
        by_cases c : w = a
        · rw [if_pos c, if_pos (by omega)]
        · rw [if_neg c, if_neg (by omega)])
      rw [e] at this; exact this
    rw [ad1, ad2, one 20 _ (by omega), one (16 + g) _ (by omega), sumr_sw]
    have ad3 : sumr (fun p => sumr (fun q => if dsX p (wy p) r6 r9 = q then sm p else 0) 0 22 0) 0 20 0 = sumr (fun p => 0 - (if dsX p (wy p) r6 r9 = 99 then 0 else -sm p)) 0 20 0 := sumr_c 20 0 0 (fun p hp yy => by
      have wr := (cl p (by omega)).2.2.2.2.2.1
      rcases gt_ds (p := p) (g := g) (w := wy p) (r6 := r6) (r9 := r9) (by omega) wr with ⟨d1, d2⟩ | ⟨d1, d2, d3⟩
      · rw [d1, if_pos rfl]
        have : sumr (fun q => if 99 = q then sm p else 0) 0 22 0 = sumr (fun _ => 0) 0 22 0 := sumr_c 22 0 0 (fun q hq yy => by rw [if_neg (show ¬ 99 = q by omega)])
        rw [this, sumr_0]; rfl
      · rw [if_neg (show ¬ dsX p (wy p) r6 r9 = 99 by omega)]
        have e : (fun q => if dsX p (wy p) r6 r9 = q then sm p else 0) = (fun q : Nat => if q = dsX p (wy p) r6 r9 then sm p else 0) := funext (fun q => by
          by_cases c : dsX p (wy p) r6 r9 = q
          · rw [if_pos c, if_pos c.symm]
          · rw [if_neg c, if_neg (fun z => c z.symm)])
        rw [e, one _ _ d1]; omega)
    have ng : ∀ (m i : Nat), sumr (fun p => 0 - (if dsX p (wy p) r6 r9 = 99 then 0 else -sm p)) i m 0 = - sumr (fun p => if dsX p (wy p) r6 r9 = 99 then 0 else -sm p) i m 0 := by
      intro m
      induction m with
      | zero => intro i; rfl
      | succ m ih => intro i; rw [sumr_S, sumr_S, sumr_a, sumr_a (fun p => if dsX p (wy p) r6 r9 = 99 then 0 else -sm p), ih]; omega
    rw [ad3, ng, hO]; omega
