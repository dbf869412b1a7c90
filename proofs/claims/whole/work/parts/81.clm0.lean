/-! claims: which deals count, what is lost and gained -/
theorem uJA_fill0 {F r n : Nat} {M : bz_Mm} {v : Int} (hF : n < F) (hn : n ≤ 2147483647) : fJA_fill0 F M r n v = some (fl M r 0 n v) := by
  have key : ∀ (m fuel i : Nat) (M : bz_Mm), i + m = n → m < fuel → JA_fill0_L6 F fuel r n n v (i : Int) M = some (fl M r i n v) := by
    intro m
    induction m with
    | zero =>
      intro fuel i M h1 h2
      obtain ⟨fuel, rfl⟩ : ∃ j, fuel = j + 1 := ⟨fuel - 1, by omega⟩
      have e : i = n := by omega
      subst e
      rw [JA_fill0_L6, if_neg (by omega), flz_0]
    | succ m ih =>
      intro fuel i M h1 h2
      obtain ⟨fuel, rfl⟩ : ∃ j, fuel = j + 1 := ⟨fuel - 1, by omega⟩
      have e : (i : Int) + 1 = ((i + 1 : Nat) : Int) := by omega
      rw [JA_fill0_L6, w32_id (x := (i : Int)) (by omega) (by omega), w32_id (x := (n : Int)) (by omega) (by omega), if_pos (by omega), wa_s (by omega) hn, e, ih fuel (i + 1) _ (by omega) (by omega), flz_1 (by omega)]
  unfold fJA_fill0
  have k : JA_fill0_L6 F F r n n v 0 M = _ := key n F 0 M (by omega) hF
  rw [k, cl1_s]
/-- an error counts: booked price b, right price r -/
def cnX (b r be : Int) : Prop := be * r < 10000 * (if b - r < 0 then -(b - r) else b - r)
theorem cn_U {F s : Nat} {M : bz_Mm} {be : Int} (hs : s < 1040) (hb : 0 ≤ M 48 s ∧ M 48 s ≤ 10000000) (hr : 0 ≤ M 56 s ∧ M 56 s ≤ 10000000) (hbe : 0 ≤ be ∧ be ≤ 5000) : ∃ x : Int, fUC_errorCounts F M (s : Int) be = some x ∧ (w32 x = 0 ↔ ¬ cnX (M 48 s) (M 56 s) be) := by
  unfold fUC_errorCounts fUC_errorOn
  rw [rd_s hs (by decide), rd_s hs (by decide), cl_s, rd_s hs (by decide)]
  generalize M 48 s = b at hb
  generalize M 56 s = r at hr
  have br : 0 ≤ be * r ∧ be * r ≤ 50000000000 := by
    refine ⟨Int.mul_nonneg hbe.1 hr.1, ?_⟩
    have := Int.mul_le_mul hbe.2 hr.2 hr.1 (by decide)
    omega
  unfold fJM_abs0 cnX
  have ar : 0 ≤ (if b - r < 0 then -(b - r) else b - r) ∧ (if b - r < 0 then -(b - r) else b - r) ≤ 10000000 := by split <;> omega
  rw [w32_id (x := b - r) (by omega) (by omega), w32_id (x := be) (by omega) (by omega), w32_id (x := r) (by omega) (by omega), w32_id (x := (if b - r < 0 then -(b - r) else b - r)) (by omega) (by omega), r64_w (x := be * r) ⟨by omega, by omega⟩, r64_w (x := 10000 * (if b - r < 0 then -(b - r) else b - r)) ⟨by omega, by omega⟩]
  by_cases c : be * r < 10000 * (if b - r < 0 then -(b - r) else b - r)
  · exact ⟨1, by rw [if_pos c], by rw [w32_1p]; simp [c]⟩
  · exact ⟨0, by rw [if_neg c], by rw [w32_0]; simp [c]⟩
theorem cn_M {F f d : Nat} {M : bz_Mm} {be : Int} (hf : f < 4) (hd : d < 260) (hb : 0 ≤ M (212 + f) d ∧ M (212 + f) d ≤ 10000000) (hr : 0 ≤ M (196 + f) d ∧ M (196 + f) d ≤ 10000000) (hbe : 0 ≤ be ∧ be ≤ 5000) : ∃ x : Int, fM_counts F M (f : Int) (d : Int) be = some x ∧ (w32 x = 0 ↔ ¬ cnX (M (212 + f) d) (M (196 + f) d) be) := by
  unfold fM_counts
  have f0 : (0 : Int) ≤ (f : Int) := by omega
  have f4 : (f : Int) < ((4 : Nat) : Int) := by omega
  have ea : (if w64 (M (212 + f) d - M (196 + f) d) < 0 then some (-(M (212 + f) d - M (196 + f) d)) else some (M (212 + f) d - M (196 + f) d)) = some (if M (212 + f) d - M (196 + f) d < 0 then -(M (212 + f) d - M (196 + f) d) else M (212 + f) d - M (196 + f) d) := by
    rw [r64_w (x := M (212 + f) d - M (196 + f) d) ⟨by omega, by omega⟩]; split <;> rfl
  rw [ra_i f0 f4 (by decide), Int.toNat_natCast, rd_s hd (by decide), ra_i f0 f4 (by decide), Int.toNat_natCast, rd_s hd (by decide), lt_x, ea, cl1_s, ra_i f0 f4 (by decide), Int.toNat_natCast, rd_s hd (by decide)]
  generalize M (212 + f) d = b at hb
  generalize M (196 + f) d = r at hr
  have br : 0 ≤ be * r ∧ be * r ≤ 50000000000 := by
    refine ⟨Int.mul_nonneg hbe.1 hr.1, ?_⟩
    have := Int.mul_le_mul hbe.2 hr.2 hr.1 (by decide)
    omega
  unfold cnX
  have ar : 0 ≤ (if b - r < 0 then -(b - r) else b - r) ∧ (if b - r < 0 then -(b - r) else b - r) ≤ 10000000 := by split <;> omega
  rw [w32_id (x := be) (by omega) (by omega), r64_w (x := be * r) ⟨by omega, by omega⟩, r64_w (x := 10000 * (if b - r < 0 then -(b - r) else b - r)) ⟨by omega, by omega⟩]
  by_cases c : be * r < 10000 * (if b - r < 0 then -(b - r) else b - r)
  · exact ⟨1, by rw [if_pos c], by rw [w32_1p]; simp [c]⟩
  · exact ⟨0, by rw [if_neg c], by rw [w32_0]; simp [c]⟩
/-- a sum over deals of those that P names -/
def sqP (P : Nat → Bool) (t : Nat → Int) : Nat → Int
  | 0 => 0
  | i + 1 => sqP P t i + if P i = true then t i else 0
theorem sqP_S (P : Nat → Bool) (t : Nat → Int) (i : Nat) : sqP P t (i + 1) = sqP P t i + if P i = true then t i else 0 := rfl
theorem sqP_c {P P' : Nat → Bool} {t t' : Nat → Int} : ∀ n : Nat, (∀ i, i < n → (if P i = true then t i else 0) = (if P' i = true then t' i else 0)) → sqP P t n = sqP P' t' n := by
  intro n
  induction n with
  | zero => intro _; rfl
  | succ n ih => intro h; rw [sqP_S, sqP_S, ih (fun i hi => h i (by omega)), h n (by omega)]
def lsX (u b c : Int) : Int := if 0 < u then b - c else -(b - c)
def posX (x : Int) : Int := if 0 < x then x else 0
/-- the deals of a fund that count: the class's rows -/
def hitU (M : bz_Mm) (f N : Nat) (be : Int) (i : Nat) : Prop := M 38 i = f ∧ M 35 i < N ∧ M 40 i ≠ 0 ∧ cnX (M 48 (f * 260 + (M 35 i).toNat)) (M 56 (f * 260 + (M 35 i).toNat)) be
theorem posX_U {x : Int} (h : r64 x) : fJM_max1 0 x = posX x := by
  rw [uJM_max1 ⟨by decide, by decide⟩ h]; rfl
theorem add_U {F i : Nat} {M : bz_Mm} (hi : i < 200) (hw : 0 ≤ M 37 i ∧ M 37 i < 24) (hu : r32 (M 40 i)) (hb : 0 ≤ M 41 i ∧ M 41 i ≤ 1000000000) (hr : 0 ≤ M 42 i ∧ M 42 i ≤ 1000000000) : fUQ_addDeal F M (i : Int) = some (st_ (st_ M 66 (M 37 i).toNat (M 66 (M 37 i).toNat + posX (lsX (M 40 i) (M 41 i) (M 42 i)))) 67 (M 37 i).toNat (M 67 (M 37 i).toNat + posX (-lsX (M 40 i) (M 41 i) (M 42 i)))) := by
  unfold fUQ_addDeal
  have ls : (if 0 < w32 (M 40 i) then some (M 41 i - M 42 i) else some (-(M 41 i - M 42 i))) = some (lsX (M 40 i) (M 41 i) (M 42 i)) := by
    unfold lsX
    rw [r32_w hu]; split <;> rfl
  have lr : -1000000000 ≤ lsX (M 40 i) (M 41 i) (M 42 i) ∧ lsX (M 40 i) (M 41 i) (M 42 i) ≤ 1000000000 := by unfold lsX; split <;> omega
  rw [rd_s hi (by decide), rd_s hi (by decide), lt_x, rd_s hi (by decide), ls, cl1_s, rd_s hi (by decide), rd_i hw.1 (by omega) (by decide), wa_i hw.1 (by omega) (by decide), rd_s hi (by decide), st_ne (show (37 : Nat) ≠ 66 by decide), rd_i hw.1 (by omega) (by decide), wa_i hw.1 (by omega) (by decide), st_ne (show (67 : Nat) ≠ 66 by decide), posX_U ⟨by omega, by omega⟩, posX_U ⟨by omega, by omega⟩]
theorem uUQ_gatherB {F f nd N : Nat} {k be : Int} {M : bz_Mm} (hF : 300 < F) (hf : f < 4) (hN : N ≤ 260) (hl : fUS_lastOver (fl (fl (st_ (st_ M 65 3 (f : Int)) 65 4 k) 66 0 24 0) 67 0 24 0) k = (N : Int) - 1) (hn : M 34 2 = nd ∧ nd ≤ 200) (hbe : 0 ≤ be ∧ be ≤ 5000) (hd : ∀ i, i < nd → (0 ≤ M 35 i ∧ M 35 i < 260) ∧ r32 (M 38 i) ∧ r32 (M 40 i) ∧ (0 ≤ M 37 i ∧ M 37 i < 24)) (hp : ∀ i, i < nd → M 38 i = f → M 35 i < N → M 40 i ≠ 0 → (0 ≤ M 48 (f * 260 + (M 35 i).toNat) ∧ M 48 (f * 260 + (M 35 i).toNat) ≤ 10000000) ∧ (0 ≤ M 56 (f * 260 + (M 35 i).toNat) ∧ M 56 (f * 260 + (M 35 i).toNat) ≤ 10000000) ∧ (0 ≤ M 41 i ∧ M 41 i ≤ 1000000000) ∧ (0 ≤ M 42 i ∧ M 42 i ≤ 1000000000)) : ∃ (M' : bz_Mm) (P : Nat → Bool), fUQ_gatherBeyond F M (f : Int) k be = some M' ∧ (∀ i, i < nd → (P i = true ↔ hitU M f N be i)) ∧ (∀ q, q ≠ 65 → q ≠ 66 → q ≠ 67 → M' q = M q) ∧ (M' 65 3 = f ∧ M' 65 4 = k) ∧ ∀ x : Nat, x < 24 → M' 66 x = sqP (fun i => P i && decide (M 37 i = (x : Int))) (fun i => posX (lsX (M 40 i) (M 41 i) (M 42 i))) nd ∧ M' 67 x = sqP (fun i => P i && decide (M 37 i = (x : Int))) (fun i => posX (-lsX (M 40 i) (M 41 i) (M 42 i))) nd := by
  have hdec : ∀ i, Decidable (hitU M f N be i) := fun i => Classical.propDecidable _
  have hP0 : ∀ i, ((fun i => @decide (hitU M f N be i) (hdec i)) i = true ↔ hitU M f N be i) := fun i => by dsimp only; exact @decide_eq_true_iff _ (hdec i)
  generalize (fun i => @decide (hitU M f N be i) (hdec i)) = P at hP0
  have hP : ∀ i, i < nd → (P i = true ↔ hitU M f N be i) := fun i _ => hP0 i
  generalize hM4 : fl (fl (st_ (st_ M 65 3 (f : Int)) 65 4 k) 66 0 24 0) 67 0 24 0 = M4 at hl
  have q4 : ∀ q, q ≠ 65 → q ≠ 66 → q ≠ 67 → M4 q = M q := fun q a b c => by rw [← hM4, flz_o c, flz_o b, st_ne a, st_ne a]
  have q3 : M4 65 3 = f := by rw [← hM4, flz_o (by decide), flz_o (by decide), st_eq, ud_ne (by decide), st_eq, ud_eq]
  have qk : M4 65 4 = k := by rw [← hM4, flz_o (by decide), flz_o (by decide), st_eq, ud_eq]
  have z66 : ∀ x, x < 24 → M4 66 x = 0 := fun x hx => by rw [← hM4, flz_o (by decide), flz_e, if_pos (by omega)]
  have z67 : ∀ x, x < 24 → M4 67 x = 0 := fun x hx => by rw [← hM4, flz_e, if_pos (by omega)]
  have key : ∀ (m fuel i : Nat) (X : bz_Mm), i + m = nd → m < fuel → (∀ q, q ≠ 65 → q ≠ 66 → q ≠ 67 → X q = M q) → (X 65 3 = f ∧ X 65 4 = k) → (∀ x : Nat, x < 24 → X 66 x = sqP (fun i => P i && decide (M 37 i = (x : Int))) (fun i => posX (lsX (M 40 i) (M 41 i) (M 42 i))) i ∧ X 67 x = sqP (fun i => P i && decide (M 37 i = (x : Int))) (fun i => posX (-lsX (M 40 i) (M 41 i) (M 42 i))) i) → ∃ M', UQ_gatherBeyond_L44 F fuel ((N : Int) - 1) be (i : Int) X = some M' ∧ (∀ q, q ≠ 65 → q ≠ 66 → q ≠ 67 → M' q = M q) ∧ (M' 65 3 = f ∧ M' 65 4 = k) ∧ ∀ x : Nat, x < 24 → M' 66 x = sqP (fun i => P i && decide (M 37 i = (x : Int))) (fun i => posX (lsX (M 40 i) (M 41 i) (M 42 i))) nd ∧ M' 67 x = sqP (fun i => P i && decide (M 37 i = (x : Int))) (fun i => posX (-lsX (M 40 i) (M 41 i) (M 42 i))) nd := by
    intro m
    induction m with
    | zero =>
      intro fuel i X h1 h2 h3 h4 h5
      obtain ⟨fuel, rfl⟩ : ∃ j, fuel = j + 1 := ⟨fuel - 1, by omega⟩
      have e : i = nd := by omega
      subst e
      rw [UQ_gatherBeyond_L44, h3 34 (by decide) (by decide) (by decide), hn.1, w32_n (by omega), if_neg (by omega)]
      exact ⟨X, rfl, h3, h4, h5⟩
    | succ m ih =>
      intro fuel i X h1 h2 h3 h4 h5
      obtain ⟨fuel, rfl⟩ : ∃ j, fuel = j + 1 := ⟨fuel - 1, by omega⟩
      have e : (i : Int) + 1 = ((i + 1 : Nat) : Int) := by omega
      obtain ⟨d1, d2, d3, d4⟩ := hd i (by omega)
      have i2 : i < 200 := by omega
      have no : ¬ P i = true → ∃ M', UQ_gatherBeyond_L44 F fuel ((N : Int) - 1) be ((i : Int) + 1) X = some M' ∧ (∀ q, q ≠ 65 → q ≠ 66 → q ≠ 67 → M' q = M q) ∧ (M' 65 3 = f ∧ M' 65 4 = k) ∧ ∀ x : Nat, x < 24 → M' 66 x = sqP (fun i => P i && decide (M 37 i = (x : Int))) (fun i => posX (lsX (M 40 i) (M 41 i) (M 42 i))) nd ∧ M' 67 x = sqP (fun i => P i && decide (M 37 i = (x : Int))) (fun i => posX (-lsX (M 40 i) (M 41 i) (M 42 i))) nd := fun np => by
        rw [e]
        refine ih fuel (i + 1) X (by omega) (by omega) h3 h4 (fun x hx => ?_)
        have : ¬ (P i && decide (M 37 i = (x : Int))) = true := by simp [np]
        rw [sqP_S, sqP_S, if_neg this, if_neg this, Int.add_zero, Int.add_zero]; exact h5 x hx
      rw [UQ_gatherBeyond_L44, h3 34 (by decide) (by decide) (by decide), hn.1, w32_n (show i ≤ 2147483647 by omega), w32_n (show nd ≤ 2147483647 by omega), if_pos (by omega), rd_s i2 (by decide), rd_s i2 (by decide), h3 35 (by decide) (by decide) (by decide), h3 38 (by decide) (by decide) (by decide), h4.1, r32_w d2, w32_n (show f ≤ 2147483647 by omega), w32_id (x := (N : Int) - 1) (by omega) (by omega), w32_id (x := M 35 i) (by omega) (by omega), rd_s i2 (by decide), h3 40 (by decide) (by decide) (by decide), r32_w d3]
      by_cases c1 : M 38 i = (f : Int) ∧ M 35 i < N ∧ M 40 i ≠ 0
      · obtain ⟨p1, p2, p3, p4⟩ := hp i (by omega) c1.1 c1.2.1 c1.2.2
        rw [if_pos c1.1, if_neg (by omega), if_neg c1.2.2, cl1_s, if_neg (by decide)]
        have sl : fU_slot (f : Int) (M 35 i) = ((f * 260 + (M 35 i).toNat : Nat) : Int) := by unfold fU_slot; omega
        obtain ⟨x, x1, x2⟩ := cn_U (F := F) (s := f * 260 + (M 35 i).toNat) (M := X) (be := be) (by omega) (by rw [h3 48 (by decide) (by decide) (by decide)]; exact p1) (by rw [h3 56 (by decide) (by decide) (by decide)]; exact p2) hbe
        rw [h3 48 (by decide) (by decide) (by decide), h3 56 (by decide) (by decide) (by decide)] at x2
        rw [sl, x1, cl_s]
        by_cases c2 : cnX (M 48 (f * 260 + (M 35 i).toNat)) (M 56 (f * 260 + (M 35 i).toNat)) be
        · have yes : P i = true := (hP i (by omega)).mpr ⟨c1.1, c1.2.1, c1.2.2, c2⟩
          rw [if_neg (fun q => x2.mp q c2), add_U i2 (by rw [h3 37 (by decide) (by decide) (by decide)]; exact d4) (by rw [h3 40 (by decide) (by decide) (by decide)]; exact d3) (by rw [h3 41 (by decide) (by decide) (by decide)]; exact p3) (by rw [h3 42 (by decide) (by decide) (by decide)]; exact p4), cl_s, e, h3 37 (by decide) (by decide) (by decide), h3 40 (by decide) (by decide) (by decide), h3 41 (by decide) (by decide) (by decide), h3 42 (by decide) (by decide) (by decide)]
          refine ih fuel (i + 1) _ (by omega) (by omega) (fun q a b c => by rw [st_ne c, st_ne b]; exact h3 q a b c) ⟨by rw [st_ne (by decide), st_ne (by decide)]; exact h4.1, by rw [st_ne (by decide), st_ne (by decide)]; exact h4.2⟩ (fun x hx => ?_)
          obtain ⟨w1, w2⟩ := h5 x hx
          rw [sqP_S, sqP_S, st_ne (show (66 : Nat) ≠ 67 by decide), st_eq, st_eq]
          by_cases z : x = (M 37 i).toNat
          · have z2 : (P i && decide (M 37 i = (x : Int))) = true := by simp [yes]; omega
            rw [if_pos z2, if_pos z2, ← z, ud_eq, ud_eq, w1, w2]
            exact ⟨rfl, rfl⟩
          · have z2 : ¬ (P i && decide (M 37 i = (x : Int))) = true := by simp [yes]; omega
            rw [if_neg z2, if_neg z2, ud_ne z, ud_ne z, st_ne (by decide), Int.add_zero, Int.add_zero]; exact ⟨w1, w2⟩
        · rw [if_pos (x2.mpr c2)]
          exact no (fun q => c2 ((hP i (by omega)).mp q).2.2.2)
      · have zv : (if M 38 i = (f : Int) then if (N : Int) - 1 < M 35 i then some (0 : Int) else if M 40 i = 0 then some 0 else some 1 else some 0) = some 0 := by
          repeat' split
          all_goals first | rfl | (exfalso; omega)
        rw [zv, cl1_s, if_pos w32_0]
        exact no (fun q => by have := (hP i (by omega)).mp q; exact c1 ⟨this.1, this.2.1, this.2.2.1⟩)
  obtain ⟨M', k1, k2, k3, k4⟩ := key nd F 0 M4 (by omega) (by omega) q4 ⟨q3, qk⟩ (fun x hx => ⟨by rw [z66 x hx]; rfl, by rw [z67 x hx]; rfl⟩)
  refine ⟨M', P, ?_, hP, k2, k3, k4⟩
  unfold fUQ_gatherBeyond
  rw [show ((0 : Nat) : Int) = 0 from rfl] at k1
  rw [wf_s, wf_s, uJA_fill0 (by omega) (by decide), cl_s, uJA_fill0 (by omega) (by decide), cl_s, hM4, lt_x, hl, k1, cl1_s]
