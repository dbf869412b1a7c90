/-! lost and gained in the reference -/
def lsM (u b c : Int) : Int := if u < 0 then -(b - c) else b - c
def hitM (M : bz_Mm) (f N : Nat) (be : Int) (i : Nat) : Prop := M 104 i = f ∧ M 108 i ≠ 0 ∧ M 106 i < N ∧ cnX (M (212 + f) (M 106 i).toNat) (M (196 + f) (M 106 i).toNat) be
theorem lastN_M {M : bz_Mm} {k : Int} (h0 : 0 ≤ M 81 0 ∧ M 81 0 ≤ 260) (hk : 0 ≤ k ∧ k ≤ 260) : fM_lastOver M k = ((lastN (M 81 0) k : Nat) : Int) - 1 := by
  unfold fM_lastOver lastN
  rw [w32_id (x := M 81 0 - 1) (by omega) (by omega), w32_id (x := k) (by omega) (by omega)]
  repeat' split
  all_goals omega
theorem r_sums {F f nd N : Nat} {k be : Int} {M : bz_Mm} (hF : 300 < F) (hf : f < 4) (h0 : 0 ≤ M 81 0 ∧ M 81 0 ≤ 260) (hk : 0 ≤ k ∧ k ≤ 260) (hN : N = lastN (M 81 0) k) (hn : M 81 35 = nd ∧ nd ≤ 200) (hbe : 0 ≤ be ∧ be ≤ 5000) (hd : ∀ i, i < nd → (0 ≤ M 106 i ∧ M 106 i < 260) ∧ r32 (M 104 i) ∧ r32 (M 107 i) ∧ (0 ≤ M 103 i ∧ M 103 i < 20) ∧ r32 (M 108 i)) (hp : ∀ i, i < nd → M 104 i = f → M 108 i ≠ 0 → M 106 i < N → (0 ≤ M (212 + f) (M 106 i).toNat ∧ M (212 + f) (M 106 i).toNat ≤ 10000000) ∧ (0 ≤ M (196 + f) (M 106 i).toNat ∧ M (196 + f) (M 106 i).toNat ≤ 10000000) ∧ (0 ≤ M 109 i ∧ M 109 i ≤ 1000000000) ∧ (0 ≤ M 189 i ∧ M 189 i ≤ 1000000000)) : ∃ (M' : bz_Mm) (P : Nat → Bool), fM_sums F M (f : Int) k be = some M' ∧ (∀ i, i < nd → (P i = true ↔ hitM M f N be i)) ∧ (∀ q, q ≠ 223 → q ≠ 224 → M' q = M q) ∧ ∀ x : Nat, x < 20 → M' 223 x = sqP (fun i => P i && decide (M 103 i = (x : Int))) (fun i => posX (lsM (M 107 i) (M 109 i) (M 189 i))) nd ∧ M' 224 x = sqP (fun i => P i && decide (M 103 i = (x : Int))) (fun i => posX (-lsM (M 107 i) (M 109 i) (M 189 i))) nd := by
  have hdec : ∀ i, Decidable (hitM M f N be i) := fun i => Classical.propDecidable _
  have hP0 : ∀ i, ((fun i => @decide (hitM M f N be i) (hdec i)) i = true ↔ hitM M f N be i) := fun i => by dsimp only; exact @decide_eq_true_iff _ (hdec i)
  generalize (fun i => @decide (hitM M f N be i) (hdec i)) = P at hP0
  have hP : ∀ i, i < nd → (P i = true ↔ hitM M f N be i) := fun i _ => hP0 i
  have zer : ∀ (m fuel x : Nat) (X : bz_Mm), x + m = 20 → m < fuel → (∀ q, q ≠ 223 → q ≠ 224 → X q = M q) → (∀ y, y < x → X 223 y = 0 ∧ X 224 y = 0) → ∃ M4, M_sums_L3 F fuel (f : Int) k be (x : Int) X = some M4 ∧ (∀ q, q ≠ 223 → q ≠ 224 → M4 q = M q) ∧ ∀ y, y < 20 → M4 223 y = 0 ∧ M4 224 y = 0 := by
    intro m
    induction m with
    | zero =>
      intro fuel x X h1 h2 h3 h4
      obtain ⟨fuel, rfl⟩ : ∃ j, fuel = j + 1 := ⟨fuel - 1, by omega⟩
      rw [M_sums_L3, w32_n (by omega), if_neg (by omega)]
      exact ⟨X, rfl, h3, fun y hy => h4 y (by omega)⟩
    | succ m ih =>
      intro fuel x X h1 h2 h3 h4
      obtain ⟨fuel, rfl⟩ : ∃ j, fuel = j + 1 := ⟨fuel - 1, by omega⟩
      have e : (x : Int) + 1 = ((x + 1 : Nat) : Int) := by omega
      rw [M_sums_L3, w32_n (show x ≤ 2147483647 by omega), if_pos (by omega), wa_s (by omega) (by decide), wa_s (by omega) (by decide), e]
      refine ih fuel (x + 1) _ (by omega) (by omega) (fun q a b => by rw [st_ne b, st_ne a]; exact h3 q a b) (fun y hy => ?_)
      rw [st_ne (show (223 : Nat) ≠ 224 by decide), st_eq, st_eq]
      by_cases c : y = x
      · rw [c, ud_eq, ud_eq]; exact ⟨rfl, rfl⟩
      · rw [ud_ne c, ud_ne c, st_ne (by decide)]; exact h4 y (by omega)
  obtain ⟨M4, z1, q4, z2⟩ := zer 20 F 0 M (by decide) (by omega) (fun _ _ _ => rfl) (fun y hy => by omega)
  have key : ∀ (m fuel i : Nat) (X : bz_Mm), i + m = nd → m < fuel → (∀ q, q ≠ 223 → q ≠ 224 → X q = M q) → (∀ x : Nat, x < 20 → X 223 x = sqP (fun i => P i && decide (M 103 i = (x : Int))) (fun i => posX (lsM (M 107 i) (M 109 i) (M 189 i))) i ∧ X 224 x = sqP (fun i => P i && decide (M 103 i = (x : Int))) (fun i => posX (-lsM (M 107 i) (M 109 i) (M 189 i))) i) → ∃ M', M_sums_L35 F fuel (f : Int) k be (i : Int) X = some M' ∧ (∀ q, q ≠ 223 → q ≠ 224 → M' q = M q) ∧ ∀ x : Nat, x < 20 → M' 223 x = sqP (fun i => P i && decide (M 103 i = (x : Int))) (fun i => posX (lsM (M 107 i) (M 109 i) (M 189 i))) nd ∧ M' 224 x = sqP (fun i => P i && decide (M 103 i = (x : Int))) (fun i => posX (-lsM (M 107 i) (M 109 i) (M 189 i))) nd := by
    intro m
    induction m with
    | zero =>
      intro fuel i X h1 h2 h3 h5
      obtain ⟨fuel, rfl⟩ : ∃ j, fuel = j + 1 := ⟨fuel - 1, by omega⟩
      have e : i = nd := by omega
      subst e
      rw [M_sums_L35, h3 81 (by decide) (by decide), hn.1, w32_n (by omega), if_neg (by omega)]
      exact ⟨X, rfl, h3, h5⟩
    | succ m ih =>
      intro fuel i X h1 h2 h3 h5
      obtain ⟨fuel, rfl⟩ : ∃ j, fuel = j + 1 := ⟨fuel - 1, by omega⟩
      have e : (i : Int) + 1 = ((i + 1 : Nat) : Int) := by omega
      obtain ⟨d1, d2, d3, d4, d5⟩ := hd i (by omega)
      have i2 : i < 200 := by omega
      have no : ¬ P i = true → ∃ M', M_sums_L35 F fuel (f : Int) k be ((i : Int) + 1) X = some M' ∧ (∀ q, q ≠ 223 → q ≠ 224 → M' q = M q) ∧ ∀ x : Nat, x < 20 → M' 223 x = sqP (fun i => P i && decide (M 103 i = (x : Int))) (fun i => posX (lsM (M 107 i) (M 109 i) (M 189 i))) nd ∧ M' 224 x = sqP (fun i => P i && decide (M 103 i = (x : Int))) (fun i => posX (-lsM (M 107 i) (M 109 i) (M 189 i))) nd := fun np => by
        rw [e]
        refine ih fuel (i + 1) X (by omega) (by omega) h3 (fun x hx => ?_)
        have : ¬ (P i && decide (M 103 i = (x : Int))) = true := by simp [np]
        rw [sqP_S, sqP_S, if_neg this, if_neg this, Int.add_zero, Int.add_zero]; exact h5 x hx
      have lo : fM_lastOver X k = (N : Int) - 1 := by rw [lastN_M (by rw [h3 81 (by decide) (by decide)]; exact h0) hk, h3 81 (by decide) (by decide), hN]
      rw [M_sums_L35, h3 81 (by decide) (by decide), hn.1, w32_n (show i ≤ 2147483647 by omega), w32_n (show nd ≤ 2147483647 by omega), if_pos (by omega), rd_s i2 (by decide), h3 104 (by decide) (by decide), r32_w d2, w32_n (show f ≤ 2147483647 by omega), rd_s i2 (by decide), h3 108 (by decide) (by decide), r32_w d5, rd_s i2 (by decide), h3 106 (by decide) (by decide), lo]
      have N2 : N ≤ 260 := by rw [hN]; unfold lastN; split <;> omega
      rw [w32_id (x := (N : Int) - 1) (by omega) (by omega), w32_id (x := M 106 i) (by omega) (by omega), rd_s i2 (by decide), h3 106 (by decide) (by decide)]
      by_cases c1 : M 104 i = (f : Int)
      · rw [if_pos c1]
        by_cases c2 : M 108 i = 0
        · rw [if_pos c2]; exact no (fun q => ((hP i (by omega)).mp q).2.1 c2)
        · rw [if_neg c2]
          by_cases c3 : (N : Int) - 1 < M 106 i
          · rw [if_pos c3]; exact no (fun q => by have := ((hP i (by omega)).mp q).2.2.1; omega)
          · obtain ⟨p1, p2, p3, p4⟩ := hp i (by omega) c1 c2 (by omega)
            have ed : M 106 i = (((M 106 i).toNat : Nat) : Int) := by omega
            obtain ⟨x, x1, x2⟩ := cn_M (F := F) (f := f) (d := (M 106 i).toNat) (M := X) (be := be) hf (by omega) (by rw [h3 (212 + f) (by omega) (by omega)]; exact p1) (by rw [h3 (196 + f) (by omega) (by omega)]; exact p2) hbe
            rw [h3 (212 + f) (by omega) (by omega), h3 (196 + f) (by omega) (by omega)] at x2
            rw [← ed] at x1
            rw [if_neg c3, x1, cl_s]
            by_cases c4 : cnX (M (212 + f) (M 106 i).toNat) (M (196 + f) (M 106 i).toNat) be
            · have yes : P i = true := (hP i (by omega)).mpr ⟨c1, c2, by omega, c4⟩
              have lsv : (if w32 (M 107 i) < 0 then lt_ (-(M 109 i - M 189 i)) fun l5 => some l5 else some (M 109 i - M 189 i)) = some (lsM (M 107 i) (M 109 i) (M 189 i)) := by
                unfold lsM
                rw [r32_w d3]; split <;> rfl
              have lr : -1000000000 ≤ lsM (M 107 i) (M 109 i) (M 189 i) ∧ lsM (M 107 i) (M 109 i) (M 189 i) ≤ 1000000000 := by unfold lsM; split <;> omega
              rw [if_neg (fun q => x2.mp q c4), rd_s i2 (by decide), rd_s i2 (by decide), h3 109 (by decide) (by decide), h3 189 (by decide) (by decide), lt_x, rd_s i2 (by decide), h3 107 (by decide) (by decide), lsv, cl1_s, r64_w (x := lsM (M 107 i) (M 109 i) (M 189 i)) ⟨by omega, by omega⟩, rd_s i2 (by decide), rd_s i2 (by decide), h3 103 (by decide) (by decide), rd_i d4.1 (by omega) (by decide), rd_i d4.1 (by omega) (by decide), wa_i d4.1 (by omega) (by decide), wa_i d4.1 (by omega) (by decide), e]
              generalize hls : lsM (M 107 i) (M 109 i) (M 189 i) = ls at lr
              by_cases c5 : 0 < ls
              · rw [if_pos c5]
                refine ih fuel (i + 1) _ (by omega) (by omega) (fun q a b => by rw [st_ne a]; exact h3 q a b) (fun x hx => ?_)
                obtain ⟨w1, w2⟩ := h5 x hx
                rw [sqP_S, sqP_S, st_eq, st_ne (show (224 : Nat) ≠ 223 by decide)]
                by_cases z : x = (M 103 i).toNat
                · have z2 : (P i && decide (M 103 i = (x : Int))) = true := by simp [yes]; omega
                  rw [if_pos z2, if_pos z2, ← z, ud_eq, w1, w2, hls]
                  have e1 : posX ls = ls := by unfold posX; rw [if_pos c5]
                  have e2 : posX (-ls) = 0 := by unfold posX; rw [if_neg (by omega)]
                  rw [e1, e2]; exact ⟨rfl, by omega⟩
                · have z2 : ¬ (P i && decide (M 103 i = (x : Int))) = true := by simp [yes]; omega
                  rw [if_neg z2, if_neg z2, ud_ne z, Int.add_zero, Int.add_zero]; exact ⟨w1, w2⟩
              · rw [if_neg c5]
                refine ih fuel (i + 1) _ (by omega) (by omega) (fun q a b => by rw [st_ne b]; exact h3 q a b) (fun x hx => ?_)
                obtain ⟨w1, w2⟩ := h5 x hx
                rw [sqP_S, sqP_S, st_eq, st_ne (show (223 : Nat) ≠ 224 by decide)]
                by_cases z : x = (M 103 i).toNat
                · have z2 : (P i && decide (M 103 i = (x : Int))) = true := by simp [yes]; omega
                  rw [if_pos z2, if_pos z2, ← z, ud_eq, w1, w2, hls]
                  have e1 : posX ls = 0 := by unfold posX; rw [if_neg c5]
                  have e2 : posX (-ls) = -ls := by
                    unfold posX
                    by_cases q : 0 < -ls
                    · rw [if_pos q]
                    · rw [if_neg q]; omega
                  rw [e1, e2]; exact ⟨by omega, by omega⟩
                · have z2 : ¬ (P i && decide (M 103 i = (x : Int))) = true := by simp [yes]; omega
                  rw [if_neg z2, if_neg z2, ud_ne z, Int.add_zero, Int.add_zero]; exact ⟨w1, w2⟩
            · rw [if_pos (x2.mpr c4)]
              exact no (fun q => c4 ((hP i (by omega)).mp q).2.2.2)
      · rw [if_neg c1]; exact no (fun q => c1 ((hP i (by omega)).mp q).1)
  obtain ⟨M', k1, k2, k4⟩ := key nd F 0 M4 (by omega) (by omega) q4 (fun x hx => ⟨by rw [(z2 x hx).1]; rfl, by rw [(z2 x hx).2]; rfl⟩)
  refine ⟨M', P, ?_, hP, k2, k4⟩
  unfold fM_sums
  rw [show ((0 : Nat) : Int) = 0 from rfl] at k1 z1
  rw [z1, cl1_s, k1, cl1_s]
