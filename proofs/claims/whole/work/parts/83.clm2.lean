/-! the sum of a claim and how it is: both sides -/
def smX (lo ga back : Int) : Int := if back = -1 then lo else if lo - ga < 0 then (if lo - ga < -back then lo - ga else 0) else lo - ga
def wyX (s least : Int) (gn : Bool) (since k gd : Int) : Int := if 0 < s then (if s < least then 1 else if gn = true then (if since = -1 then 2 else if k - since < gd then 2 else 3) else 0) else 0
theorem rule_k {F n f w : Nat} {M : bz_Mm} {k : Int} (hF : 300 < F) (hI : iv_la M n) (hf : f < 4) (hk : 0 ≤ k ∧ k < 260) (hw : w < 12) : fM_ruleOf F M (f : Int) k (w : Int) = some (rv M f k w) ∧ fUL_value F M (f : Int) k (w : Int) = some (rv M f k w) ∧ rl_ok w (rv M f k w) ∧ r32 (rv M f k w) := by
  obtain ⟨a, b, c⟩ := rule_both (F := F) (f := (f : Int)) (day := k) (w := (w : Int)) (by omega) hI (by omega) ⟨by omega, by omega⟩ (by omega)
  simp only [Int.toNat_natCast] at a b c
  exact ⟨b, a, c, vok_r hw (Or.inr c)⟩
theorem smX_r {lo ga back : Int} (h1 : 0 ≤ lo ∧ lo ≤ 1000000000000) (h2 : 0 ≤ ga ∧ ga ≤ 1000000000000) : -1000000000000 ≤ smX lo ga back ∧ smX lo ga back ≤ 1000000000000 := by
  unfold smX
  repeat' split
  all_goals omega
theorem uUQ_sumOf {F n f x : Nat} {M : bz_Mm} {k : Int} (hF : 300 < F) (hI : iv_la M n) (hf : f < 4) (hk : 0 ≤ k ∧ k < 260) (h3 : M 65 3 = f) (h4 : M 65 4 = k) (hx : x < 24) (h1 : 0 ≤ M 66 x ∧ M 66 x ≤ 1000000000000) (h2 : 0 ≤ M 67 x ∧ M 67 x ≤ 1000000000000) : fUQ_sumOf F M (x : Int) = some (smX (M 66 x) (M 67 x) (rv M f k 7)) := by
  obtain ⟨_, a, b, c⟩ := rule_k (F := F) (w := 7) hF hI hf hk (by decide)
  rw [show ((7 : Nat) : Int) = 7 from rfl] at a
  have b1 : rv M f k 7 ≤ 100000 := b.1
  have b2 : -1 ≤ rv M f k 7 := b.2
  unfold fUQ_sumOf smX
  rw [h3, h4, a, cl_s, r32_w c, rd_s hx (by decide), rd_s hx (by decide), rd_s hx (by decide), lt_x, r64_w (x := M 66 x - M 67 x) ⟨by omega, by omega⟩, w32_id (x := -rv M f k 7) (by omega) (by omega), r64_w (x := -rv M f k 7) ⟨by omega, by omega⟩]
  repeat' split
  all_goals rfl
theorem uUS_isGoneOn {F x : Nat} {M : bz_Mm} {k : Int} (hk : 0 ≤ k ∧ k < 260) (hx : x < 24) (hh : 0 ≤ M 1 15 ∧ M 1 15 ≤ 16) (hg : ∀ j : Nat, (j : Int) < M 1 15 → r32 (M 5 j)) : ∃ (v : Int) (b : Bool), fUS_isGoneOn F M (x : Int) k = some v ∧ (w32 v = 0 ↔ ¬ b = true) ∧ (b = true ↔ ((x : Int) < M 1 15 ∧ M 5 x ≠ -1 ∧ M 5 x ≤ k)) := by
  have rx : r32 (x : Int) := ⟨by omega, by omega⟩
  unfold fUS_isGoneOn
  by_cases c : (x : Int) < M 1 15
  · have r5 := hg x c
    rw [if_neg (fun q => (uUS_isHolder rx hh).mp q ⟨by omega, c⟩), rd_s (by omega) (by decide), rd_s (by omega) (by decide), r32_w r5, w32_id (x := k) (by omega) (by omega)]
    by_cases c2 : M 5 x = -1
    · exact ⟨0, false, by rw [if_pos c2], by rw [w32_0]; simp, by simp [c2]⟩
    · rw [if_neg c2]
      by_cases c3 : k < M 5 x
      · exact ⟨0, false, by rw [if_pos c3], by rw [w32_0]; simp, by simp; intro _ _; omega⟩
      · exact ⟨1, true, by rw [if_neg c3], by rw [w32_1p]; simp, by simp; exact ⟨c, c2, by omega⟩⟩
  · exact ⟨0, false, by rw [if_pos ((uUS_isHolder rx hh).mpr (fun q => c q.2))], by rw [w32_0]; simp, by simp; intro q; exact absurd q c⟩
theorem uUQ_wayOf {F n f x : Nat} {M : bz_Mm} {k : Int} (hF : 300 < F) (hI : iv_la M n) (hf : f < 4) (hk : 0 ≤ k ∧ k < 260) (h3 : M 65 3 = f) (h4 : M 65 4 = k) (hx : x < 24) (h1 : 0 ≤ M 66 x ∧ M 66 x ≤ 1000000000000) (h2 : 0 ≤ M 67 x ∧ M 67 x ≤ 1000000000000) (hh : 0 ≤ M 1 15 ∧ M 1 15 ≤ 16) (hg : ∀ j : Nat, (j : Int) < M 1 15 → r32 (M 5 j)) (hs : -1 ≤ M 3 f ∧ M 3 f < 260) : ∃ b : Bool, fUQ_wayOf F M (x : Int) = some (wyX (smX (M 66 x) (M 67 x) (rv M f k 7)) (rv M f k 5) b (M 3 f) k (rv M f k 8)) ∧ (b = true ↔ ((x : Int) < M 1 15 ∧ M 5 x ≠ -1 ∧ M 5 x ≤ k)) := by
  obtain ⟨_, a5, b5, c5⟩ := rule_k (F := F) (w := 5) hF hI hf hk (by decide)
  obtain ⟨_, a8, b8, c8⟩ := rule_k (F := F) (w := 8) hF hI hf hk (by decide)
  rw [show ((5 : Nat) : Int) = 5 from rfl] at a5
  rw [show ((8 : Nat) : Int) = 8 from rfl] at a8
  obtain ⟨v, b, g1, g2, g3⟩ := uUS_isGoneOn (F := F) (M := M) hk hx hh hg
  have sr := smX_r (back := rv M f k 7) h1 h2
  refine ⟨b, ?_, g3⟩
  unfold fUQ_wayOf wyX
  rw [uUQ_sumOf hF hI hf hk h3 h4 hx h1 h2, cl_s]
  generalize smX (M 66 x) (M 67 x) (rv M f k 7) = s at sr
  have c5' := c5
  unfold r32 at c5'
  rw [r64_w (x := s) ⟨by omega, by omega⟩, h3, h4, a5, cl_s, r32_w c5, r64_w (x := rv M f k 5) ⟨by omega, by omega⟩, g1, cl_s, rd_s hf (by decide), w32_id (x := M 3 f) (by omega) (by omega), a8, cl_s, r32_w c8, w32_id (x := k - M 3 f) (by omega) (by omega)]
  by_cases z1 : 0 < s
  · rw [if_pos z1, if_pos z1]
    by_cases z2 : s < rv M f k 5
    · rw [if_pos z2, if_pos z2]
    · rw [if_neg z2, if_neg z2]
      by_cases z3 : b = true
      · rw [if_neg (fun q => g2.mp q z3), if_pos z3]
        by_cases z4 : M 3 f = -1
        · rw [if_pos z4, if_pos z4, cl1_s, if_pos w32_0]
        · rw [if_neg z4, if_neg z4]
          by_cases z5 : k - M 3 f < rv M f k 8
          · rw [if_pos z5, if_pos z5, cl1_s, if_pos w32_0]
          · rw [if_neg z5, if_neg z5, cl1_s, if_neg (by decide)]
      · rw [if_pos (g2.mpr z3), if_neg z3]
  · rw [if_neg z1, if_neg z1]
theorem r_judges {F n f p : Nat} {M : bz_Mm} {k : Int} (hF : 300 < F) (hI : iv_la M n) (hf : f < 4) (hk : 0 ≤ k ∧ k < 260) (hp : p < 20) (h1 : 0 ≤ M 223 p ∧ M 223 p ≤ 1000000000000) (h2 : 0 ≤ M 224 p ∧ M 224 p ≤ 1000000000000) (hg : p < 16 → r32 (M 95 p)) (hs : -1 ≤ M 96 f ∧ M 96 f < 260) : ∃ b : Bool, fM_judges F M (f : Int) (p : Int) k = some (st_ (st_ M 225 p (smX (M 223 p) (M 224 p) (rv M f k 7))) 226 p (wyX (smX (M 223 p) (M 224 p) (rv M f k 7)) (rv M f k 5) b (M 96 f) k (rv M f k 8))) ∧ (b = true ↔ (p < 16 ∧ M 95 p ≠ -1 ∧ M 95 p ≤ k)) := by
  obtain ⟨a7, _, b7, c7⟩ := rule_k (F := F) (w := 7) hF hI hf hk (by decide)
  rw [show ((7 : Nat) : Int) = 7 from rfl] at a7
  have b71 : rv M f k 7 ≤ 100000 := b7.1
  have b72 : -1 ≤ rv M f k 7 := b7.2
  have sr := smX_r (back := rv M f k 7) h1 h2
  -- the sum
  have su : (cl1_ (if w32 (rv M f k 7) = (-1) then some (st_ M 225 p (M 223 p)) else rd_ (st_ M 225 p (M 223 p)) 223 (p : Int) 20 fun x5 => rd_ (st_ M 225 p (M 223 p)) 224 (p : Int) 20 fun x6 => wa_ (st_ M 225 p (M 223 p)) 225 (p : Int) 20 (x5 - x6) fun m7 => rd_ m7 225 (p : Int) 20 fun x8 => if w64 x8 < 0 then rd_ m7 225 (p : Int) 20 fun x9 => if w64 x9 < w64 (w32 (-rv M f k 7)) then some m7 else wa_ m7 225 (p : Int) 20 0 fun m10 => some m10 else some m7) fun m11 => (some m11 : Option bz_Mm)) = some (st_ M 225 p (smX (M 223 p) (M 224 p) (rv M f k 7))) := by
    unfold smX
    rw [r32_w c7]
    by_cases z : rv M f k 7 = -1
    · rw [if_pos z, if_pos z, cl1_s]
    · rw [if_neg z, if_neg z, rd_s hp (by decide), rd_s hp (by decide), st_ne (show (223 : Nat) ≠ 225 by decide), st_ne (show (224 : Nat) ≠ 225 by decide), wa_s hp (by decide), st_st, rd_s hp (by decide), st_eq, ud_eq, rd_s hp (by decide), st_eq, ud_eq, r64_w (x := M 223 p - M 224 p) ⟨by omega, by omega⟩, w32_id (x := -rv M f k 7) (by omega) (by omega), r64_w (x := -rv M f k 7) ⟨by omega, by omega⟩, wa_s hp (by decide), st_st]
      by_cases z2 : M 223 p - M 224 p < 0
      · rw [if_pos z2, if_pos z2]
        by_cases z3 : M 223 p - M 224 p < -rv M f k 7
        · rw [if_pos z3, if_pos z3, cl1_s]
        · rw [if_neg z3, if_neg z3, cl1_s]
      · rw [if_neg z2, if_neg z2, cl1_s]
  have su2 : ∀ kk : bz_Mm → Option bz_Mm, cl1_ (if w32 (rv M f k 7) = (-1) then some (st_ M 225 p (M 223 p)) else rd_ (st_ M 225 p (M 223 p)) 223 (p : Int) 20 fun x5 => rd_ (st_ M 225 p (M 223 p)) 224 (p : Int) 20 fun x6 => wa_ (st_ M 225 p (M 223 p)) 225 (p : Int) 20 (x5 - x6) fun m7 => rd_ m7 225 (p : Int) 20 fun x8 => if w64 x8 < 0 then rd_ m7 225 (p : Int) 20 fun x9 => if w64 x9 < w64 (w32 (-rv M f k 7)) then some m7 else wa_ m7 225 (p : Int) 20 0 fun m10 => some m10 else some m7) kk = kk (st_ M 225 p (smX (M 223 p) (M 224 p) (rv M f k 7))) := fun kk => by
    revert su
    generalize (if w32 (rv M f k 7) = (-1) then some (st_ M 225 p (M 223 p)) else rd_ (st_ M 225 p (M 223 p)) 223 (p : Int) 20 fun x5 => rd_ (st_ M 225 p (M 223 p)) 224 (p : Int) 20 fun x6 => wa_ (st_ M 225 p (M 223 p)) 225 (p : Int) 20 (x5 - x6) fun m7 => rd_ m7 225 (p : Int) 20 fun x8 => if w64 x8 < 0 then rd_ m7 225 (p : Int) 20 fun x9 => if w64 x9 < w64 (w32 (-rv M f k 7)) then some m7 else wa_ m7 225 (p : Int) 20 0 fun m10 => some m10 else some m7) = o
    intro su
    cases o with
    | none => cases su
    | some m => rw [cl1_s] at su ⊢; rw [Option.some.inj su]
  unfold fM_judges
  rw [a7, cl_s, rd_s hp (by decide), wa_s hp (by decide), su2, wa_s hp (by decide)]
  generalize hS : smX (M 223 p) (M 224 p) (rv M f k 7) = s at sr
  generalize hY : st_ (st_ M 225 p s) 226 p 0 = Y
  have yo : ∀ q, q ≠ 225 → q ≠ 226 → Y q = M q := fun q a b => by rw [← hY, st_ne b, st_ne a]
  have y225 : Y 225 p = s := by rw [← hY, st_ne (by decide), st_eq, ud_eq]
  have hIY : iv_la Y n := iv_la.c (fun q hq => yo q (by omega) (by omega)) (by rw [yo 81 (by decide) (by decide)]) hI
  have n43 : (M 81 43).toNat ≤ 6 := by have := hI.2.1; have := hI.2.2.1; omega
  have rvY : ∀ w, rv Y f k w = rv M f k w := fun w => rv_c (fun q a b => yo q (by omega) (by omega)) (by rw [yo 81 (by decide) (by decide)]) n43 f hf k w
  obtain ⟨a5, _, _, c5⟩ := rule_k (F := F) (w := 5) hF hIY hf hk (by decide)
  obtain ⟨a8, _, _, c8⟩ := rule_k (F := F) (w := 8) hF hIY hf hk (by decide)
  rw [show ((5 : Nat) : Int) = 5 from rfl, rvY] at a5
  rw [show ((8 : Nat) : Int) = 8 from rfl, rvY] at a8
  rw [rvY] at c5 c8
  have c5' := c5
  unfold r32 at c5'
  have gv : ∃ (v : Int) (b : Bool), (if w32 (p : Int) < 16 then rd_ Y 95 (p : Int) 16 fun x16 => if w32 x16 = -1 then some 0 else rd_ Y 95 (p : Int) 16 fun x17 => if w32 k < w32 x17 then some 0 else some 1 else some 0) = some v ∧ (w32 v = 0 ↔ ¬ b = true) ∧ (b = true ↔ (p < 16 ∧ M 95 p ≠ -1 ∧ M 95 p ≤ k)) := by
    rw [w32_n (by omega), w32_id (x := k) (by omega) (by omega)]
    by_cases z : p < 16
    · have r := hg z
      rw [if_pos (by omega), rd_s z (by decide), rd_s z (by decide), yo 95 (by decide) (by decide), r32_w r]
      by_cases z2 : M 95 p = -1
      · exact ⟨0, false, by rw [if_pos z2], by rw [w32_0]; simp, by simp [z2]⟩
      · rw [if_neg z2]
        by_cases z3 : k < M 95 p
        · exact ⟨0, false, by rw [if_pos z3], by rw [w32_0]; simp, by simp; intro _ _; omega⟩
        · exact ⟨1, true, by rw [if_neg z3], by rw [w32_1p]; simp, by simp; exact ⟨z, z2, by omega⟩⟩
    · exact ⟨0, false, by rw [if_neg (by omega)], by rw [w32_0]; simp, by simp; intro q; omega⟩
  obtain ⟨v, b, g1, g2, g3⟩ := gv
  have tp : ∃ v : Int, fM_isToParty F Y (f : Int) k = some v ∧ (w32 v = 0 ↔ (M 96 f = -1 ∨ k - M 96 f < rv M f k 8)) := by
    unfold fM_isToParty
    rw [rd_s hf (by decide), rd_s hf (by decide), yo 96 (by decide) (by decide), w32_id (x := M 96 f) (by omega) (by omega), a8, cl_s, r32_w c8, w32_id (x := k - M 96 f) (by omega) (by omega)]
    by_cases z : M 96 f = -1
    · exact ⟨0, by rw [if_pos z], by rw [w32_0]; simp [z]⟩
    · rw [if_neg z]
      by_cases z2 : k - M 96 f < rv M f k 8
      · exact ⟨0, by rw [if_pos z2], by rw [w32_0]; simp [z2]⟩
      · exact ⟨1, by rw [if_neg z2], by rw [w32_1p]; simp [z]; omega⟩
  obtain ⟨t, t1, t2⟩ := tp
  refine ⟨b, ?_, g3⟩
  have fin : ∀ w : Int, st_ Y 226 p w = st_ (st_ M 225 p s) 226 p w := fun w => by rw [← hY, st_st]
  have fin0 : Y = st_ (st_ M 225 p s) 226 p 0 := hY.symm
  unfold wyX
  rw [rd_s hp (by decide), y225, r64_w (x := s) ⟨by omega, by omega⟩, g1, cl1_s, rd_s hp (by decide), y225, r64_w (x := s) ⟨by omega, by omega⟩, a5, cl_s, r32_w c5, r64_w (x := rv M f k 5) ⟨by omega, by omega⟩, t1, cl_s, wa_s hp (by decide), wa_s hp (by decide), wa_s hp (by decide), fin, fin, fin]
  by_cases z1 : 0 < s
  · rw [if_pos z1, if_pos z1]
    by_cases z2 : s < rv M f k 5
    · rw [if_pos z2, if_pos z2]
    · rw [if_neg z2, if_neg z2]
      by_cases z3 : b = true
      · rw [if_neg (fun q => g2.mp q z3), if_pos z3]
        by_cases z4 : M 96 f = -1
        · rw [if_pos (t2.mpr (Or.inl z4)), if_pos z4]
        · by_cases z5 : k - M 96 f < rv M f k 8
          · rw [if_pos (t2.mpr (Or.inr z5)), if_neg z4, if_pos z5]
          · rw [if_neg (fun q => by rcases t2.mp q with w | w <;> omega), if_neg z4, if_neg z5]
      · rw [if_pos (g2.mpr z3), if_neg z3, fin0]
  · rw [if_neg z1, if_neg z1, fin0]
