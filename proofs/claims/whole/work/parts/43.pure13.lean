/-! bytes: the class keeps 0..255, the reference signed ones -/
def sb (x : Int) : Int := if x < 128 then x else x - 256
theorem by_bv (v : BitVec 32) (s : Nat) (h : s ≤ 24) : (v.sshiftRight s).toNat % 256 = (v >>> s).toNat % 256 := by
  have e : (v.sshiftRight s).setWidth 8 = (v >>> s).setWidth 8 := by
    ext i hi
    simp only [BitVec.getElem_setWidth, BitVec.getLsbD_sshiftRight, BitVec.getLsbD_ushiftRight]
    rw [if_pos (by omega)]
    simp
    omega
  have := congrArg BitVec.toNat e
  rw [BitVec.toNat_setWidth, BitVec.toNat_setWidth] at this
  exact this
theorem by_a (y : Int32) : ia_ y.toInt 255 = ((y.toBitVec.toNat % 256 : Nat) : Int) := by
  unfold ia_
  rw [Int32.ofInt_toInt]
  have e : (y &&& Int32.ofInt 255).toBitVec.toNat = y.toBitVec.toNat % 256 := by
    rw [Int32.toBitVec_and, BitVec.toNat_and]
    exact Nat.and_two_pow_sub_one_eq_mod _ 8
  have e2 : (y &&& Int32.ofInt 255).toInt = (y &&& Int32.ofInt 255).toBitVec.toInt := rfl
  rw [e2, BitVec.toInt_eq_toNat_cond, e, if_pos (by omega)]
theorem by_b (z : Int32) : i2b_ z.toInt = sb ((z.toBitVec.toNat % 256 : Nat) : Int) := by
  unfold i2b_ sb
  rw [Int32.ofInt_toInt, Int8.toInt_toInt32, Int32.toInt_toInt8]
  have e2 : z.toInt = z.toBitVec.toInt := rfl
  rw [e2, BitVec.toInt_eq_toNat_cond]
  unfold Int.bmod
  have := z.toBitVec.isLt
  dsimp only
  repeat' split
  all_goals omega
theorem by_rel (x : Int) (m : Nat) (h : m < 4) : ∃ b : Int, (0 ≤ b ∧ b ≤ 255) ∧ ia_ (sr_ x (8 * m : Nat)) 255 = b ∧ i2b_ (us_ x (8 * m : Nat)) = sb b := by
  unfold sr_ us_
  rw [by_a, by_b, Int32.toBitVec_shiftRight, UInt32.toBitVec_toInt32, UInt32.toBitVec_shiftRight, Int32.toBitVec_toUInt32]
  generalize (Int32.ofInt x).toBitVec = v
  have k : ∀ s : Nat, s ≤ 24 → ∃ b : Int, (0 ≤ b ∧ b ≤ 255) ∧ (((v.sshiftRight s).toNat % 256 : Nat) : Int) = b ∧ sb (((v >>> s).toNat % 256 : Nat) : Int) = sb b := fun s hs => by
    rw [by_bv v s hs]
    exact ⟨_, ⟨by omega, by omega⟩, rfl, rfl⟩
  exact match m, h with
  | 0, _ => k 0 (by decide)
  | 1, _ => k 8 (by decide)
  | 2, _ => k 16 (by decide)
  | 3, _ => k 24 (by decide)
def bt (x : Int) (i : Nat) : Int := ia_ (sr_ x ((8 * (3 - i) : Nat) : Int)) 255
def apU (M : bz_Mm) (a : Int) (n : Nat) : bz_Mm := fun b => if b = 51 then (fun j => if n ≤ j ∧ j < n + 4 then bt a (j - n) else M 51 j) else if b = 50 then ud (M 50) 2 ((n : Int) + 4) else M b
def apM (M : bz_Mm) (a : Int) (n : Nat) : bz_Mm := fun b => if b = 110 then (fun j => if n ≤ j ∧ j < n + 4 then sb (bt a (j - n)) else M 110 j) else if b = 81 then ud (M 81) 37 ((n : Int) + 4) else M b
theorem bt_r (x : Int) (i : Nat) : (0 ≤ bt x i ∧ bt x i ≤ 255) ∧ i2b_ (us_ x ((8 * (3 - i) : Nat) : Int)) = sb (bt x i) := by
  obtain ⟨b, h1, h2, h3⟩ := by_rel x (3 - i) (by omega)
  unfold bt
  rw [h2]
  exact ⟨h1, h3⟩
theorem uUX_append {F n : Nat} {M : bz_Mm} {a : Int} (hF : 5 ≤ F) (hn : M 50 2 = n) (hc : n + 4 ≤ 600) : fUX_append F M a = some (apU M a n) := by
  obtain ⟨F0, rfl⟩ : ∃ j, F = j + 5 := ⟨F - 5, by omega⟩
  have q0 : ia_ (sr_ a 24) 255 = bt a 0 := rfl
  have q1 : ia_ (sr_ a 16) 255 = bt a 1 := rfl
  have q2 : ia_ (sr_ a 8) 255 = bt a 2 := rfl
  have q3 : ia_ (sr_ a 0) 255 = bt a 3 := rfl
  have c0 : (n : Int) + 1 = ((n + 1 : Nat) : Int) := by omega
  have c1 : ((n + 1 : Nat) : Int) + 1 = ((n + 2 : Nat) : Int) := by omega
  have c2 : ((n + 2 : Nat) : Int) + 1 = ((n + 3 : Nat) : Int) := by omega
  have c3 : ((n + 3 : Nat) : Int) + 1 = ((n + 4 : Nat) : Int) := by omega
  have m5 : ∀ (X : bz_Mm) (j : Nat) (v : Int), st_ X 51 j v 50 = X 50 := fun X j v => st_ne (by decide)
  have l0 : w32 24 < 0 ↔ False := by decide
  have l1 : w32 16 < 0 ↔ False := by decide
  have l2 : w32 8 < 0 ↔ False := by decide
  have l3 : w32 0 < 0 ↔ False := by decide
  have l4 : w32 (-8) < 0 ↔ True := by decide
  unfold fUX_append
  simp (disch := omega) only [UX_append_L3, l0, l1, l2, l3, l4, if_false, if_true, hn, w32_id (x := ((n : Nat) : Int)), w32_id (x := ((n + 1 : Nat) : Int)), w32_id (x := ((n + 2 : Nat) : Int)), w32_id (x := ((n + 3 : Nat) : Int)), wa_i, wf_s, m5, st_eq, ud_eq, c0, c1, c2, c3, Int.toNat_natCast, Int.reduceAdd, Int.reduceNeg, q0, q1, q2, q3, cl1_s]
  rw [if_pos (by omega), if_pos (by omega), if_pos (by omega), if_pos (by omega), cl1_s]
  congr 1
  funext b j
  unfold apU
  by_cases e1 : b = 51
  · subst e1
    rw [if_pos rfl]
    simp only [st_ne (show (51 : Nat) ≠ 50 by decide), st_eq]
    by_cases f0 : j = n
    · subst f0; rw [ud_ne (by omega), ud_ne (by omega), ud_ne (by omega), ud_eq, if_pos (by omega), Nat.sub_self]
    · by_cases f1 : j = n + 1
      · subst f1; rw [ud_ne (by omega), ud_ne (by omega), ud_eq, if_pos (by omega), show n + 1 - n = 1 by omega]
      · by_cases f2 : j = n + 2
        · subst f2; rw [ud_ne (by omega), ud_eq, if_pos (by omega), show n + 2 - n = 2 by omega]
        · by_cases f3 : j = n + 3
          · subst f3; rw [ud_eq, if_pos (by omega), show n + 3 - n = 3 by omega]
          · rw [ud_ne f3, ud_ne f2, ud_ne f1, ud_ne f0, if_neg (by omega)]
  · rw [if_neg e1]
    by_cases e2 : b = 50
    · subst e2
      rw [if_pos rfl]
      simp only [st_ne (show (50 : Nat) ≠ 51 by decide), st_eq]
      by_cases f : j = 2
      · subst f; rw [ud_eq, ud_eq]; omega
      · rw [ud_ne f, ud_ne f, ud_ne f, ud_ne f, ud_ne f]
    · rw [if_neg e2]
      simp only [st_ne e1, st_ne e2]
theorem uM_feeds0 {F n : Nat} {M : bz_Mm} {a : Int} (hF : 5 ≤ F) (hn : M 81 37 = n) (hc : n + 4 ≤ 600) : fM_feeds0 F M a = some (apM M a n) := by
  obtain ⟨F0, rfl⟩ : ∃ j, F = j + 5 := ⟨F - 5, by omega⟩
  have q0 : i2b_ (us_ a 24) = sb (bt a 0) := (bt_r a 0).2
  have q1 : i2b_ (us_ a 16) = sb (bt a 1) := (bt_r a 1).2
  have q2 : i2b_ (us_ a 8) = sb (bt a 2) := (bt_r a 2).2
  have q3 : i2b_ (us_ a 0) = sb (bt a 3) := (bt_r a 3).2
  have c0 : (n : Int) + 1 = ((n + 1 : Nat) : Int) := by omega
  have c1 : ((n + 1 : Nat) : Int) + 1 = ((n + 2 : Nat) : Int) := by omega
  have c2 : ((n + 2 : Nat) : Int) + 1 = ((n + 3 : Nat) : Int) := by omega
  have c3 : ((n + 3 : Nat) : Int) + 1 = ((n + 4 : Nat) : Int) := by omega
  have m5 : ∀ (X : bz_Mm) (j : Nat) (v : Int), st_ X 110 j v 81 = X 81 := fun X j v => st_ne (by decide)
  have l0 : w32 3 < 0 ↔ False := by decide
  have l1 : w32 2 < 0 ↔ False := by decide
  have l2 : w32 1 < 0 ↔ False := by decide
  have l3 : w32 0 < 0 ↔ False := by decide
  have l4 : w32 (-1) < 0 ↔ True := by decide
  unfold fM_feeds0
  simp (disch := omega) only [M_feeds0_L2, l0, l1, l2, l3, l4, if_false, if_true, hn, wa_i, wf_s, m5, st_eq, ud_eq, c0, c1, c2, c3, Int.toNat_natCast, Int.reduceAdd, Int.reduceNeg, Int.reduceMul, q0, q1, q2, q3, cl1_s]
  congr 1
  funext b j
  unfold apM
  by_cases e1 : b = 110
  · subst e1
    rw [if_pos rfl]
    simp only [st_ne (show (110 : Nat) ≠ 81 by decide), st_eq]
    by_cases f0 : j = n
    · subst f0; rw [ud_ne (by omega), ud_ne (by omega), ud_ne (by omega), ud_eq, if_pos (by omega), Nat.sub_self]
    · by_cases f1 : j = n + 1
      · subst f1; rw [ud_ne (by omega), ud_ne (by omega), ud_eq, if_pos (by omega), show n + 1 - n = 1 by omega]
      · by_cases f2 : j = n + 2
        · subst f2; rw [ud_ne (by omega), ud_eq, if_pos (by omega), show n + 2 - n = 2 by omega]
        · by_cases f3 : j = n + 3
          · subst f3; rw [ud_eq, if_pos (by omega), show n + 3 - n = 3 by omega]
          · rw [ud_ne f3, ud_ne f2, ud_ne f1, ud_ne f0, if_neg (by omega)]
  · rw [if_neg e1]
    by_cases e2 : b = 81
    · subst e2
      rw [if_pos rfl]
      simp only [st_ne (show (81 : Nat) ≠ 110 by decide), st_eq]
      by_cases f : j = 37
      · subst f; rw [ud_eq, ud_eq]; omega
      · rw [ud_ne f, ud_ne f, ud_ne f, ud_ne f, ud_ne f]
    · rw [if_neg e2]
      simp only [st_ne e1, st_ne e2]
/-! feed -/
def iv_tx (M : bz_Mm) (n : Nat) : Prop := M 50 2 = n ∧ M 81 37 = n ∧ n ≤ 600 ∧ ∀ j, j < n → (0 ≤ M 51 j ∧ M 51 j ≤ 255) ∧ M 110 j = sb (M 51 j)
def apU5 (M : bz_Mm) (a b c d e : Int) (n : Nat) : bz_Mm := apU (apU (apU (apU (apU M a n) b (n + 4)) c (n + 8)) d (n + 12)) e (n + 16)
def apM5 (M : bz_Mm) (a b c d e : Int) (n : Nat) : bz_Mm := apM (apM (apM (apM (apM M a n) b (n + 4)) c (n + 8)) d (n + 12)) e (n + 16)
theorem apU_2 (M : bz_Mm) (a : Int) (n : Nat) : apU M a n 50 2 = ((n + 4 : Nat) : Int) := by
  unfold apU; rw [if_neg (by decide), if_pos rfl, ud_eq]; omega
theorem apM_2 (M : bz_Mm) (a : Int) (n : Nat) : apM M a n 81 37 = ((n + 4 : Nat) : Int) := by
  unfold apM; rw [if_neg (by decide), if_pos rfl, ud_eq]; omega
theorem apU_o {M : bz_Mm} {a : Int} {n b : Nat} (h : b ≠ 50) (h2 : b ≠ 51) : apU M a n b = M b := by
  unfold apU; rw [if_neg h2, if_neg h]
theorem apM_o {M : bz_Mm} {a : Int} {n b : Nat} (h : b ≠ 81) (h2 : b ≠ 110) : apM M a n b = M b := by
  unfold apM; rw [if_neg h2, if_neg h]
theorem apM_p {M : bz_Mm} {a : Int} {n j : Nat} (h : j ≠ 37) : apM M a n 81 j = M 81 j := by
  unfold apM; rw [if_neg (by decide), if_pos rfl, ud_ne h]
theorem apU_p {M : bz_Mm} {a : Int} {n j : Nat} (h : j ≠ 2) : apU M a n 50 j = M 50 j := by
  unfold apU; rw [if_neg (by decide), if_pos rfl, ud_ne h]
theorem ap_j {M M2 : bz_Mm} {a : Int} {n : Nat} (h : ∀ j, j < n → (0 ≤ M 51 j ∧ M 51 j ≤ 255) ∧ M2 110 j = sb (M 51 j)) : ∀ j, j < n + 4 → (0 ≤ apU M a n 51 j ∧ apU M a n 51 j ≤ 255) ∧ apM M2 a n 110 j = sb (apU M a n 51 j) := by
  intro j hj
  have e1 : apU M a n 51 j = if n ≤ j ∧ j < n + 4 then bt a (j - n) else M 51 j := rfl
  have e2 : apM M2 a n 110 j = if n ≤ j ∧ j < n + 4 then sb (bt a (j - n)) else M2 110 j := rfl
  rw [e1, e2]
  by_cases c : n ≤ j ∧ j < n + 4
  · rw [if_pos c, if_pos c]; exact ⟨(bt_r a (j - n)).1, rfl⟩
  · rw [if_neg c, if_neg c]; exact h j (by omega)
theorem uU_feed {F n : Nat} {M : bz_Mm} {a b c d e : Int} (hF : 5 ≤ F) (hn : M 50 2 = n) (hc : n ≤ 600) : fU_feed F M a b c d e = some (if n + 20 ≤ 600 then (((n + 20 : Nat) : Int), apU5 M a b c d e n) else (-1, M)) := by
  unfold fU_feed
  rw [hn, w32_id (by omega) (by omega)]
  by_cases g : n + 20 ≤ 600
  · rw [if_neg (by omega), if_pos g, uUX_append hF hn (by omega), cl_s, uUX_append hF (apU_2 _ _ _) (by omega), cl_s, uUX_append hF (apU_2 _ _ _) (by omega), cl_s, uUX_append hF (apU_2 _ _ _) (by omega), cl_s, uUX_append hF (apU_2 _ _ _) (by omega), cl_s, apU_2]
    unfold apU5
    exact Eq.refl _
  · rw [if_pos (by omega), if_neg g]
theorem uM_feed {F n : Nat} {M : bz_Mm} {a b c d e : Int} (hF : 5 ≤ F) (hn : M 81 37 = n) (hc : n ≤ 600) : fM_feed F M a b c d e = some (if n + 20 ≤ 600 then (((n + 20 : Nat) : Int), apM5 M a b c d e n) else (-1, M)) := by
  unfold fM_feed
  rw [hn, w32_id (by omega) (by omega)]
  by_cases g : n + 20 ≤ 600
  · rw [if_neg (by omega), if_pos g, uM_feeds0 hF hn (by omega), cl_s, uM_feeds0 hF (apM_2 _ _ _) (by omega), cl_s, uM_feeds0 hF (apM_2 _ _ _) (by omega), cl_s, uM_feeds0 hF (apM_2 _ _ _) (by omega), cl_s, uM_feeds0 hF (apM_2 _ _ _) (by omega), cl_s, apM_2]
    unfold apM5
    exact Eq.refl _
  · rw [if_pos (by omega), if_neg g]
theorem ap5_iv {M : bz_Mm} {a b c d e : Int} {n : Nat} (h : iv_tx M n) (g : n + 20 ≤ 600) : iv_tx (apM5 (apU5 M a b c d e n) a b c d e n) (n + 20) := by
  obtain ⟨h1, h2, h3, h4⟩ := h
  refine ⟨?_, ?_, g, ?_⟩
  · unfold apM5
    rw [apM_o (by decide) (by decide), apM_o (by decide) (by decide), apM_o (by decide) (by decide), apM_o (by decide) (by decide), apM_o (by decide) (by decide)]
    unfold apU5; rw [apU_2]
  · unfold apM5; rw [apM_2]
  · have e0 : apM5 (apU5 M a b c d e n) a b c d e n 51 = apU5 M a b c d e n 51 := by
      unfold apM5
      rw [apM_o (by decide) (by decide), apM_o (by decide) (by decide), apM_o (by decide) (by decide), apM_o (by decide) (by decide), apM_o (by decide) (by decide)]
    have e1 : apU5 M a b c d e n 110 = M 110 := by
      unfold apU5
      rw [apU_o (by decide) (by decide), apU_o (by decide) (by decide), apU_o (by decide) (by decide), apU_o (by decide) (by decide), apU_o (by decide) (by decide)]
    rw [e0]
    exact ap_j (ap_j (ap_j (ap_j (ap_j (M2 := apU5 M a b c d e n) (by rw [e1]; exact h4)))))
