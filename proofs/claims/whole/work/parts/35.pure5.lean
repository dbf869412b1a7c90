/-! the latest telling in the reference -/
theorem la_0 {S : Nat → Prop} {d : Nat → Int} : la_is S d 0 (-1) := Or.inl ⟨rfl, fun t h => absurd h (by omega)⟩
theorem la_no {S : Nat → Prop} {d : Nat → Int} {i : Nat} {r : Int} (h : la_is S d i r) (hn : ¬ S i) : la_is S d (i + 1) r := by
  rcases h with ⟨h1, h2⟩ | ⟨t, h1, h2, h3, h4⟩
  · exact Or.inl ⟨h1, fun t ht => by by_cases e : t = i; (· rw [e]; exact hn); exact h2 t (by omega)⟩
  · exact Or.inr ⟨t, by omega, h2, h3, fun u hu hS => by by_cases e : u = i; (· rw [e] at hS; exact absurd hS hn); exact h4 u (by omega) hS⟩
theorem la_new {S : Nat → Prop} {d : Nat → Int} {i : Nat} {r : Int} (h : la_is S d i r) (hy : S i) (hr : r = -1) : la_is S d (i + 1) (i : Int) := by
  rcases h with ⟨h1, h2⟩ | ⟨t, h1, h2, h3, h4⟩
  · exact Or.inr ⟨i, by omega, rfl, hy, fun u hu hS => by by_cases e : u = i; (· rw [e]; right; omega); exact absurd hS (h2 u (by omega))⟩
  · omega
theorem la_ge {S : Nat → Prop} {d : Nat → Int} {i t : Nat} (h : la_is S d i (t : Int)) (hy : S i) (hd : ¬ d i < d t) : la_is S d (i + 1) (i : Int) := by
  rcases h with ⟨h1, h2⟩ | ⟨t2, h1, h2, h3, h4⟩
  · omega
  · have : t2 = t := by omega
    subst this
    exact Or.inr ⟨i, by omega, rfl, hy, fun u hu hS => by
      by_cases e : u = i
      · rw [e]; right; omega
      · rcases h4 u (by omega) hS with a | a <;> omega⟩
theorem la_lt {S : Nat → Prop} {d : Nat → Int} {i t : Nat} (h : la_is S d i (t : Int)) (hd : d i < d t) : la_is S d (i + 1) (t : Int) := by
  rcases h with ⟨h1, h2⟩ | ⟨t2, h1, h2, h3, h4⟩
  · omega
  · have : t2 = t := by omega
    subst this
    exact Or.inr ⟨t2, by omega, rfl, h3, fun u hu hS => by
      by_cases e : u = i
      · rw [e]; left; exact hd
      · exact h4 u (by omega) hS⟩
theorem la_nat {S : Nat → Prop} {d : Nat → Int} {i : Nat} {r : Int} (h : la_is S d i r) (hr : r ≠ -1) : ∃ t : Nat, t < i ∧ r = (t : Int) := by
  rcases h with ⟨h1, h2⟩ | ⟨t, h1, h2, h3, h4⟩
  · exact absurd h1 hr
  · exact ⟨t, h1, h2⟩
theorem la_M {F n : Nat} {M : bz_Mm} {s nr day k : Int} (h1 : r32 s) (h2 : r32 nr) (h3 : r32 day) (h4 : r32 k) (hn : M 81 12 = n) (hc : n ≤ 407) (hr : ∀ t, t < n → r32 (M 83 t) ∧ r32 (M 84 t) ∧ r32 (M 87 t) ∧ r32 (M 85 t)) : ∀ (m fuel i : Nat) (best : Int), m + i = n → m < fuel → la_is (la_S (M 83) (M 84) (M 85) (M 87) s nr day k) (M 85) i best → ∃ r, M_telling_L6 F fuel M s nr day k (i : Int) best = some r ∧ la_is (la_S (M 83) (M 84) (M 85) (M 87) s nr day k) (M 85) n r := by
  intro m
  induction m with
  | zero =>
    intro fuel i best hm hf hP
    obtain ⟨fuel, rfl⟩ : ∃ j, fuel = j + 1 := ⟨fuel - 1, by omega⟩
    have hi : i = n := by omega
    subst hi
    refine ⟨best, ?_, hP⟩
    unfold M_telling_L6
    rw [hn, if_neg (Int.lt_irrefl _)]
  | succ m ih =>
    intro fuel i best hm hf hP
    obtain ⟨fuel, rfl⟩ : ∃ j, fuel = j + 1 := ⟨fuel - 1, by omega⟩
    have hi : i < n := by omega
    obtain ⟨r1, r2, r3, r4⟩ := hr i hi
    have i4 : i < 407 := by omega
    have f1 : m + (i + 1) = n := by omega
    have f2 : m < fuel := by omega
    have f3 : (i : Int) < (n : Int) := by omega
    have i5 : i ≤ 2147483647 := by omega
    have n5 : n ≤ 2147483647 := by omega
    have c1 : (i : Int) + 1 = ((i + 1 : Nat) : Int) := by omega
    have go : ∀ b, la_is (la_S (M 83) (M 84) (M 85) (M 87) s nr day k) (M 85) (i + 1) b → ∃ r, M_telling_L6 F fuel M s nr day k ((i : Int) + 1) b = some r ∧ la_is (la_S (M 83) (M 84) (M 85) (M 87) s nr day k) (M 85) n r := fun b hb => by
      rw [c1]; exact ih fuel (i + 1) b f1 f2 hb
    have pick : la_S (M 83) (M 84) (M 85) (M 87) s nr day k i → ∃ r, (if w32 best = (-1) then (M_telling_L6 F fuel M s nr day k ((i : Int) + 1) (i : Int)) else (rd_ M 85 (i : Int) 407 fun x8 => rd_ M 85 best 407 fun x9 => if w32 x8 < w32 x9 then (M_telling_L6 F fuel M s nr day k ((i : Int) + 1) best) else (M_telling_L6 F fuel M s nr day k ((i : Int) + 1) (i : Int)))) = some r ∧ la_is (la_S (M 83) (M 84) (M 85) (M 87) s nr day k) (M 85) n r := fun hS => by
      by_cases hb : best = -1
      · rw [if_pos (by rw [hb]; decide)]
        exact go _ (la_new hP hS hb)
      · obtain ⟨t, ht, rfl⟩ := la_nat hP hb
        have t5 : t ≤ 2147483647 := by omega
        have t4 : t < 407 := by omega
        have t6 : ¬ (t : Int) = -1 := by omega
        have rt := (hr t (by omega)).2.2.2
        rw [if_neg (by rw [w32_n t5]; exact t6), rd_s i4 (by decide), rd_s t4 (by decide), r32_w r4, r32_w rt]
        by_cases hd : M 85 i < M 85 t
        · rw [if_pos hd]; exact go _ (la_lt hP hd)
        · rw [if_neg hd]; exact go _ (la_ge hP hS hd)
    unfold M_telling_L6
    rw [hn, w32_n i5, w32_n n5, if_pos f3, rd_s i4 (by decide), r32_w r1, r32_w h1]
    by_cases e1 : M 83 i = s
    · rw [if_pos e1, rd_s i4 (by decide), r32_w r2, r32_w h2]
      by_cases e2 : M 84 i = nr
      · rw [if_pos e2, rd_s i4 (by decide), r32_w r3, r32_w h4]
        by_cases e3 : k < M 87 i
        · rw [if_pos e3]; exact go _ (la_no hP (fun hS => absurd e3 (Int.not_lt.mpr hS.2.2.1)))
        · rw [if_neg e3, rd_s i4 (by decide), r32_w r4, r32_w h3]
          by_cases e4 : day < M 85 i
          · rw [if_pos e4]
            refine go _ (la_no hP (fun hS => ?_))
            rcases hS.2.2.2 with a | a
            · exact absurd e4 (by rw [a]; exact Int.lt_irrefl _)
            · exact absurd (Int.lt_trans e4 a.2) (Int.lt_irrefl _)
          · rw [if_neg e4]
            by_cases e5 : 1 < s
            · rw [if_pos e5, rd_s i4 (by decide), r32_w r4]
              by_cases e6 : M 85 i = day
              · rw [if_pos e6]; exact pick ⟨e1, e2, Int.not_lt.mp e3, Or.inl e6⟩
              · rw [if_neg e6]
                refine go _ (la_no hP (fun hS => ?_))
                rcases hS.2.2.2 with a | a
                · exact e6 a
                · exact absurd e5 (Int.not_lt.mpr a.1)
            · rw [if_neg e5]
              refine pick ⟨e1, e2, Int.not_lt.mp e3, ?_⟩
              by_cases e6 : M 85 i = day
              · exact Or.inl e6
              · exact Or.inr ⟨Int.not_lt.mp e5, Int.lt_iff_le_and_ne.mpr ⟨Int.not_lt.mp e4, e6⟩⟩
      · rw [if_neg e2]; exact go _ (la_no hP (fun hS => e2 hS.2.1))
    · rw [if_neg e1]; exact go _ (la_no hP (fun hS => e1 hS.1))
theorem uM_telling {F n : Nat} {M : bz_Mm} {s nr day k : Int} (hF : 407 < F) (h1 : r32 s) (h2 : r32 nr) (h3 : r32 day) (h4 : r32 k) (hn : M 81 12 = n) (hc : n ≤ 407) (hr : ∀ t, t < n → r32 (M 83 t) ∧ r32 (M 84 t) ∧ r32 (M 87 t) ∧ r32 (M 85 t)) : ∃ r, fM_telling F M s nr day k = some r ∧ la_is (la_S (M 83) (M 84) (M 85) (M 87) s nr day k) (M 85) n r := by
  obtain ⟨r, a, b⟩ := la_M (F := F) h1 h2 h3 h4 hn hc hr n F 0 (-1) (by omega) (by omega) la_0
  refine ⟨r, ?_, b⟩
  unfold fM_telling
  have a2 : M_telling_L6 F F M s nr day k 0 (-1) = some r := a
  rw [a2, cl1_s]
theorem uUTe_latest_8 {F n : Nat} {M : bz_Mm} {s nr day k : Int} (hF : 400 < F) (hs : 0 ≤ s ∧ s ≤ 3) (h2 : r32 nr) (h3 : r32 day) (h4 : r32 k) (hn : M 9 2 = n) (hc : n ≤ 400) (hb : by_ok (M 10) (M 11) n) (hr : ∀ t, t < n → r32 (M 12 t) ∧ r32 (M 13 t) ∧ r32 (M 15 t)) : ∃ r, fUTe_latest_8 F M s nr day k = some r ∧ la_is (la_S (M 12) (M 13) (M 10) (M 15) s nr day k) (M 10) n r := by
  have h1 : r32 s := ⟨by omega, by omega⟩
  have h5 : (if s = 0 then some (1 : Int) else if s = 1 then some 1 else some 0) = some (if s ≤ 1 then 1 else 0) := by
    by_cases e0 : s = 0
    · rw [if_pos e0, if_pos (by omega)]
    · by_cases e1 : s = 1
      · rw [if_neg e0, if_pos e1, if_pos (by omega)]
      · rw [if_neg e0, if_neg e1, if_neg (by omega)]
  obtain ⟨r, a, b⟩ := la_U (F := F) h1 h2 h3 h4 rfl hn hc hb hr n F 0 (-1) (by omega) (by omega) (Or.inl ⟨rfl, fun j h => absurd h (by omega)⟩)
  refine ⟨r, ?_, b⟩
  unfold fUTe_latest_8
  have a2 : UTe_latest_8_L22 F F M (if s ≤ 1 then 1 else 0) s nr day k 0 (-1) = some r := a
  rw [r32_w h1, h5, cl1_s, a2, cl1_s]
