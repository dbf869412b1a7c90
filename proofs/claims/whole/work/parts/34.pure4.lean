/-! the latest telling: the same in the order by day (class) and in the order of making (reference) -/
theorem w32_n {n : Nat} (h : n ≤ 2147483647) : w32 (n : Int) = (n : Int) := w32_id (by omega) (by omega)
theorem r32_d {x : Int} (h : 0 ≤ x ∧ x < 260) : r32 x := ⟨by omega, by omega⟩
theorem cl1_s {α β : Type} (a : β) (k : β → Option α) : cl1_ (some a) k = k a := rfl
/-- telling t is of s, nr, made by k, and counts on day -/
def la_S (sb nu dd md : Nat → Int) (s nr day k : Int) (t : Nat) : Prop := sb t = s ∧ nu t = nr ∧ md t ≤ k ∧ (dd t = day ∨ (s ≤ 1 ∧ dd t < day))
def la_is (S : Nat → Prop) (d : Nat → Int) (n : Nat) (r : Int) : Prop := (r = -1 ∧ ∀ t, t < n → ¬ S t) ∨ ∃ t : Nat, t < n ∧ r = t ∧ S t ∧ ∀ u, u < n → S u → d u < d t ∨ (d u = d t ∧ u ≤ t)
theorem la_one {S : Nat → Prop} {d : Nat → Int} {n : Nat} {r q : Int} (h : la_is S d n r) (g : la_is S d n q) : r = q := by
  rcases h with ⟨h1, h2⟩ | ⟨t, h1, h2, h3, h4⟩
  · rcases g with ⟨g1, g2⟩ | ⟨u, g1, g2, g3, g4⟩
    · omega
    · exact absurd g3 (h2 u g1)
  · rcases g with ⟨g1, g2⟩ | ⟨u, g1, g2, g3, g4⟩
    · exact absurd h3 (g2 t h1)
    · rcases h4 u g1 g3 with a | a <;> rcases g4 t h1 h3 with b | b <;> omega
/-- the last of a prefix of the order -/
def la_P (S : Nat → Prop) (o : Nat → Int) (i : Nat) (r : Int) : Prop := (r = -1 ∧ ∀ j, j < i → ¬ S (o j).toNat) ∨ ∃ j, j < i ∧ r = o j ∧ S (o j).toNat ∧ ∀ j2, j < j2 → j2 < i → ¬ S (o j2).toNat
theorem la_Pn {S : Nat → Prop} {o : Nat → Int} {i : Nat} {r : Int} (h : la_P S o i r) (hn : ¬ S (o i).toNat) : la_P S o (i + 1) r := by
  rcases h with ⟨h1, h2⟩ | ⟨j, h1, h2, h3, h4⟩
  · exact Or.inl ⟨h1, fun j hj => by by_cases e : j = i; (· rw [e]; exact hn); exact h2 j (by omega)⟩
  · exact Or.inr ⟨j, by omega, h2, h3, fun j2 a b => by by_cases e : j2 = i; (· rw [e]; exact hn); exact h4 j2 a (by omega)⟩
theorem la_Py {S : Nat → Prop} {o : Nat → Int} {i : Nat} (hy : S (o i).toNat) : la_P S o (i + 1) (o i) := Or.inr ⟨i, by omega, rfl, hy, fun j2 a b => by omega⟩
theorem la_Pe {S : Nat → Prop} {d o : Nat → Int} {n : Nat} {r : Int} (hb : by_ok d o n) (h : la_P S o n r) : la_is S d n r := by
  obtain ⟨b1, b2, b3, b4⟩ := hb
  rcases h with ⟨h1, h2⟩ | ⟨j, h1, h2, h3, h4⟩
  · refine Or.inl ⟨h1, fun t ht => ?_⟩
    obtain ⟨i, hi, e⟩ := b3 t ht
    have := h2 i hi
    rw [e, Int.toNat_natCast] at this; exact this
  · have hj := b1 j h1
    refine Or.inr ⟨(o j).toNat, by omega, by omega, h3, fun u hu hS => ?_⟩
    obtain ⟨i, hi, e⟩ := b3 u hu
    have hu2 : u = (o i).toNat := by rw [e]; exact (Int.toNat_natCast u).symm
    have hi2 := b1 i hi
    by_cases hij : i = j
    · rw [hu2, hij]; right; omega
    · by_cases hlt : j < i
      · rw [hu2] at hS; exact absurd hS (h4 i hlt hi)
      · rcases b2 i j (by omega) h1 with a | a
        · left; rw [hu2]; exact a
        · right; rw [hu2]; exact ⟨a.1, by omega⟩
theorem la_U {F n : Nat} {M : bz_Mm} {s nr day k l5 : Int} (h1 : r32 s) (h2 : r32 nr) (h3 : r32 day) (h4 : r32 k) (h5 : l5 = if s ≤ 1 then 1 else 0) (hn : M 9 2 = n) (hc : n ≤ 400) (hb : by_ok (M 10) (M 11) n) (hr : ∀ t, t < n → r32 (M 12 t) ∧ r32 (M 13 t) ∧ r32 (M 15 t)) : ∀ (m fuel i : Nat) (best : Int), m + i = n → m < fuel → la_P (la_S (M 12) (M 13) (M 10) (M 15) s nr day k) (M 11) i best → ∃ r, UTe_latest_8_L22 F fuel M l5 s nr day k (i : Int) best = some r ∧ la_is (la_S (M 12) (M 13) (M 10) (M 15) s nr day k) (M 10) n r := by
  intro m
  induction m with
  | zero =>
    intro fuel i best hm hf hP
    obtain ⟨fuel, rfl⟩ : ∃ j, fuel = j + 1 := ⟨fuel - 1, by omega⟩
    have hi : i = n := by omega
    subst hi
    refine ⟨best, ?_, la_Pe hb hP⟩
    unfold UTe_latest_8_L22
    rw [hn, if_neg (by omega)]
  | succ m ih =>
    intro fuel i best hm hf hP
    obtain ⟨fuel, rfl⟩ : ∃ j, fuel = j + 1 := ⟨fuel - 1, by omega⟩
    have hi : i < n := by omega
    have ho := hb.1 i hi
    obtain ⟨t, ht⟩ : ∃ t : Nat, M 11 i = (t : Int) := ⟨(M 11 i).toNat, by omega⟩
    have htn : t < n := by omega
    have htt : (M 11 i).toNat = t := by omega
    obtain ⟨r1, r2, r3⟩ := hr t htn
    have hd := hb.2.2.2 t htn
    have i4 : i < 400 := by omega
    have t4 : t < 400 := by omega
    have f1 : m + (i + 1) = n := by omega
    have f2 : m < fuel := by omega
    have f3 : (i : Int) < (n : Int) := by omega
    have i5 : i ≤ 2147483647 := by omega
    have n5 : n ≤ 2147483647 := by omega
    have c1 : (i : Int) + 1 = ((i + 1 : Nat) : Int) := by omega
    have no : ¬ la_S (M 12) (M 13) (M 10) (M 15) s nr day k t → ∃ r, UTe_latest_8_L22 F fuel M l5 s nr day k ((i : Int) + 1) best = some r ∧ la_is (la_S (M 12) (M 13) (M 10) (M 15) s nr day k) (M 10) n r := fun hS => by
      rw [c1]; exact ih fuel (i + 1) best f1 f2 (la_Pn hP (by rw [htt]; exact hS))
    have yes : la_S (M 12) (M 13) (M 10) (M 15) s nr day k t → ∃ r, UTe_latest_8_L22 F fuel M l5 s nr day k ((i : Int) + 1) (t : Int) = some r ∧ la_is (la_S (M 12) (M 13) (M 10) (M 15) s nr day k) (M 10) n r := fun hS => by
      rw [c1, ← ht]; exact ih fuel (i + 1) (M 11 i) f1 f2 (la_Py (by rw [htt]; exact hS))
    unfold UTe_latest_8_L22
    rw [hn, w32_n i5, w32_n n5, if_pos f3, rd_s i4 (by decide), ht, rd_s t4 (by decide), r32_w (r32_d hd), r32_w h3]
    have hv : ∃ v : Int, (if M 10 t = day then some (1 : Int) else if w32 l5 = 0 then some 0 else if M 10 t < day then some 1 else some 0) = some v ∧ (w32 v = 0 ↔ ¬ (M 10 t = day ∨ (s ≤ 1 ∧ M 10 t < day))) := by
      by_cases e1 : M 10 t = day
      · exact ⟨1, if_pos e1, by rw [w32_1p]; simp [e1]⟩
      · rw [if_neg e1, h5]
        by_cases e2 : s ≤ 1
        · rw [if_pos e2, if_neg (by rw [w32_1p]; decide)]
          by_cases e3 : M 10 t < day
          · exact ⟨1, if_pos e3, by rw [w32_1p]; simp [e2, e3]⟩
          · exact ⟨0, if_neg e3, by rw [w32_0]; simp [e1, e3]⟩
        · rw [if_neg e2, if_pos w32_0]
          exact ⟨0, rfl, by rw [w32_0]; simp [e1, e2]⟩
    obtain ⟨v, hv1, hv2⟩ := hv
    rw [hv1, cl1_s]
    by_cases e1 : w32 v = 0
    · rw [if_pos e1]; exact no (fun hS => hv2.mp e1 hS.2.2.2)
    · rw [if_neg e1, rd_s t4 (by decide), r32_w r1, r32_w h1]
      by_cases e2 : M 12 t = s
      · rw [if_pos e2, rd_s t4 (by decide), r32_w r2, r32_w h2]
        by_cases e3 : M 13 t = nr
        · rw [if_pos e3, rd_s t4 (by decide), r32_w r3, r32_w h4]
          by_cases e4 : k < M 15 t
          · rw [if_pos e4]; exact no (fun hS => absurd e4 (Int.not_lt.mpr hS.2.2.1))
          · rw [if_neg e4]; exact yes ⟨e2, e3, Int.not_lt.mp e4, Classical.not_not.mp (fun q => e1 (hv2.mpr q))⟩
        · rw [if_neg e3]; exact no (fun hS => e3 hS.2.1)
      · rw [if_neg e2]; exact no (fun hS => e2 hS.1)
