/-! known and stale, both sides: over the telling that la_is names -/
theorem uM_trade_no {F n : Nat} {M : bz_Mm} {f p d pc pe : Int} (h1 : r32 f) (h2 : r32 p) (h3 : r32 d) (h4 : r32 pc) (h5 : r32 pe) (h0 : 0 ≤ M 81 0 ∧ M 81 0 ≤ 260) (hf : 0 ≤ M 81 19 ∧ M 81 19 ≤ 4) (hn : M 81 27 = n) (hc : n ≤ 120) (hp : ¬ (p_tr (M 81 19) (M 81 0) f p d pc pe ∧ n < 120)) : fM_trade F M f p d pc pe = some (-1, M) := by
  have g0 : r32 (M 81 0) := ⟨by omega, by omega⟩
  have z0 : r32 0 := r32_of (by decide) (by decide)
  unfold fM_trade
  unfold p_tr at hp
  simp only [uM_isFund h1 hf, r32_w h2, r32_w h3, r32_w h4, r32_w h5, r32_w g0, fM_in_0 h2 z0 (r32_of (by decide) (by decide) : r32 7), fM_in_0 h3 z0 g0, fM_in_0 h4 (r32_of (by decide) (by decide) : r32 (-10000)) (r32_of (by decide) (by decide) : r32 10000), fM_in_0 h5 (r32_of (by decide) (by decide) : r32 (-100000000)) (r32_of (by decide) (by decide) : r32 100000000), w32_id (x := M 81 27) (by omega) (by omega)]
  repeat' split
  all_goals first | rfl | (exfalso; omega)
theorem la_same {S S2 : Nat → Prop} {d d2 : Nat → Int} {n : Nat} {r : Int} (hS : ∀ t, t < n → (S t ↔ S2 t)) (hd : ∀ t, t < n → d t = d2 t) (h : la_is S d n r) : la_is S2 d2 n r := by
  rcases h with ⟨h1, h2⟩ | ⟨t, h1, h2, h3, h4⟩
  · exact Or.inl ⟨h1, fun t ht h => h2 t ht ((hS t ht).mpr h)⟩
  · exact Or.inr ⟨t, h1, h2, (hS t h1).mp h3, fun u hu h => by rw [← hd u hu, ← hd t h1]; exact h4 u hu ((hS u hu).mpr h)⟩
theorem fM_plain_eq {s : Int} (h : 0 ≤ s ∧ s ≤ 3) : fM_plain s = if s = 0 ∨ s = 2 then 0 else 1000 := by
  unfold fM_plain
  rw [w32_id (x := s) (by omega) (by omega)]
  repeat' split
  all_goals first | rfl | (exfalso; omega)
/-- the tellings of both sides are the same -/
def iv_te (M : bz_Mm) (n : Nat) : Prop := M 9 2 = n ∧ M 81 12 = n ∧ n ≤ 400 ∧ by_ok (M 10) (M 11) n ∧ (∀ t, t < n → M 12 t = M 83 t ∧ M 13 t = M 84 t ∧ M 10 t = M 85 t ∧ M 14 t = M 86 t ∧ M 15 t = M 87 t) ∧ ∀ t, t < n → r32 (M 12 t) ∧ r32 (M 13 t) ∧ r32 (M 14 t) ∧ r32 (M 15 t)
theorem la_both {F n : Nat} {M : bz_Mm} {s nr day k : Int} (hF : 407 < F) (hI : iv_te M n) (hs : 0 ≤ s ∧ s ≤ 3) (h2 : r32 nr) (h3 : r32 day) (h4 : r32 k) : ∃ r, fUTe_latest_8 F M s nr day k = some r ∧ fM_telling F M s nr day k = some r ∧ la_is (la_S (M 12) (M 13) (M 10) (M 15) s nr day k) (M 10) n r := by
  obtain ⟨i1, i2, i3, i4, i5, i6⟩ := hI
  have h1 : r32 s := ⟨by omega, by omega⟩
  obtain ⟨r, a1, a2⟩ := uUTe_latest_8 (F := F) (by omega) hs h2 h3 h4 i1 i3 i4 (fun t ht => ⟨(i6 t ht).1, (i6 t ht).2.1, (i6 t ht).2.2.2⟩)
  obtain ⟨q, b1, b2⟩ := uM_telling (F := F) hF h1 h2 h3 h4 i2 (by omega) (fun t ht => by
    obtain ⟨e1, e2, e3, e4, e5⟩ := i5 t ht
    obtain ⟨g1, g2, g3, g4⟩ := i6 t ht
    have g5 := r32_d (i4.2.2.2 t ht)
    rw [← e1, ← e2, ← e3, ← e5]; exact ⟨g1, g2, g4, g5⟩)
  have b3 : la_is (la_S (M 12) (M 13) (M 10) (M 15) s nr day k) (M 10) n q := la_same (fun t ht => by
    obtain ⟨e1, e2, e3, e4, e5⟩ := i5 t ht
    unfold la_S; rw [e1, e2, e3, e5]) (fun t ht => (i5 t ht).2.2.1.symm) b2
  have e := la_one a2 b3
  subst e
  exact ⟨r, a1, b1, a2⟩
