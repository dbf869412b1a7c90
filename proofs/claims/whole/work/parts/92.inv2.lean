/-! the calls that ask -/
theorem Ia.f {M : bz_Mm} {c n nf nt nd nl now nh ns na : Nat} (h : Ia M c n nf nt nd nl now nh ns na) : (0 ≤ M 1 13 ∧ M 1 13 ≤ 260) ∧ (0 ≤ M 1 14 ∧ M 1 14 ≤ 4) ∧ (0 ≤ M 1 15 ∧ M 1 15 ≤ 16) ∧ (M 81 0 = M 1 13 ∧ M 81 19 = M 1 14 ∧ M 81 20 = M 1 15) ∧ iv_ho M ∧ iv_la M nl := by
  obtain ⟨⟨hI, _⟩, hH, _⟩ := h
  obtain ⟨i1, i2, _, _, _, _, i7, i8, _⟩ := hI
  have h1 := hH.1
  refine ⟨by omega, by omega, by omega, ⟨by omega, by omega, by omega⟩, fun j hj => ⟨(i8 j hj).1, by rw [(i8 j hj).1]; exact (i8 j hj).2⟩, i7⟩
theorem Ia.te {M : bz_Mm} {c n nf nt nd nl now nh ns na : Nat} (h : Ia M c n nf nt nd nl now nh ns na) : iv_te M n := by
  obtain ⟨⟨hI, _⟩, _⟩ := h
  obtain ⟨_, _, ⟨⟨⟨a1, a2⟩, a3, a4⟩, b1, b2, b3⟩, _, _, _, _, _, _, _, _, _, ⟨i13, _⟩, _⟩ := hI
  refine ⟨a1, b1.1, a2, a3, fun t ht => (a4 t ht).1, fun t ht => ?_⟩
  obtain ⟨⟨e1, e2, e3, e4, e5⟩, p, r⟩ := a4 t ht
  have := i13 t ht
  unfold p_subj at p
  rw [e1, e2, e4, e5]
  exact ⟨⟨by omega, by omega⟩, ⟨by omega, by omega⟩, ⟨by omega, by omega⟩, r⟩
theorem Ia.bk {M : bz_Mm} {c n nf nt nd nl now nh ns na : Nat} (h : Ia M c n nf nt nd nl now nh ns na) : iv_bk M := by
  obtain ⟨⟨hI, _⟩, _⟩ := h
  obtain ⟨i1, i2, _, _, _, _, _, _, _, _, i11, _⟩ := hI
  intro f d hf hd ho
  obtain ⟨⟨a, b⟩, e, _⟩ := i11 f d (by omega) (by omega) (opn_t.mpr ho)
  exact ⟨a, b, e⟩
theorem squ_h {M : bz_Mm} {w f now nd : Nat} (h : ∀ i, i < nd → (¬ opn (M 82) (M 106 i).toNat = true → M 107 i = 0) ∧ M 108 i = if M 106 i < now ∧ opn (M 82) (M 106 i).toNat = true then 1 else 0) : ∀ m, m ≤ nd → squ M w f m = hwm M w f now m ∧ sqa M f m = usm M f now m := by
  intro m
  induction m with
  | zero => intro _; exact ⟨rfl, rfl⟩
  | succ m ih =>
    intro hm
    obtain ⟨e1, e2⟩ := ih (by omega)
    obtain ⟨a, b⟩ := h m (by omega)
    rw [squ_S, hwm_S, sqa_S, usm_S, e1, e2]
    by_cases c : M 106 m < (now : Int) ∧ opn (M 82) (M 106 m).toNat = true
    · rw [if_pos c] at b
      by_cases d1 : M 104 m = (f : Int) <;> by_cases d2 : M 103 m = (w : Int) <;> simp [b, c.1, d1, d2]
    · rw [if_neg c] at b
      have z : M 106 m < (now : Int) → M 107 m = 0 := fun q => a (fun w => c ⟨q, w⟩)
      by_cases q : M 106 m < (now : Int)
      · simp [b, z q]
      · simp [b, q]
theorem Ia.de {M : bz_Mm} {c n nf nt nd nl now nh ns na : Nat} (h : Ia M c n nf nt nd nl now nh ns na) : iv_de M nd := by
  obtain ⟨⟨hI, _⟩, _⟩ := h
  have rt := hI.rt
  obtain ⟨i1, i2, _, _, ⟨i5, i5b, _⟩, _, _, _, i9, _, _, _, _, i14⟩ := hI
  have hsq := fun w f => squ_h (M := M) (w := w) (f := f) (now := now) (nd := nd) (fun i hi => ⟨(i9 i hi).1, (i9 i hi).2.2.2.2⟩) nd (Nat.le_refl nd)
  refine ⟨i5.1.1, i5b, i5.1.2, trivial, fun d hd => ?_, fun d hd => (rt.2.2.2.2.2.1 d hd).2.1, fun d hd => ?_, fun w f hw hf => ?_, fun w f hw hf => ?_, fun f hf => ?_⟩
  · have := (rt.2.2.2.2.2.1 d hd).1; exact ⟨by omega, by omega⟩
  · rw [(i9 d hd).2.2.2.2]; split <;> exact ⟨by decide, by decide⟩
  · rw [(hsq w f).1, ← i14.1 w f (by omega) hf]; unfold plH; rw [if_pos hw]
  · rw [(hsq (w + 16) f).1, ← i14.1 (w + 16) f (by omega) hf]; unfold plH; rw [if_neg (by omega)]
  · rw [(hsq 0 f).2, ← i14.2 f hf]
theorem bo_s {x : Int} {α : Type} {k : Option α} (h : x = 0 ∨ x = 1) : bo_ x k = k := if_pos h
theorem wkq_4 {F : Nat} (hF : 1100 < F) (n : Nat) (M : bz_Mm) (a1 : Int) (hn : n < 512) (hI : Iv n M) (h1 : r32 a1) : ∃ (x : Int) (y : Int), fU_open F M a1 = some x ∧ fM_open F M a1 = some y ∧ w32 x = w32 y ∧ Iv (n + 1) M := by
  have hI0 := hI
  obtain ⟨_, _, _, _, _, _, _, _, _, h⟩ := hI
  obtain ⟨f1, f2, f3, f4, f5, f6⟩ := h.f
  obtain ⟨x, a, b, _, e⟩ := open_both (F := F) f5 h1
  refine ⟨x, x, ?_, ?_, rfl, hI0.s⟩
  · unfold fU_open; rw [a, cl_s, bo_s e]
  · unfold fM_open; rw [b, cl_s, bo_s e]
theorem wkq_6 {F : Nat} (hF : 1100 < F) (n : Nat) (M : bz_Mm) (a1 a2 a3 a4 : Int) (hn : n < 512) (hI : Iv n M) (h1 : r32 a1) (h2 : r32 a2) (h3 : r32 a3) (h4 : r32 a4) : ∃ (x : Int) (y : Int), fU_known F M a1 a2 a3 a4 = some x ∧ fM_known1 F M a1 a2 a3 a4 = some y ∧ w32 x = w32 y ∧ Iv (n + 1) M := by
  have hI0 := hI
  obtain ⟨_, _, _, _, _, _, _, _, _, h⟩ := hI
  obtain ⟨x, a, b⟩ := eq_known (F := F) (by omega) h.te h1 h2 h3 h4
  exact ⟨x, x, a, b, rfl, hI0.s⟩
theorem wkq_7 {F : Nat} (hF : 1100 < F) (n : Nat) (M : bz_Mm) (a1 a2 a3 a4 : Int) (hn : n < 512) (hI : Iv n M) (h1 : r32 a1) (h2 : r32 a2) (h3 : r32 a3) (h4 : r32 a4) : ∃ (x : Int) (y : Int), fU_stale F M a1 a2 a3 a4 = some x ∧ fM_stale F M a1 a2 a3 a4 = some y ∧ w32 x = w32 y ∧ Iv (n + 1) M := by
  have hI0 := hI
  obtain ⟨_, _, _, _, _, _, _, _, _, h⟩ := hI
  obtain ⟨x, a, b⟩ := eq_stale (F := F) (by omega) h.te h1 h2 h3 h4
  exact ⟨x, x, a, b, rfl, hI0.s⟩
theorem wkq_14 {F : Nat} (hF : 1100 < F) (n : Nat) (M : bz_Mm) (a1 a2 a3 : Int) (hn : n < 512) (hI : Iv n M) (h1 : r32 a1) (h2 : r32 a2) (h3 : r32 a3) : ∃ (x : Int) (y : Int), fU_rule F M a1 a2 a3 = some x ∧ fM_rule1 F M a1 a2 a3 = some y ∧ w32 x = w32 y ∧ Iv (n + 1) M := by
  have hI0 := hI
  obtain ⟨_, _, _, _, _, _, _, _, _, h⟩ := hI
  obtain ⟨f1, f2, f3, f4, f5, f6⟩ := h.f
  obtain ⟨x, a, b⟩ := eq_rule (F := F) (by omega) f6 h1 h2 h3 f2 f4.2.1
  exact ⟨x, x, a, b, rfl, hI0.s⟩
theorem wkq_16 {F : Nat} (hF : 1100 < F) (n : Nat) (M : bz_Mm) (a1 a2 : Int) (hn : n < 512) (hI : Iv n M) (h1 : r32 a1) (h2 : r32 a2) : ∃ (x : Int) (y : Int), fU_booked F M a1 a2 = some x ∧ fM_booked F M a1 a2 = some y ∧ w32 x = w32 y ∧ Iv (n + 1) M := by
  have hI0 := hI
  obtain ⟨_, _, _, _, _, _, _, _, _, h⟩ := hI
  obtain ⟨f1, f2, f3, f4, f5, f6⟩ := h.f
  obtain ⟨x, a, b⟩ := eq_booked (F := F) h1 h2 f1 f2 f4.1 f4.2.1 f5 h.bk
  exact ⟨x, x, a, b, rfl, hI0.s⟩
theorem wkq_21 {F : Nat} (hF : 1100 < F) (n : Nat) (M : bz_Mm) (a1 a2 : Int) (hn : n < 512) (hI : Iv n M) (h1 : r32 a1) (h2 : r32 a2) : ∃ (x : Int) (y : Int), fU_units F M a1 a2 = some x ∧ fM_units F M a1 a2 = some y ∧ w32 x = w32 y ∧ Iv (n + 1) M := by
  have hI0 := hI
  obtain ⟨_, _, _, _, _, _, _, _, _, h⟩ := hI
  obtain ⟨f1, f2, f3, f4, f5, f6⟩ := h.f
  obtain ⟨x, a, b⟩ := eq_units (F := F) (by omega) h1 h2 f2 f3 f4.2.1 f4.2.2 h.de
  exact ⟨x, x, a, b, rfl, hI0.s⟩
theorem wkq_28 {F : Nat} (hF : 1100 < F) (n : Nat) (M : bz_Mm) (a1 : Int) (hn : n < 512) (hI : Iv n M) (h1 : r32 a1) : ∃ (x : Int) (y : Int), fU_due F M a1 = some x ∧ fM_due F M a1 = some y ∧ w32 x = w32 y ∧ Iv (n + 1) M := by
  have hI0 := hI
  obtain ⟨_, _, _, _, _, _, _, _, _, h⟩ := hI
  obtain ⟨f1, f2, f3, f4, f5, f6⟩ := h.f
  have i2 := h.1.1.2.1.1
  obtain ⟨x, a, b⟩ := eq_due (F := F) (by omega) h1 f2 f4.2.1 f5 f6 (fun j hj => by
    obtain ⟨p, q⟩ := h.2.1.2.2.2.1 j (by omega)
    exact ⟨p, by rw [← p]; exact q⟩)
  exact ⟨x, x, a, b, rfl, hI0.s⟩
theorem wkq_34 {F : Nat} (hF : 1100 < F) (n : Nat) (M : bz_Mm) (a1 a2 : Int) (hn : n < 512) (hI : Iv n M) (h1 : r32 a1) (h2 : r32 a2) : ∃ (x : Int) (y : Int), fU_alarm F M a1 a2 = some x ∧ fM_alarm F M a1 a2 = some y ∧ w32 x = w32 y ∧ Iv (n + 1) M := by
  have hI0 := hI
  obtain ⟨_, _, _, _, _, _, _, _, _, h⟩ := hI
  obtain ⟨f1, f2, f3, f4, f5, f6⟩ := h.f
  obtain ⟨x, a, b⟩ := eq_alarm (F := F) (by omega) h1 h2 f1 f2 f4.1 f4.2.1 f5 h.bk
  exact ⟨x, x, a, b, rfl, hI0.s⟩
theorem wkq_39 {F : Nat} (hF : 1100 < F) (n : Nat) (M : bz_Mm) (a1 : Int) (hn : n < 512) (hI : Iv n M) (h1 : r32 a1) : ∃ (x : Int) (y : Int), fU_count F M a1 = some x ∧ fM_count F M a1 = some y ∧ w32 x = w32 y ∧ Iv (n + 1) M := by
  have hI0 := hI
  obtain ⟨_, _, _, _, _, _, _, _, _, h⟩ := hI
  obtain ⟨f1, f2, f3, f4, f5, f6⟩ := h.f
  have te := h.te
  have i4 := h.1.1.2.2.2.1
  have su := h.2.2.1.1
  have au := h.2.2.2.1
  obtain ⟨m, tx⟩ := h.2.2.2.2.2.2.1
  obtain ⟨x, a, b⟩ := eq_count (F := F) (by omega) h1 f2 (by rw [f4.2.2]; exact f3.2) f4.2.1 f4.1 f4.2.2 (by rw [te.1, te.2.1]) (by rw [i4.2, i4.1.1.1]) (by rw [f6.1, f6.2.1]) (by rw [tx.1, tx.2.1]) (by rw [au.1.1.1, au.2]) (by rw [su.1, su.2.1]) h.2.2.2.2.2.2.2.1 h.de
  exact ⟨x, x, a, b, rfl, hI0.s⟩
theorem wkq_17 {F : Nat} (hF : 1100 < F) (n : Nat) (M : bz_Mm) (a1 a2 a3 : Int) (hn : n < 512) (hI : Iv n M) (h1 : r32 a1) (h2 : r32 a2) (h3 : r32 a3) : ∃ (x : Int × bz_Mm) (y : Int × bz_Mm), fU_right F M a1 a2 a3 = some x ∧ fM_right F x.2 a1 a2 a3 = some y ∧ w32 x.1 = w32 y.1 ∧ Iv (n + 1) y.2 := by
  obtain ⟨_, _, _, _, _, _, _, _, _, h⟩ := hI
  obtain ⟨x, y, p1, p2, p3, p4⟩ := eq_right (F := F) (by omega) h1 h2 h3 h.1
  exact ⟨x, y, p1, p2, p3, Iv.q h p4⟩
theorem wkq_18 {F : Nat} (hF : 1100 < F) (n : Nat) (M : bz_Mm) (a1 a2 a3 : Int) (hn : n < 512) (hI : Iv n M) (h1 : r32 a1) (h2 : r32 a2) (h3 : r32 a3) : ∃ (x : Int × bz_Mm) (y : Int × bz_Mm), fU_fee F M a1 a2 a3 = some x ∧ fM_fee F x.2 a1 a2 a3 = some y ∧ w32 x.1 = w32 y.1 ∧ Iv (n + 1) y.2 := by
  obtain ⟨_, _, _, _, _, _, _, _, _, h⟩ := hI
  obtain ⟨x, y, p1, p2, p3, p4⟩ := eq_fee (F := F) (by omega) h1 h2 h3 h.1
  exact ⟨x, y, p1, p2, p3, Iv.q h p4⟩
theorem wkq_19 {F : Nat} (hF : 1100 < F) (n : Nat) (M : bz_Mm) (a1 a2 a3 : Int) (hn : n < 512) (hI : Iv n M) (h1 : r32 a1) (h2 : r32 a2) (h3 : r32 a3) : ∃ (x : Int × bz_Mm) (y : Int × bz_Mm), fU_error F M a1 a2 a3 = some x ∧ fM_error F x.2 a1 a2 a3 = some y ∧ w32 x.1 = w32 y.1 ∧ Iv (n + 1) y.2 := by
  obtain ⟨_, _, _, _, _, _, _, _, _, h⟩ := hI
  obtain ⟨x, y, p1, p2, p3, p4⟩ := eq_error (F := F) (by omega) h1 h2 h3 h.1
  exact ⟨x, y, p1, p2, p3, Iv.q h p4⟩
theorem wkq_20 {F : Nat} (hF : 1100 < F) (n : Nat) (M : bz_Mm) (a1 : Int) (hn : n < 512) (hI : Iv n M) (h1 : r32 a1) : ∃ (x : Int × bz_Mm) (y : Int × bz_Mm), fU_errors F M a1 = some x ∧ fM_errors F x.2 a1 = some y ∧ w32 x.1 = w32 y.1 ∧ Iv (n + 1) y.2 := by
  obtain ⟨_, _, _, _, _, _, _, _, _, h⟩ := hI
  obtain ⟨x, y, p1, p2, p3, p4⟩ := eq_errors (F := F) (by omega) h1 h.1
  exact ⟨x, y, p1, p2, p3, Iv.q h p4⟩
theorem wkq_22 {F : Nat} (hF : 1100 < F) (n : Nat) (M : bz_Mm) (a1 a2 a3 a4 : Int) (hn : n < 512) (hI : Iv n M) (h1 : r32 a1) (h2 : r32 a2) (h3 : r32 a3) (h4 : r32 a4) : ∃ (x : Int × bz_Mm) (y : Int × bz_Mm), fU_claim F M a1 a2 a3 a4 = some x ∧ fM_claim F x.2 a1 a2 a3 a4 = some y ∧ w32 x.1 = w32 y.1 ∧ Iv (n + 1) y.2 := by
  obtain ⟨_, _, _, _, _, _, _, _, _, h⟩ := hI
  obtain ⟨x, y, p1, p2, p3, p4⟩ := eq_claim (F := F) (by omega) h1 h2 h3 h4 h.1 h.2.1
  exact ⟨x, y, p1, p2, p3, Iv.q h p4⟩
theorem wkq_23 {F : Nat} (hF : 1100 < F) (n : Nat) (M : bz_Mm) (a1 a2 : Int) (hn : n < 512) (hI : Iv n M) (h1 : r32 a1) (h2 : r32 a2) : ∃ (x : Int × bz_Mm) (y : Int × bz_Mm), fU_house F M a1 a2 = some x ∧ fM_house F x.2 a1 a2 = some y ∧ w32 x.1 = w32 y.1 ∧ Iv (n + 1) y.2 := by
  obtain ⟨_, _, _, _, _, _, _, _, _, h⟩ := hI
  obtain ⟨x, y, p1, p2, p3, p4⟩ := eq_house (F := F) (by omega) h1 h2 h.1 h.2.1
  exact ⟨x, y, p1, p2, p3, Iv.q h p4⟩
theorem wkq_24 {F : Nat} (hF : 1100 < F) (n : Nat) (M : bz_Mm) (a1 a2 : Int) (hn : n < 512) (hI : Iv n M) (h1 : r32 a1) (h2 : r32 a2) : ∃ (x : Int × bz_Mm) (y : Int × bz_Mm), fU_cash F M a1 a2 = some x ∧ fM_cash F x.2 a1 a2 = some y ∧ w32 x.1 = w32 y.1 ∧ Iv (n + 1) y.2 := by
  obtain ⟨_, _, _, _, _, _, _, _, _, h⟩ := hI
  obtain ⟨x, y, p1, p2, p3, p4⟩ := eq_cash (F := F) (by omega) h1 h2 h.1
  exact ⟨x, y, p1, p2, p3, Iv.q h p4⟩
theorem wkq_25 {F : Nat} (hF : 1100 < F) (n : Nat) (M : bz_Mm) (a1 a2 : Int) (hn : n < 512) (hI : Iv n M) (h1 : r32 a1) (h2 : r32 a2) : ∃ (x : Int × bz_Mm) (y : Int × bz_Mm), fU_dealt F M a1 a2 = some x ∧ fM_dealt F x.2 a1 a2 = some y ∧ w32 x.1 = w32 y.1 ∧ Iv (n + 1) y.2 := by
  obtain ⟨_, _, _, _, _, _, _, _, _, h⟩ := hI
  obtain ⟨x, y, p1, p2, p3, p4⟩ := eq_dealt (F := F) (by omega) h1 h2 h.1
  exact ⟨x, y, p1, p2, p3, Iv.q h p4⟩
theorem wkq_35 {F : Nat} (hF : 1100 < F) (n : Nat) (M : bz_Mm) (a1 a2 : Int) (hn : n < 512) (hI : Iv n M) (h1 : r32 a1) (h2 : r32 a2) : ∃ (x : Int × bz_Mm) (y : Int × bz_Mm), fU_beside F M a1 a2 = some x ∧ fM_beside F x.2 a1 a2 = some y ∧ w32 x.1 = w32 y.1 ∧ Iv (n + 1) y.2 := by
  obtain ⟨_, _, _, _, _, _, _, _, _, h⟩ := hI
  obtain ⟨x, y, p1, p2, p3, p4⟩ := eq_beside (F := F) (by omega) h1 h2 h.1 h.2.1
  exact ⟨x, y, p1, p2, p3, Iv.q h p4⟩
theorem wkq_36 {F : Nat} (hF : 1100 < F) (n : Nat) (M : bz_Mm) (a1 a2 : Int) (hn : n < 512) (hI : Iv n M) (h1 : r32 a1) (h2 : r32 a2) : ∃ (x : Int × bz_Mm) (y : Int × bz_Mm), fU_balance F M a1 a2 = some x ∧ fM_balance F x.2 a1 a2 = some y ∧ w32 x.1 = w32 y.1 ∧ Iv (n + 1) y.2 := by
  obtain ⟨_, _, _, _, _, _, _, _, _, h⟩ := hI
  obtain ⟨x, y, p1, p2, p3, p4⟩ := eq_balance (F := F) (by omega) h1 h2 h.1 h.2.1
  exact ⟨x, y, p1, p2, p3, Iv.q h p4⟩
theorem wkq_37 {F : Nat} (hF : 1100 < F) (n : Nat) (M : bz_Mm) (a1 : Int) (hn : n < 512) (hI : Iv n M) (h1 : r32 a1) : ∃ (x : Int × bz_Mm) (y : Int × bz_Mm), fU_payments F M a1 = some x ∧ fM_payments F x.2 a1 = some y ∧ w32 x.1 = w32 y.1 ∧ Iv (n + 1) y.2 := by
  obtain ⟨_, _, _, _, _, _, _, _, _, h⟩ := hI
  obtain ⟨x, y, p1, p2, p3, p4⟩ := eq_payments (F := F) (by omega) h1 h.1 h.2.1
  exact ⟨x, y, p1, p2, p3, Iv.q h p4⟩
theorem wkq_38 {F : Nat} (hF : 1100 < F) (n : Nat) (M : bz_Mm) (a1 a2 a3 : Int) (hn : n < 512) (hI : Iv n M) (h1 : r32 a1) (h2 : r32 a2) (h3 : r32 a3) : ∃ (x : Int × bz_Mm) (y : Int × bz_Mm), fU_payment F M a1 a2 a3 = some x ∧ fM_payment F x.2 a1 a2 a3 = some y ∧ w32 x.1 = w32 y.1 ∧ Iv (n + 1) y.2 := by
  obtain ⟨_, _, _, _, _, _, _, _, _, h⟩ := hI
  obtain ⟨x, y, p1, p2, p3, p4⟩ := eq_payment (F := F) (by omega) h1 h2 h3 h.1 h.2.1
  exact ⟨x, y, p1, p2, p3, Iv.q h p4⟩
theorem wkq_32 {F : Nat} (hF : 1100 < F) (n : Nat) (M : bz_Mm) (hn : n < 512) (hI : Iv n M) : ∃ (x : Int × bz_Mm) (y : Int × bz_Mm), fU_explain F M = some x ∧ fM_explain F x.2 = some y ∧ w32 x.1 = w32 y.1 ∧ Iv (n + 1) y.2 := by
  obtain ⟨_, _, _, _, _, _, _, _, _, h⟩ := hI
  obtain ⟨a, b, d, ⟨e, e2⟩, f, g⟩ := h
  obtain ⟨x, y, p1, p2, p3, p4, p5, p6, p7⟩ := eq_explain (F := F) (by omega) a e2 d e f
  exact ⟨x, y, p1, p2, p3, _, _, _, _, _, _, _, _, _, p4, b.fr p5, d.fr p5, ⟨e.fr p5, p6⟩, p7, g.fr p5⟩
theorem wkq_33 {F : Nat} (hF : 1100 < F) (n : Nat) (M : bz_Mm) (hn : n < 512) (hI : Iv n M) : ∃ (x : Int × bz_Mm) (y : Int × bz_Mm), fU_rivals F M = some x ∧ fM_rivals F x.2 = some y ∧ w32 x.1 = w32 y.1 ∧ Iv (n + 1) y.2 := by
  obtain ⟨_, _, _, _, _, _, _, _, _, h⟩ := hI
  obtain ⟨a, b, d, ⟨e, e2⟩, f, g⟩ := h
  obtain ⟨x, y, p1, p2, p3, p4, p5, p6, p7⟩ := eq_rivals (F := F) (by omega) a e2 d e f
  exact ⟨x, y, p1, p2, p3, _, _, _, _, _, _, _, _, _, p4, b.fr p5, d.fr p5, ⟨e.fr p5, p6⟩, p7, g.fr p5⟩
