/-! the next open day; deal -/
def iv_ho (M : bz_Mm) : Prop := ∀ j, j < 260 → M 7 j = M 82 j ∧ r32 (M 7 j)
theorem iv_ho.u {M : bz_Mm} (h : iv_ho M) : ∀ j, j < 260 → r32 (M 7 j) := fun j hj => (h j hj).2
theorem iv_ho.m {M : bz_Mm} (h : iv_ho M) : ∀ j, j < 260 → r32 (M 82 j) := fun j hj => by rw [← (h j hj).1]; exact (h j hj).2
theorem iv_ho.o {M : bz_Mm} (h : iv_ho M) (d : Int) : p_open (M 7) d ↔ p_open (M 82) d := by
  unfold p_open
  constructor
  · intro q; exact ⟨q.1, q.2.1, q.2.2.1, by rw [← (h d.toNat (by omega)).1]; exact q.2.2.2⟩
  · intro q; exact ⟨q.1, q.2.1, q.2.2.1, by rw [(h d.toNat (by omega)).1]; exact q.2.2.2⟩
theorem open_both {F : Nat} {M : bz_Mm} {d : Int} (h : iv_ho M) (hd : r32 d) : ∃ x : Int, fUS_isOpen F M d = some x ∧ fM_isOpen F M d = some x ∧ (w32 x = 0 ↔ ¬ p_open (M 82) d) ∧ (x = 0 ∨ x = 1) := by
  have i : Decidable (p_open (M 82) d) := Classical.propDecidable _
  have j : Decidable (p_open (M 7) d) := Classical.propDecidable _
  rw [uUS_isOpen hd h.u, uM_isOpen hd h.m]
  by_cases c : p_open (M 82) d
  · rw [if_pos c, if_pos ((h.o d).mpr c)]
    exact ⟨1, rfl, rfl, by rw [w32_1p]; simp [c], Or.inr rfl⟩
  · rw [if_neg c, if_neg (fun q => c ((h.o d).mp q))]
    exact ⟨0, rfl, rfl, by rw [w32_0]; simp [c], Or.inl rfl⟩
/-- the first open day from d on, within n days -/
def nx (H : Nat → Int) (d : Int) : Nat → Int → Prop
  | 0, r => r = d
  | n + 1, r => (p_open H d ∧ r = d) ∨ (¬ p_open H d ∧ nx H (d + 1) n r)
theorem nx_r {H : Nat → Int} : ∀ (n : Nat) (d r : Int), nx H d n r → d ≤ r ∧ r ≤ d + n := by
  intro n
  induction n with
  | zero => intro d r h; unfold nx at h; omega
  | succ n ih =>
    intro d r h
    rcases h with h | h
    · omega
    · have := ih _ _ h.2; omega
theorem nx_ex {H : Nat → Int} : ∀ (n : Nat) (d : Int), ∃ r, nx H d n r := by
  intro n
  induction n with
  | zero => intro d; exact ⟨d, rfl⟩
  | succ n ih =>
    intro d
    obtain ⟨r, h⟩ := ih (d + 1)
    by_cases c : p_open H d
    · exact ⟨d, Or.inl ⟨c, rfl⟩⟩
    · exact ⟨r, Or.inr ⟨c, h⟩⟩
theorem nx_loop {F : Nat} {M : bz_Mm} {q1 q2 q3 : Int} (hI : iv_ho M) : ∀ (n fuel : Nat) (d r : Int), 0 ≤ d → d ≤ 261 → (d + n = 260 ∨ (n = 0 ∧ 260 ≤ d)) → n < fuel → nx (M 82) d n r → US_openBehind_L4 F fuel M d = some (if r < 260 then .inl r else .inr 0) ∧ M_deal_L146 F fuel M q1 q2 q3 d = some r ∧ M_deal_L146a F fuel M q1 q2 q3 d = some r := by
  intro n
  induction n with
  | zero =>
    intro fuel d r h0 h9 h1 h2 h3
    obtain ⟨fuel, rfl⟩ : ∃ j, fuel = j + 1 := ⟨fuel - 1, by omega⟩
    unfold nx at h3
    unfold US_openBehind_L4 M_deal_L146 M_deal_L146a
    simp (disch := omega) only [w32_id]
    refine ⟨?_, ?_, ?_⟩
    · rw [if_neg (by omega), if_neg (by omega)]
    · rw [if_neg (by omega), h3]
    · rw [if_neg (by omega), h3]
  | succ n ih =>
    intro fuel d r h0 h9 h1 h2 h3
    obtain ⟨fuel, rfl⟩ : ∃ j, fuel = j + 1 := ⟨fuel - 1, by omega⟩
    obtain ⟨x, x1, x2, x3, x4⟩ := open_both (F := F) (d := d) hI ⟨by omega, by omega⟩
    have hd : d < 260 := by omega
    unfold US_openBehind_L4 M_deal_L146 M_deal_L146a
    simp (disch := omega) only [w32_id (x := d), x1, x2, cl_s, if_pos hd]
    rcases h3 with h | h
    · rw [if_neg (fun q => x3.mp q h.1), if_neg (fun q => x3.mp q h.1), if_neg (fun q => x3.mp q h.1), h.2]
      rw [if_pos hd]; exact ⟨rfl, rfl, rfl⟩
    · have := ih fuel (d + 1) r (by omega) (by omega) (by omega) (by omega) h.2
      rw [if_pos (x3.mpr h.1), if_pos (x3.mpr h.1), if_pos (x3.mpr h.1)]; exact this
theorem w32_20 {a : Int} (h : r32 a) : ∃ y, w32 (a - 20) = y ∧ r32 y ∧ ((20 ≤ a ∧ y = a - 20) ∨ (a < 20 ∧ (y < 0 ∨ 1000 < y))) := by
  unfold r32 at h
  by_cases c : -2147483628 ≤ a
  · exact ⟨a - 20, w32_id (by omega) (by omega), ⟨by omega, by omega⟩, by omega⟩
  · refine ⟨a - 20 + 4294967296, ?_, ⟨by omega, by omega⟩, by omega⟩
    unfold w32 Int.bmod
    dsimp only
    split <;> omega
def p_who (hs fs w f : Int) : Prop := (0 ≤ f ∧ f < fs) ∧ ((0 ≤ w ∧ w < hs) ∨ (20 ≤ w ∧ w - 20 < fs ∧ f < w - 20))
theorem uUS_isWho {M : bz_Mm} {w f : Int} (h1 : r32 w) (h2 : r32 f) (hf : 0 ≤ M 1 14 ∧ M 1 14 ≤ 4) (hh : 0 ≤ M 1 15 ∧ M 1 15 ≤ 16) : (w32 (fUS_isWho M w f) = 0) ↔ ¬ p_who (M 1 15) (M 1 14) w f := by
  unfold fUS_isWho p_who
  simp only [uUS_isFund h2 hf, uUS_isHolder h1 hh, r32_w h1, r32_w h2]
  by_cases c : w < 20
  · simp only [if_pos c]
    repeat' split
    all_goals first | (rw [w32_0]; simp; omega) | (rw [w32_1p]; simp; omega)
  · have hw : r32 (w - 20) := by unfold r32 at h1 ⊢; omega
    simp only [if_neg c, uUS_isFund hw hf, r32_w hw]
    repeat' split
    all_goals first | (rw [w32_0]; simp; omega) | (rw [w32_1p]; simp; omega)
def plc (hs fs w : Int) : Int := if 0 ≤ w ∧ w < hs then w else if 20 ≤ w ∧ w - 20 < fs then 16 + w - 20 else -1
theorem uM_placeOf {M : bz_Mm} {w : Int} (h1 : r32 w) (hf : 0 ≤ M 81 19 ∧ M 81 19 ≤ 4) (hh : 0 ≤ M 81 20 ∧ M 81 20 ≤ 16) : fM_placeOf M w = plc (M 81 20) (M 81 19) w := by
  obtain ⟨y, e, ry, c⟩ := w32_20 h1
  have g : fM_isFund M (w - 20) = fM_isFund M y := by unfold fM_isFund; rw [e, r32_w ry]
  have z0 : r32 0 := r32_of (by decide) (by decide)
  unfold fM_placeOf plc
  rw [g]
  simp (disch := omega) only [uM_isFund ry hf, r32_w h1, w32_id (x := M 81 20 - 1), fM_in_0 h1 z0 (r32_of (by omega) (by omega) : r32 (M 81 20 - 1))]
  repeat' split
  all_goals first | rfl | (exfalso; omega)
/-- the day a deal is dealt on; r is the next open one, 260 or more if there is none -/
def dd (M : bz_Mm) (f : Nat) (now z hour r x : Int) : Prop := (p_open (M 82) now ∧ hour - z < rv M f now 3 ∧ x = now) ∨ (¬ (p_open (M 82) now ∧ hour - z < rv M f now 3) ∧ x = r)
theorem dd_ex (M : bz_Mm) (f : Nat) (now z hour r : Int) : ∃ x, dd M f now z hour r x := by
  by_cases c : p_open (M 82) now ∧ hour - z < rv M f now 3
  · exact ⟨now, Or.inl ⟨c.1, c.2, rfl⟩⟩
  · exact ⟨r, Or.inr ⟨c, rfl⟩⟩
def zn (hs : Int) (Z : Nat → Int) (w : Int) : Int := if 0 ≤ w ∧ w < hs then Z w.toNat else 0
theorem uUS_dealingDay {F nl : Nat} {M : bz_Mm} {w f h r x : Int} (hF : 261 < F) (h1 : r32 w) (hf : 0 ≤ f ∧ f < 4) (h3 : 0 ≤ h ∧ h ≤ 23) (hn : 0 ≤ M 1 13 ∧ M 1 13 ≤ 260) (hh : 0 ≤ M 1 15 ∧ M 1 15 ≤ 16) (hz : ∀ j : Nat, (j : Int) < M 1 15 → -11 ≤ M 4 j ∧ M 4 j ≤ 12) (hH : iv_ho M) (hL : iv_la M nl) (hr : nx (M 82) (M 1 13 + 1) (259 - (M 1 13).toNat) r) (hx : dd M f.toNat (M 1 13) (zn (M 1 15) (M 4) w) h r x) : fUS_dealingDay F M w f h = some (if x < 260 then x else -1) := by
  obtain ⟨a1, a2, a3⟩ := nx_loop (F := F) (q1 := 0) (q2 := 0) (q3 := 0) hH _ F _ r (by omega) (by omega) (by omega) (by omega) hr
  have ob : fUS_openBehind F M (M 1 13) = some (if r < 260 then r else -1) := by
    unfold fUS_openBehind
    rw [lt_x, a1]
    by_cases c : r < 260
    · rw [if_pos c, if_pos c, cs1_l]
    · rw [if_neg c, if_neg c, cs1_r]
  obtain ⟨o, o1, o2, o3, o4⟩ := open_both (F := F) (d := M 1 13) hH ⟨by omega, by omega⟩
  obtain ⟨l1, l2, l3⟩ := rule_both (F := F) (f := f) (day := M 1 13) (w := 3) (by omega) hL hf ⟨by omega, by omega⟩ ⟨by decide, by decide⟩
  have l4 : rl_ok 3 (rv M f.toNat (M 1 13) 3) := l3
  have l5 : 0 ≤ rv M f.toNat (M 1 13) 3 ∧ rv M f.toNat (M 1 13) 3 ≤ 24 := ⟨l4.2, l4.1⟩
  have zz : -11 ≤ zn (M 1 15) (M 4) w ∧ zn (M 1 15) (M 4) w ≤ 12 := by
    unfold zn
    by_cases c : 0 ≤ w ∧ w < M 1 15
    · rw [if_pos c]; exact hz _ (by omega)
    · rw [if_neg c]; omega
  have zv : (if w32 (fUS_isHolder M w) = 0 then some 0 else rd_ M 4 w 16 fun x3 => some x3) = some (zn (M 1 15) (M 4) w) := by
    simp only [uUS_isHolder h1 hh]
    unfold zn
    by_cases c : 0 ≤ w ∧ w < M 1 15
    · rw [if_neg (by omega), if_pos c, rd_i (by omega) (by omega) (by decide)]
    · rw [if_pos c, if_neg c]
  have c3 : (3 : Int).toNat = 3 := rfl
  rw [c3] at l1
  unfold fUS_dealingDay
  rw [zv, cl1_s, o1, cl_s, ob, cl_s, l1, cl_s, w32_id (x := h - zn (M 1 15) (M 4) w) (by omega) (by omega), w32_id (x := rv M f.toNat (M 1 13) 3) (by omega) (by omega)]
  rcases hx with hx | hx
  · rw [if_neg (fun q => o3.mp q hx.1), if_pos hx.2.1, hx.2.2, if_pos hx.1.2.1]
  · rw [hx.2]
    by_cases c : p_open (M 82) (M 1 13)
    · rw [if_neg (fun q => o3.mp q c), if_neg (fun q => hx.1 ⟨c, q⟩)]
    · rw [if_pos (o3.mpr c)]
def p_dl (hs fs w f n h : Int) : Prop := p_who hs fs w f ∧ (0 ≤ h ∧ h ≤ 23) ∧ (-10000 ≤ n ∧ n ≤ 10000) ∧ n ≠ 0
def dlU (M : bz_Mm) (o : Nat → Int) (n : Nat) (w f m d : Int) : bz_Mm := st_ (st_ (st_ (by_m_34 M o n d) 37 n w) 38 n f) 39 n m
def BO (d o : Nat → Int) (n : Nat) (D : Int) (o' : Nat → Int) : Prop := ∃ p, p ≤ n ∧ o' = by_o o p n ∧ ∀ i, p ≤ i → i < n → D < d (o i).toNat
theorem uUD_add {F : Nat} {M : bz_Mm} {w f m d : Int} {n : Nat} (hF : 200 < F) (hD : 0 ≤ d ∧ d < 260) (hn : M 34 2 = n) (hc : n < 200) (hb : by_ok (M 35) (M 36) n) : ∃ o, fUD_add F M w f m d = some ((n : Int), dlU M o n w f m d) ∧ by_ok (ud (M 35) n d) o (n + 1) ∧ BO (M 35) (M 36) n d o := by
  obtain ⟨p, p1, p2, p3, p4⟩ := by_loop_34 (F := F) (l2 := (n : Int)) hD hc n F M (by omega) (Nat.le_refl n) hb.1 hb.2.2.2
  have h1 : fUB_add_34 F M d = some ((n : Int), by_m_34 M (by_o (M 36) p n) n d) := by rw [by_a1_34 hn hc, p2, cl2_s, by_a2_34 hc p1]
  refine ⟨by_o (M 36) p n, ?_, by_ins hb p1 p3 p4 hD, p, p1, rfl, p3⟩
  unfold fUD_add
  rw [h1, cl2_s, if_neg (by rw [w32_id (x := (n : Int)) (by omega) (by omega)]; omega), wa_s hc (by decide), wa_s hc (by decide), wa_s hc (by decide)]
  unfold dlU
  exact Eq.refl _
theorem uU_deal {F nl n : Nat} {M : bz_Mm} {w f m h r x : Int} (hF : 261 < F) (h1 : r32 w) (h2 : r32 f) (h3 : r32 m) (h4 : r32 h) (hn : 0 ≤ M 1 13 ∧ M 1 13 ≤ 260) (hf : 0 ≤ M 1 14 ∧ M 1 14 ≤ 4) (hh : 0 ≤ M 1 15 ∧ M 1 15 ≤ 16) (hz : ∀ j : Nat, (j : Int) < M 1 15 → -11 ≤ M 4 j ∧ M 4 j ≤ 12) (hH : iv_ho M) (hL : iv_la M nl) (hr : nx (M 82) (M 1 13 + 1) (259 - (M 1 13).toNat) r) (hx : dd M f.toNat (M 1 13) (zn (M 1 15) (M 4) w) h r x) (hs : M 34 2 = n) (hc : n ≤ 200) (hb : by_ok (M 35) (M 36) n) : (p_dl (M 1 15) (M 1 14) w f m h ∧ n < 200 ∧ x < 260 → ∃ o, (by_ok (ud (M 35) n x) o (n + 1) ∧ BO (M 35) (M 36) n x o) ∧ fU_deal F M w f m h = some ((n : Int), dlU M o n w f m x)) ∧ (¬ (p_dl (M 1 15) (M 1 14) w f m h ∧ n < 200 ∧ x < 260) → fU_deal F M w f m h = some (-1, M)) := by
  have x0 : 0 ≤ x := by
    have := nx_r _ _ _ hr
    rcases hx with q | q <;> omega
  unfold fU_deal
  simp only [r32_w h4, r32_w h3, uU_isWithin h3 (by decide : (0 : Int) ≤ 10000 ∧ (10000 : Int) ≤ 2147483647)]
  by_cases c1 : p_who (M 1 15) (M 1 14) w f
  · rw [if_neg (fun q => (uUS_isWho h1 h2 hf hh).mp q c1)]
    by_cases c2 : (0 ≤ h ∧ h ≤ 23) ∧ (-10000 ≤ m ∧ m ≤ 10000) ∧ m ≠ 0
    · rw [if_neg (by omega), if_neg (by omega), if_neg (by omega), if_neg (by omega)]
      rw [uUS_dealingDay hF h1 (by have := c1.1; omega) c2.1 hn hh hz hH hL hr hx, cl_s]
      by_cases c3 : x < 260
      · rw [if_pos c3, w32_id (x := x) (by omega) (by omega), if_neg (by omega)]
        by_cases c4 : n < 200
        · obtain ⟨o, o1, o2⟩ := uUD_add (F := F) (w := w) (f := f) (m := m) (d := x) (by omega) ⟨x0, c3⟩ hs c4 hb
          rw [o1, cl2_s]
          exact ⟨fun _ => ⟨o, o2, rfl⟩, fun q => absurd ⟨⟨c1, c2⟩, c4, c3⟩ q⟩
        · have e : M 34 2 = 200 := by omega
          have : fUD_add F M w f m x = some (-1, M) := by
            unfold fUD_add
            rw [by_full_34 e, cl2_s, if_pos (by decide)]
          rw [this, cl2_s]
          exact ⟨fun q => absurd q.2.1 c4, fun _ => rfl⟩
      · rw [if_neg c3, if_pos (by decide)]
        exact ⟨fun q => absurd q.2.2 c3, fun _ => rfl⟩
    · refine ⟨fun q => absurd q.1.2 c2, fun _ => ?_⟩
      repeat' split
      all_goals first | rfl | (exfalso; omega)
  · rw [if_pos ((uUS_isWho h1 h2 hf hh).mpr c1)]
    exact ⟨fun q => absurd q.1.1 c1, fun _ => rfl⟩
