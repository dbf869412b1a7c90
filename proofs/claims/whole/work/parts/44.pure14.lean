/-! told; over; booked; units; count -/
def r64 (x : Int) : Prop := -9223372036854775808 ≤ x ∧ x ≤ 9223372036854775807
theorem r64_w {x : Int} (h : r64 x) : w64 x = x := w64_id h.1 h.2
def clp (x : Int) : Int := if x < -2000000000 then -2000000000 else if 2000000000 < x then 2000000000 else x
theorem uM_near {x l h : Int} (hx : r64 x) (hl : r64 l) (hh : r64 h) : fM_near x l h = if x < l then l else if h < x then h else x := by
  unfold fM_near
  rw [r64_w hx, r64_w hl, r64_w hh]
  repeat' split
  all_goals first | rfl | (exfalso; omega)
theorem uM_told {x : Int} (hx : r64 x) : fM_told x = clp x := by
  unfold fM_told clp
  rw [uM_near hx ⟨by decide, by decide⟩ ⟨by decide, by decide⟩]
theorem uJM_max1 {x y : Int} (hx : r64 x) (hy : r64 y) : fJM_max1 x y = if x < y then y else x := by
  unfold fJM_max1
  rw [r64_w hx, r64_w hy]
  repeat' split
  all_goals first | rfl | (exfalso; omega) | omega
theorem uJM_min1 {x y : Int} (hx : r64 x) (hy : r64 y) : fJM_min1 x y = if x < y then x else y := by
  unfold fJM_min1
  rw [r64_w hx, r64_w hy]
  repeat' split
  all_goals first | rfl | (exfalso; omega) | omega
theorem uU_told {x : Int} (hx : r64 x) : fU_told x = clp x := by
  have e : r64 (if (2000000000 : Int) < x then 2000000000 else x) := by
    split
    · exact ⟨by decide, by decide⟩
    · exact hx
  unfold fU_told
  rw [uJM_min1 ⟨by decide, by decide⟩ hx, uJM_max1 ⟨by decide, by decide⟩ e]
  unfold clp
  repeat' split
  all_goals omega
def p_over (M : bz_Mm) (f d : Int) : Prop := 0 ≤ f ∧ f < M 81 19 ∧ d < M 81 0 ∧ p_open (M 82) d
theorem over_both {F : Nat} {M : bz_Mm} {f d : Int} (h1 : r32 f) (h2 : r32 d) (hn : 0 ≤ M 1 13 ∧ M 1 13 ≤ 260) (hf : 0 ≤ M 1 14 ∧ M 1 14 ≤ 4) (en : M 81 0 = M 1 13) (ef : M 81 19 = M 1 14) (hH : iv_ho M) : ∃ x, fU_isBooked F M f d = some x ∧ fM_isOver F M f d = some x ∧ (w32 x = 0 ↔ ¬ p_over M f d) := by
  obtain ⟨o, o1, o2, o3, o4⟩ := open_both (F := F) hH h2
  unfold fU_isBooked fM_isOver
  simp (disch := omega) only [uUS_isFund h1 hf, uM_isFund h1 (by omega : 0 ≤ M 81 19 ∧ M 81 19 ≤ 4), o1, o2, cl_s, r32_w h2, en, ef, w32_id (x := M 1 13)]
  unfold p_over
  rw [en, ef]
  by_cases c1 : 0 ≤ f ∧ f < M 1 14
  · rw [if_neg (by omega)]
    by_cases c2 : d < M 1 13
    · by_cases c3 : p_open (M 82) d
      · refine ⟨1, ?_, ?_, by rw [w32_1p]; simp [c1, c2, c3]⟩
        · rw [if_pos c2, if_neg (fun q => o3.mp q c3)]
        · rw [if_neg (by omega), if_neg (fun q => o3.mp q c3), if_pos c2]
      · refine ⟨0, ?_, ?_, by rw [w32_0]; simp [c3]⟩
        · rw [if_pos c2, if_pos (o3.mpr c3)]
        · rw [if_neg (by omega), if_pos (o3.mpr c3)]
    · refine ⟨0, ?_, ?_, by rw [w32_0]; simp [c2]⟩
      · rw [if_neg c2]
      · rw [if_neg (by omega), if_neg c2]; split <;> rfl
  · refine ⟨0, ?_, ?_, by rw [w32_0]; simp; intro a b; omega⟩
    · rw [if_pos c1]
    · rw [if_pos c1]
/-- booked prices and fees of both are the same, on open days that are over -/
def iv_bk (M : bz_Mm) : Prop := ∀ f d : Nat, (f : Int) < M 81 19 → (d : Int) < M 81 0 → p_open (M 82) d → M 48 (f * 260 + d) = M (212 + f) d ∧ (0 ≤ M 48 (f * 260 + d) ∧ M 48 (f * 260 + d) ≤ 10000000) ∧ M 49 (f * 260 + d) = M (217 + f) d
theorem clp_in {x : Int} (h : -2000000000 ≤ x ∧ x ≤ 2000000000) : clp x = x := by
  unfold clp
  rw [if_neg (by omega), if_neg (by omega)]
theorem eq_booked {F : Nat} {M : bz_Mm} {f d : Int} (h1 : r32 f) (h2 : r32 d) (hn : 0 ≤ M 1 13 ∧ M 1 13 ≤ 260) (hf : 0 ≤ M 1 14 ∧ M 1 14 ≤ 4) (en : M 81 0 = M 1 13) (ef : M 81 19 = M 1 14) (hH : iv_ho M) (hB : iv_bk M) : ∃ x, fU_booked F M f d = some x ∧ fM_booked F M f d = some x := by
  obtain ⟨x, x1, x2, x3⟩ := over_both (F := F) h1 h2 hn hf en ef hH
  unfold fU_booked fM_booked fU_slot
  rw [x1, x2, cl_s, cl_s]
  by_cases c : p_over M f d
  · obtain ⟨c1, c2, c3, c4⟩ := c
    have c5 := c4.1
    have c6 : 0 ≤ d ∧ d < 260 := ⟨c4.1, c4.2.1⟩
    have cf : 0 ≤ f ∧ f < 4 := by omega
    have ed : ((d.toNat : Nat) : Int) = d := by omega
    obtain ⟨b1, b2, b3⟩ := hB f.toNat d.toNat (by omega) (by omega) (by rw [ed]; exact c4)
    have e : (f * 260 + d).toNat = f.toNat * 260 + d.toNat := by omega
    have k : 0 ≤ f * 260 + d ∧ f * 260 + d < 1040 := by omega
    rw [if_neg (fun q => x3.mp q ⟨c1, c2, c3, c4⟩), if_neg (fun q => x3.mp q ⟨c1, c2, c3, c4⟩), rd_i k.1 k.2 (by decide), ra_i cf.1 cf.2 (by decide), rd_i c6.1 c6.2 (by decide), e, ← b1, uM_told ⟨by omega, by omega⟩, clp_in (by omega)]
    exact ⟨_, rfl, rfl⟩
  · rw [if_pos (x3.mpr c), if_pos (x3.mpr c)]
    exact ⟨_, rfl, rfl⟩
/-! units: the sum over deals that are dealt -/
def squ (M : bz_Mm) (p f : Int) : Nat → Int
  | 0 => 0
  | n + 1 => squ M p f n + if M 108 n = 0 then 0 else if M 103 n = p then (if M 104 n = f then M 107 n else 0) else 0
theorem squ_S (M : bz_Mm) (p f : Int) (n : Nat) : squ M p f (n + 1) = squ M p f n + if M 108 n = 0 then 0 else if M 103 n = p then (if M 104 n = f then M 107 n else 0) else 0 := rfl
def sqa (M : bz_Mm) (f : Int) : Nat → Int
  | 0 => 0
  | n + 1 => sqa M f n + if M 108 n = 0 then 0 else if M 104 n = f then M 107 n else 0
theorem sqa_S (M : bz_Mm) (f : Int) (n : Nat) : sqa M f (n + 1) = sqa M f n + if M 108 n = 0 then 0 else if M 104 n = f then M 107 n else 0 := rfl
theorem squ_M {F : Nat} {M : bz_Mm} {p f : Int} (hp : r32 p) (hf : r32 f) {n : Nat} (hn : M 81 35 = n) (hc : n ≤ 200) (hr : ∀ d, d < n → r32 (M 108 d) ∧ r32 (M 103 d) ∧ r32 (M 104 d)) : ∀ (m fuel i : Nat), m + i = n → m < fuel → M_units_L28 F fuel M p f (i : Int) (squ M p f i) = some (squ M p f n) := by
  intro m
  induction m with
  | zero =>
    intro fuel i h1 h2
    obtain ⟨fuel, rfl⟩ : ∃ j, fuel = j + 1 := ⟨fuel - 1, by omega⟩
    have e : i = n := by omega
    subst e
    unfold M_units_L28
    rw [hn, if_neg (by omega)]
  | succ m ih =>
    intro fuel i h1 h2
    obtain ⟨fuel, rfl⟩ : ∃ j, fuel = j + 1 := ⟨fuel - 1, by omega⟩
    obtain ⟨r1, r2, r3⟩ := hr i (by omega)
    have e3 := ih fuel (i + 1) (by omega) (by omega)
    have c2 : (i : Int) + 1 = ((i + 1 : Nat) : Int) := by omega
    unfold M_units_L28
    simp (disch := omega) only [w32_id (x := (i : Int)), w32_id (x := (n : Int)), hn, rd_i, Int.toNat_natCast, r32_w r1, r32_w r2, r32_w r3, r32_w hp, r32_w hf, c2, lt_x]
    rw [if_pos (by omega)]
    rw [squ_S] at e3
    by_cases a1 : M 108 i = 0
    · rw [if_pos a1] at e3 ⊢; exact e3
    · rw [if_neg a1] at e3 ⊢
      by_cases a2 : M 103 i = p
      · rw [if_pos a2] at e3 ⊢
        by_cases a3 : M 104 i = f
        · rw [if_pos a3] at e3 ⊢; exact e3
        · rw [if_neg a3] at e3 ⊢; exact e3
      · rw [if_neg a2] at e3 ⊢; exact e3
theorem sqa_M {F : Nat} {M : bz_Mm} {a f : Int} (ha : a - 20 = f) (hf : r32 f) {n : Nat} (hn : M 81 35 = n) (hc : n ≤ 200) (hr : ∀ d, d < n → r32 (M 108 d) ∧ r32 (M 103 d) ∧ r32 (M 104 d)) : ∀ (m fuel i : Nat), m + i = n → m < fuel → M_count_L23 F fuel M a (i : Int) (sqa M f i) = some (sqa M f n) := by
  intro m
  induction m with
  | zero =>
    intro fuel i h1 h2
    obtain ⟨fuel, rfl⟩ : ∃ j, fuel = j + 1 := ⟨fuel - 1, by omega⟩
    have e : i = n := by omega
    subst e
    unfold M_count_L23
    rw [hn, if_neg (by omega)]
  | succ m ih =>
    intro fuel i h1 h2
    obtain ⟨fuel, rfl⟩ : ∃ j, fuel = j + 1 := ⟨fuel - 1, by omega⟩
    obtain ⟨r1, r2, r3⟩ := hr i (by omega)
    have e3 := ih fuel (i + 1) (by omega) (by omega)
    have c2 : (i : Int) + 1 = ((i + 1 : Nat) : Int) := by omega
    unfold M_count_L23
    simp (disch := omega) only [w32_id (x := (i : Int)), w32_id (x := (n : Int)), hn, rd_i, Int.toNat_natCast, r32_w r1, r32_w r3, ha, r32_w hf, c2, lt_x]
    rw [if_pos (by omega)]
    rw [sqa_S] at e3
    by_cases a1 : M 108 i = 0
    · rw [if_pos a1] at e3 ⊢; exact e3
    · rw [if_neg a1] at e3 ⊢
      by_cases a3 : M 104 i = f
      · rw [if_pos a3] at e3 ⊢; exact e3
      · rw [if_neg a3] at e3 ⊢; exact e3
/-- the deals of both are the same; those whose day is over and was open are dealt -/
def p_done (M : bz_Mm) (d : Nat) : Prop := M 106 d < M 81 0 ∧ p_open (M 82) (M 106 d)
def iv_de (M : bz_Mm) (n : Nat) : Prop := M 34 2 = n ∧ M 81 35 = n ∧ n ≤ 200 ∧ True ∧ (∀ d, d < n → r32 (M 103 d)) ∧ (∀ d, d < n → r32 (M 104 d)) ∧ (∀ d, d < n → r32 (M 108 d)) ∧ (∀ w f : Nat, w < 16 → f < 4 → M 43 (w * 4 + f) = squ M w f n) ∧ (∀ w f : Nat, w < 4 → f < 4 → M 43 ((w + 20) * 4 + f) = squ M (w + 16 : Nat) f n) ∧ (∀ f : Nat, f < 4 → M 44 f = sqa M f n)
theorem iv_de.r {M : bz_Mm} {n : Nat} (h : iv_de M n) (hf : M 81 19 ≤ 4) (hh : M 81 20 ≤ 16) : ∀ d, d < n → r32 (M 108 d) ∧ r32 (M 103 d) ∧ r32 (M 104 d) := fun d hd => ⟨h.2.2.2.2.2.2.1 d hd, h.2.2.2.2.1 d hd, h.2.2.2.2.2.1 d hd⟩
theorem eq_units {F n : Nat} {M : bz_Mm} {w f : Int} (hF : 200 < F) (h1 : r32 w) (h2 : r32 f) (hf : 0 ≤ M 1 14 ∧ M 1 14 ≤ 4) (hh : 0 ≤ M 1 15 ∧ M 1 15 ≤ 16) (ef : M 81 19 = M 1 14) (eh : M 81 20 = M 1 15) (hD : iv_de M n) : ∃ x, fU_units F M w f = some x ∧ fM_units F M w f = some x := by
  have hr := hD.r (by omega) (by omega)
  obtain ⟨d1, d2, d3, d4, d5, d6, d7, d8, d9, d10⟩ := hD
  have hf2 : 0 ≤ M 81 19 ∧ M 81 19 ≤ 4 := by omega
  unfold fU_units fM_units
  rw [uM_placeOf h1 hf2 (by omega), lt_x]
  have key : plc (M 81 20) (M 81 19) w = if 0 ≤ w ∧ w < M 1 15 then w else if 20 ≤ w ∧ w - 20 < M 1 14 then 16 + w - 20 else -1 := by
    unfold plc; rw [ef, eh]
  have pr : -1 ≤ plc (M 81 20) (M 81 19) w ∧ plc (M 81 20) (M 81 19) w < 20 := by
    rw [key]; repeat' split
    all_goals omega
  unfold fM_canHold
  simp (disch := omega) only [w32_id (x := plc (M 81 20) (M 81 19) w), w32_id (x := plc (M 81 20) (M 81 19) w - 16), uM_isFund h2 hf2, r32_w h2]
  by_cases c : p_who (M 1 15) (M 1 14) w f
  · rw [if_neg (fun q => (uUS_isWho h1 h2 hf hh).mp q c)]
    obtain ⟨cf, c⟩ := c
    have k : M_units_L28 F F M (plc (M 81 20) (M 81 19) w) f 0 0 = _ := squ_M (F := F) (M := M) (p := plc (M 81 20) (M 81 19) w) (f := f) ⟨by omega, by omega⟩ h2 d2 d3 hr n F 0 (by omega) (by omega)
    rw [k, cl1_s]
    rcases c with c | c
    · have e : plc (M 81 20) (M 81 19) w = w := by rw [key, if_pos c]
      rw [rd_i (by omega) (by omega) (by decide), e]
      have q := d8 w.toNat f.toNat (by omega) (by omega)
      have e1 : (w * 4 + f).toNat = w.toNat * 4 + f.toNat := by omega
      have e2 : ((w.toNat : Nat) : Int) = w := by omega
      have e3 : ((f.toNat : Nat) : Int) = f := by omega
      rw [e2, e3] at q
      rw [e1, q]
      refine ⟨_, rfl, ?_⟩
      rw [if_neg (by omega), if_neg (by rw [if_neg (by omega), if_pos (by omega)]; decide)]
    · by_cases c0 : 0 ≤ w ∧ w < M 1 15
      · omega
      · have e : plc (M 81 20) (M 81 19) w = 16 + w - 20 := by rw [key, if_neg c0, if_pos (by omega)]
        rw [rd_i (by omega) (by omega) (by decide), e]
        have q := d9 (w - 20).toNat f.toNat (by omega) (by omega)
        have e1 : (w * 4 + f).toNat = ((w - 20).toNat + 20) * 4 + f.toNat := by omega
        have e2 : (((w - 20).toNat + 16 : Nat) : Int) = 16 + w - 20 := by omega
        have e3 : ((f.toNat : Nat) : Int) = f := by omega
        rw [e2, e3] at q
        rw [e1, q]
        refine ⟨_, rfl, ?_⟩
        rw [if_neg (by omega), if_neg (by rw [if_neg (by omega), if_neg (by omega), if_pos (by omega)]; decide)]
  · rw [if_pos ((uUS_isWho h1 h2 hf hh).mpr c)]
    refine ⟨-1, rfl, ?_⟩
    unfold p_who at c
    rw [key]
    by_cases c0 : 0 ≤ w ∧ w < M 1 15
    · rw [if_pos c0, if_neg (by omega), if_pos (by rw [if_pos (by omega)]; decide)]
    · rw [if_neg c0]
      by_cases c1 : 20 ≤ w ∧ w - 20 < M 1 14
      · rw [if_pos c1, if_neg (by omega), if_pos]
        by_cases c2 : 0 ≤ f ∧ f < M 81 19
        · rw [if_neg (by omega), if_neg (by omega), if_neg (by omega)]; decide
        · rw [if_pos c2]; decide
      · rw [if_neg c1, if_pos rfl]
