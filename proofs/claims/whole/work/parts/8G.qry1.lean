/-! queries: right, error, fee, cash, errors -/
def IQ (M : bz_Mm) (n nf nt nd nl now : Nat) : Prop := IT M n nf nt nd nl now ∧ CA M n nf nt nd now ∧ (0 ≤ M 1 17 ∧ M 1 17 ≤ 10000) ∧ (0 ≤ M 53 18 ∧ M 53 18 ≤ M 1 17) ∧ r32 (M 53 17) ∧ ∀ i, (i < nd → ¬ (opn (M 82) (M 106 i).toNat = true ∧ M 106 i < (now : Int))) → M 42 i = 0
def QY (M y : bz_Mm) (n nf nt nd nl now : Nat) : Prop := IQ y n nf nt nd nl now ∧ FR n M y ∧ y 77 = M 77
theorem FR.r {n : Nat} {M : bz_Mm} (h : r32 (M 81 61)) : FR n M M := ⟨fun _ _ => rfl, fun _ _ _ _ _ => rfl, fun _ _ => rfl, h, fun _ _ => rfl⟩
theorem QY.r {M : bz_Mm} {n nf nt nd nl now : Nat} (h : IQ M n nf nt nd nl now) : QY M M n nf nt nd nl now := ⟨h, FR.r h.1.2.2.1.2.2.1, rfl⟩
/-- a walk, and all that may be asked of it -/
theorem q_all {F : Nat} {M : bz_Mm} {k : Int} {n nf nt nd nl now : Nat} (hF : 500 < F) (h : IQ M n nf nt nd nl now) (hk : 0 ≤ k ∧ k ≤ 259) : ∃ M' X, fUC_walkTo F M k = some M' ∧ IT M' n nf nt nd nl now ∧ QY M M' n nf nt nd nl now ∧ (∀ q, 64 < q → M' q = M q) ∧ KW M' X k n ∧ SD X M' k n nf nt nd (lastN now k) M' (wlk nf nt nd 0 (lastN now k) X) (wlk nf nt nd 1 (lastN now k) X) ∧ CW M' k n nf nt nd (lastN now k) ∧ M' 53 17 = k ∧ (∀ m : Nat, m ≤ 260 → fM_through F M' ((m : Int) - 1) k 0 = some (wlk nf nt nd 0 m X) ∧ fM_through F M' ((m : Int) - 1) k 2 = some (wlk nf nt nd 1 m X)) ∧ (∀ q, q ≠ 81 → (q < 158 ∨ 222 < q ∨ (210 < q ∧ q < 221)) → X q = M' q) ∧ X 81 = ud (M' 81) 61 k ∧ ∀ (m : Nat) (bk : Int), QY M (wlk nf nt nd bk m X) n nf nt nd nl now := by
  obtain ⟨hI, hC, hch, hch2, h17, h42⟩ := h
  obtain ⟨M', w1, w2, w3, ⟨w4, w5⟩, w6, w7, w42⟩ := q_walk (F := F) (k := k) hF hI hC hk hch ⟨hch2.1, Int.le_trans hch2.2 hch.2⟩ h17
  obtain ⟨X, x1, x2, x3, x4, x5⟩ := r_thr0 (F := F) (k := k) hF ⟨by omega, by omega⟩ w6
  have e1 : M' 1 = M 1 := w2.1 1 (by decide)
  have qe : ∀ y, FR n M' y → (∀ q, (q = 42 ∨ (52 < q ∧ q < 65)) → y q = M' q) → y 77 = M' 77 → QY M y n nf nt nd nl now := fun y f1 f2 f3 => by
    obtain ⟨z1, z2⟩ := q_end w6 w7 hk w4 f1 f2
    refine ⟨⟨z1, z2, by rw [f1.1 1 (by decide), e1]; exact hch, by rw [f2 53 (by decide), w5, f1.1 1 (by decide), e1]; exact ⟨hch.1, Int.le_refl _⟩, by rw [f2 53 (by decide), w4]; exact ⟨by omega, by omega⟩, fun i hz => ?_⟩, w2.t f1, by rw [f3]; exact w3 77 (by decide)⟩
    have hz' : i < nd → ¬ (opn (M 82) (M 106 i).toNat = true ∧ M 106 i < (now : Int)) := by
      rw [← (w2.t f1).1 82 (by decide), ← (w2.t f1).1 106 (by decide)]; exact hz
    rw [f2 42 (by decide), w42 i hz']; exact h42 i hz'
  have o := fun m bk q hq => wlk_o (nf := nf) (nt := nt) (nd := nd) (bk := bk) (K := X) w6.2.1.2.2 m q hq
  refine ⟨M', X, w1, w6, qe M' (FR.r w6.2.2.1.2.2.1) (fun _ _ => rfl) rfl, w3, x1, w7 X x1, w7, w4, x2, x3, x4, fun m bk => qe _ (x5 m bk) (fun q hq => ?_) ?_⟩
  · rw [o m bk q (by omega)]; exact x3 q (by omega) (by omega)
  · rw [o m bk 77 (by omega)]; exact x3 77 (by decide) (by decide)
def ovr (M : bz_Mm) (nf now : Nat) (f d : Int) : Prop := ∃ g e : Nat, f = g ∧ d = e ∧ g < nf ∧ e < now ∧ e < 260 ∧ opn (M 82) e = true
theorem over_it {F : Nat} {M : bz_Mm} {f d : Int} {n nf nt nd nl now : Nat} (h1 : r32 f) (h2 : r32 d) (hI : IT M n nf nt nd nl now) : ∃ x, fU_isBooked F M f d = some x ∧ fM_isOver F M f d = some x ∧ (w32 x = 0 ↔ ¬ ovr M nf now f d) := by
  obtain ⟨i1, i2, _, _, _, _, _, i8, _⟩ := hI
  have n4 := i2.2.2
  have n260 := i1.2.2
  obtain ⟨x, a, b, c⟩ := over_both (F := F) h1 h2 (by rw [i1.1]; omega) (by rw [i2.1]; omega) (by rw [i1.1, i1.2.1]) (by rw [i2.1, i2.2.1]) (fun j hj => ⟨(i8 j hj).1, by rw [(i8 j hj).1]; exact (i8 j hj).2⟩)
  refine ⟨x, a, b, c.trans (not_congr ?_)⟩
  unfold p_over ovr
  rw [i1.2.1, i2.2.1]
  constructor
  · rintro ⟨y1, y2, y3, y4⟩
    have y5 := y4.1
    have y6 := y4.2.1
    refine ⟨f.toNat, d.toNat, by omega, by omega, by omega, by omega, by omega, ?_⟩
    rw [opn_t, show ((d.toNat : Nat) : Int) = d by omega]; exact y4
  · rintro ⟨g, e, rfl, rfl, y3, y4, y5, y6⟩
    exact ⟨by omega, by omega, by omega, opn_t.mp y6⟩
def knw (now : Nat) : Nat := if now < 260 then now else 259
theorem kn_U {M : bz_Mm} {n nf nt nd nl now : Nat} (hI : IT M n nf nt nd nl now) : fUS_latestKnown M = (knw now : Int) ∧ fM_known0 M = (knw now : Int) ∧ knw now ≤ 259 ∧ knw now ≤ now ∧ lastN now (knw now) = now := by
  obtain ⟨i1, _⟩ := hI
  have n260 := i1.2.2
  have e : knw now = if now < 260 then now else 259 := rfl
  unfold fUS_latestKnown fM_known0 lastN
  rw [i1.1, i1.2.1, uJM_min0 ⟨by omega, by omega⟩ ⟨by decide, by decide⟩, w32_n (by omega)]
  by_cases c : now < 260
  · rw [if_pos c] at e
    rw [e, if_neg (c := (259 : Int) < now) (by omega), if_pos (c := (now : Int) < 260) (by omega), if_neg (c := (now : Int) < now) (by omega)]
    exact ⟨rfl, rfl, by omega, by omega, by omega⟩
  · rw [if_neg c] at e
    rw [e, if_pos (c := (259 : Int) < now) (by omega), if_neg (c := (now : Int) < 260) (by omega), if_pos (c := ((259 : Nat) : Int) < now) (by omega)]
    exact ⟨rfl, rfl, by omega, by omega, by omega⟩
theorem lo_M {M : bz_Mm} {k : Int} {n nf nt nd nl now : Nat} (hI : IT M n nf nt nd nl now) (hk : 0 ≤ k ∧ k ≤ 259) : fM_lastOver M k = ((lastN now k : Nat) : Int) - 1 ∧ fUS_lastOver M k = ((lastN now k : Nat) : Int) - 1 := by
  obtain ⟨i1, _⟩ := hI
  have n260 := i1.2.2
  refine ⟨?_, by rw [lastN_U (by rw [i1.1]; omega) (by omega), i1.1]⟩
  unfold fM_lastOver lastN
  rw [i1.2.1, w32_id (x := (now : Int) - 1) (by omega) (by omega), w32_id (x := k) (by omega) (by omega)]
  repeat' split
  all_goals omega
theorem FR.o82 {n : Nat} {M y : bz_Mm} (h : FR n M y) : y 82 = M 82 := h.1 82 (by decide)
theorem slot_n {g e : Nat} : fU_slot (g : Int) (e : Int) = ((g * 260 + e : Nat) : Int) := by unfold fU_slot; omega
theorem lastN_gt {now e : Nat} {k : Int} (h1 : (e : Int) ≤ k) (h2 : e < now) : e < lastN now k := by
  unfold lastN
  split <;> omega
/-- a day's right price and fee, both sides -/
theorem right_at {F : Nat} {M : bz_Mm} {k : Int} {g e n nf nt nd nl now : Nat} (hF : 500 < F) (h : IQ M n nf nt nd nl now) (hk : 0 ≤ k ∧ k ≤ 259) (hg : g < nf) (he : e < now ∧ e < 260) (hek : (e : Int) ≤ k) (ho : opn (M 82) e = true) : ∃ M' y, fUC_walkTo F M k = some M' ∧ fM_through F M' (e : Int) k 0 = some y ∧ IT M' n nf nt nd nl now ∧ M' 82 = M 82 ∧ QY M y n nf nt nd nl now ∧ M' 56 (g * 260 + e) = y (196 + g) e ∧ M' 57 (g * 260 + e) = y (201 + g) e ∧ (0 ≤ M' 56 (g * 260 + e) ∧ M' 56 (g * 260 + e) ≤ 10000000) ∧ M' 48 (g * 260 + e) = y (212 + g) e ∧ (0 ≤ M' 48 (g * 260 + e) ∧ M' 48 (g * 260 + e) ≤ 10000000) := by
  obtain ⟨M', X, a1, a2, a3, a4, a5, a6, _, _, a7, a8, a9, a10⟩ := q_all (k := k) hF h hk
  have nf4 := a2.2.1.2.2
  have hN := lastN_gt hek he.1
  obtain ⟨⟨s1, s2, s3, s4, s5, s6, s7, s8, s9, s10, s11⟩, _⟩ := a6
  have o82 : X 82 = M 82 := by rw [a8 82 (by decide) (by decide)]; exact a3.2.1.o82
  obtain ⟨z1, z2, z3, z4⟩ := s9 g e hg (Or.inl hN) (by rw [o82]; exact ho)
  obtain ⟨m, hm⟩ : ∃ m, lastN now k = (e + 1) + m := ⟨lastN now k - (e + 1), by omega⟩
  obtain ⟨p1, p2⟩ := wlk_pre (nf := nf) (nt := nt) (nd := nd) (bk := 0) (K := X) nf4 (g := g) (d := e) (N := e + 1) (by omega) (by omega) m
  rw [← hm] at p1 p2
  have thr := (a7 (e + 1) (by omega)).1
  rw [show ((e + 1 : Nat) : Int) - 1 = (e : Int) by omega] at thr
  have i11 := a2.2.2.2.2.2.2.2.2.2.2.1 g e hg he.1 (by rw [a3.2.1.o82]; exact ho)
  refine ⟨M', wlk nf nt nd 0 (e + 1) X, a1, thr, a2, a3.2.1.o82, a10 _ _, by rw [← p1]; exact z1, by rw [← p2]; exact z2, ⟨z3, z4⟩, ?_, i11.1.2⟩
  rw [wlk_o nf4 (e + 1) (212 + g) (by omega), a8 (212 + g) (by omega) (by omega)]
  exact i11.1.1
theorem in3 {a l h : Int} (h1 : r32 a) (h2 : r32 l) (h3 : r32 h) : (w32 (fM_in (w32 a) (w32 l) (w32 h)) = 0) ↔ ¬ (l ≤ a ∧ a ≤ h) := by
  rw [r32_w h1, r32_w h2, r32_w h3]
  exact fM_in_0 h1 h2 h3
theorem ovr_c {M M' : bz_Mm} {nf now : Nat} {f d : Int} (h : M' 82 = M 82) : ovr M' nf now f d ↔ ovr M nf now f d := by unfold ovr; rw [h]
theorem eq_right {F : Nat} {M : bz_Mm} {a1 a2 a3 : Int} {n nf nt nd nl now : Nat} (hF : 500 < F) (h1 : r32 a1) (h2 : r32 a2) (h3 : r32 a3) (h : IQ M n nf nt nd nl now) : ∃ x y, fU_right F M a1 a2 a3 = some x ∧ fM_right F x.2 a1 a2 a3 = some y ∧ w32 x.1 = w32 y.1 ∧ QY M y.2 n nf nt nd nl now := by
  have hI := h.1
  obtain ⟨x, o1, o2, o3⟩ := over_it (F := F) h1 h2 hI
  obtain ⟨k1, k2, k3, k4, k5⟩ := kn_U hI
  unfold fU_right fM_right
  rw [o1, cl_s]
  by_cases c : ovr M nf now a1 a2
  · rw [if_neg (fun q => o3.mp q c), k1, r32_w h2, r32_w h3, w32_n (by omega)]
    by_cases c2 : a2 ≤ a3 ∧ a3 ≤ (knw now : Int)
    · obtain ⟨g, e, rfl, rfl, y3, y4, y5, y6⟩ := c
      obtain ⟨M', y, b1, b2, b3, b4, b5, b6, b7, b8, b9, b10⟩ := right_at (k := a3) hF h (by omega) y3 ⟨y4, y5⟩ c2.1 y6
      obtain ⟨x', p1, p2, p3⟩ := over_it (F := F) h1 h2 b3
      have nf4 := hI.2.1.2.2
      refine ⟨(M' 56 (g * 260 + e), M'), (fM_told (y (196 + g) e), y), ?_, ?_, ?_, b5⟩
      · rw [if_neg (by omega), if_neg (by omega), b1, cl_s, slot_n, rd_s (by omega) (by decide)]
      · dsimp only
        rw [p2, cl_s, if_neg (fun q => p3.mp q ((ovr_c b4).mpr ⟨g, e, rfl, rfl, y3, y4, y5, y6⟩)), (kn_U b3).2.1, if_neg (fun q => ((fM_in_0 h3 h2 ⟨by omega, by omega⟩).mp (by rw [w32_n (by omega)] at q; exact q)) c2), b2, cl_s, ra_n (by omega) (by decide), rd_s y5 (by decide)]
      · dsimp only
        rw [← b6, uM_told ⟨by omega, by omega⟩, clp_in (by omega)]
    · refine ⟨(-1, M), (-1, M), ?_, ?_, rfl, QY.r h⟩
      · by_cases c3 : a3 < a2
        · rw [if_pos c3]
        · rw [if_neg c3, if_pos (by omega)]
      · dsimp only
        rw [o2, cl_s, if_neg (fun q => o3.mp q c), k2, if_pos]
        rw [w32_n (by omega)]
        exact (fM_in_0 h3 h2 ⟨by omega, by omega⟩).mpr c2
  · refine ⟨(-1, M), (-1, M), by rw [if_pos (o3.mpr c)], ?_, rfl, QY.r h⟩
    dsimp only
    rw [o2, cl_s, if_pos (o3.mpr c)]
theorem eq_error {F : Nat} {M : bz_Mm} {a1 a2 a3 : Int} {n nf nt nd nl now : Nat} (hF : 500 < F) (h1 : r32 a1) (h2 : r32 a2) (h3 : r32 a3) (h : IQ M n nf nt nd nl now) : ∃ x y, fU_error F M a1 a2 a3 = some x ∧ fM_error F x.2 a1 a2 a3 = some y ∧ w32 x.1 = w32 y.1 ∧ QY M y.2 n nf nt nd nl now := by
  have hI := h.1
  obtain ⟨x, o1, o2, o3⟩ := over_it (F := F) h1 h2 hI
  obtain ⟨k1, k2, k3, k4, k5⟩ := kn_U hI
  unfold fU_error fM_error
  rw [o1, cl_s]
  by_cases c : ovr M nf now a1 a2
  · rw [if_neg (fun q => o3.mp q c), k1, r32_w h2, r32_w h3, w32_n (by omega)]
    by_cases c2 : a2 ≤ a3 ∧ a3 ≤ (knw now : Int)
    · obtain ⟨g, e, rfl, rfl, y3, y4, y5, y6⟩ := c
      obtain ⟨M', y, b1, b2, b3, b4, b5, b6, b7, b8, b9, b10⟩ := right_at (k := a3) hF h (by omega) y3 ⟨y4, y5⟩ c2.1 y6
      obtain ⟨x', p1, p2, p3⟩ := over_it (F := F) h1 h2 b3
      have nf4 := hI.2.1.2.2
      refine ⟨(M' 48 (g * 260 + e) - M' 56 (g * 260 + e), M'), (fM_told (y (212 + g) e - y (196 + g) e), y), ?_, ?_, ?_, b5⟩
      · unfold fUC_errorOn
        rw [if_neg (by omega), if_neg (by omega), b1, cl_s, slot_n, rd_s (by omega) (by decide), rd_s (by omega) (by decide), cl_s]
      · dsimp only
        rw [p2, cl_s, if_neg (fun q => p3.mp q ((ovr_c b4).mpr ⟨g, e, rfl, rfl, y3, y4, y5, y6⟩)), (kn_U b3).2.1, if_neg (fun q => ((fM_in_0 h3 h2 ⟨by omega, by omega⟩).mp (by rw [w32_n (by omega)] at q; exact q)) c2), b2, cl_s, ra_n (by omega) (by decide), rd_s y5 (by decide), ra_n (by omega) (by decide), rd_s y5 (by decide)]
      · dsimp only
        rw [← b6, ← b9, uM_told ⟨by omega, by omega⟩, clp_in (by omega)]
    · refine ⟨(-2147483648, M), (-2147483648, M), ?_, ?_, rfl, QY.r h⟩
      · by_cases c3 : a3 < a2
        · rw [if_pos c3]
        · rw [if_neg c3, if_pos (by omega)]
      · dsimp only
        rw [o2, cl_s, if_neg (fun q => o3.mp q c), k2, if_pos]
        rw [w32_n (by omega)]
        exact (fM_in_0 h3 h2 ⟨by omega, by omega⟩).mpr c2
  · refine ⟨(-2147483648, M), (-2147483648, M), by rw [if_pos (o3.mpr c)], ?_, rfl, QY.r h⟩
    dsimp only
    rw [o2, cl_s, if_pos (o3.mpr c)]
theorem eq_fee {F : Nat} {M : bz_Mm} {a1 a2 a3 : Int} {n nf nt nd nl now : Nat} (hF : 500 < F) (h1 : r32 a1) (h2 : r32 a2) (h3 : r32 a3) (h : IQ M n nf nt nd nl now) : ∃ x y, fU_fee F M a1 a2 a3 = some x ∧ fM_fee F x.2 a1 a2 a3 = some y ∧ w32 x.1 = w32 y.1 ∧ QY M y.2 n nf nt nd nl now := by
  have hI := h.1
  obtain ⟨x, o1, o2, o3⟩ := over_it (F := F) h1 h2 hI
  obtain ⟨k1, k2, k3, k4, k5⟩ := kn_U hI
  have i01 : (w32 (fM_in (w32 a3) 0 1) = 0) ↔ ¬ (0 ≤ a3 ∧ a3 ≤ 1) := by
    rw [r32_w h3]; exact fM_in_0 h3 ⟨by decide, by decide⟩ ⟨by decide, by decide⟩
  unfold fU_fee fM_fee
  rw [o1, cl_s]
  by_cases c : ovr M nf now a1 a2
  · rw [if_neg (fun q => o3.mp q c), k1, r32_w h3]
    by_cases c2 : 0 ≤ a3 ∧ a3 ≤ 1
    · have nf4 := hI.2.1.2.2
      rw [if_neg (by omega), if_neg (by omega)]
      by_cases z : a3 = 0
      · obtain ⟨g, e, rfl, rfl, y3, y4, y5, y6⟩ := c
        have i11 := hI.2.2.2.2.2.2.2.2.2.2.1 g e y3 y4 y6
        refine ⟨(fU_told (M 49 (g * 260 + e)), M), (fM_told (M (217 + g) e), M), ?_, ?_, ?_, QY.r h⟩
        · rw [if_pos z, slot_n, rd_s (by omega) (by decide)]
        · dsimp only
          rw [o2, cl_s, if_neg (fun q => o3.mp q ⟨g, e, rfl, rfl, y3, y4, y5, y6⟩), if_neg (fun q => i01.mp (by rw [r32_w h3]; exact q) c2), if_pos z, ra_n (by omega) (by decide), rd_s y5 (by decide)]
        · dsimp only
          rw [told_eq, i11.2.1]
      · obtain ⟨g, e, rfl, rfl, y3, y4, y5, y6⟩ := c
        obtain ⟨M', y, b1, b2, b3, b4, b5, b6, b7, b8, b9, b10⟩ := right_at (k := (knw now : Int)) hF h (by omega) y3 ⟨y4, y5⟩ (by unfold knw; split <;> omega) y6
        obtain ⟨x', p1, p2, p3⟩ := over_it (F := F) h1 h2 b3
        refine ⟨(fU_told (M' 57 (g * 260 + e)), M'), (fM_told (y (201 + g) e), y), ?_, ?_, ?_, b5⟩
        · rw [if_neg z, b1, cl_s, slot_n, rd_s (by omega) (by decide)]
        · dsimp only
          rw [p2, cl_s, if_neg (fun q => p3.mp q ((ovr_c b4).mpr ⟨g, e, rfl, rfl, y3, y4, y5, y6⟩)), if_neg (fun q => i01.mp (by rw [r32_w h3]; exact q) c2), if_neg z, (kn_U b3).2.1, b2, cl_s, ra_n (by omega) (by decide), rd_s y5 (by decide)]
        · dsimp only
          rw [told_eq, b7]
    · refine ⟨(-1, M), (-1, M), ?_, ?_, rfl, QY.r h⟩
      · by_cases c3 : a3 < 0
        · rw [if_pos c3]
        · rw [if_neg c3, if_pos (by omega)]
      · dsimp only
        rw [o2, cl_s, if_neg (fun q => o3.mp q c), if_pos]
        rw [← r32_w h3]
        exact i01.mpr c2
  · refine ⟨(-1, M), (-1, M), by rw [if_pos (o3.mpr c)], ?_, rfl, QY.r h⟩
    dsimp only
    rw [o2, cl_s, if_pos (o3.mpr c)]
theorem eq_cash {F : Nat} {M : bz_Mm} {a1 a2 : Int} {n nf nt nd nl now : Nat} (hF : 500 < F) (h1 : r32 a1) (h2 : r32 a2) (h : IQ M n nf nt nd nl now) : ∃ x y, fU_cash F M a1 a2 = some x ∧ fM_cash F x.2 a1 a2 = some y ∧ w32 x.1 = w32 y.1 ∧ QY M y.2 n nf nt nd nl now := by
  have hI := h.1
  have nf4 := hI.2.1.2.2
  obtain ⟨k1, k2, k3, k4, k5⟩ := kn_U hI
  have fU := uUS_isFund (M := M) h1 (by rw [hI.2.1.1]; omega)
  have fM : ∀ X, IT X n nf nt nd nl now → ((w32 (fM_isFund X a1) = 0) ↔ ¬ (0 ≤ a1 ∧ a1 < nf)) := fun X hX => by
    have := uM_isFund (M := X) h1 (by rw [hX.2.1.2.1]; omega)
    rw [hX.2.1.2.1] at this; exact this
  rw [hI.2.1.1] at fU
  have i01 : (w32 (fM_in a2 0 1) = 0) ↔ ¬ (0 ≤ a2 ∧ a2 ≤ 1) := fM_in_0 h2 ⟨by decide, by decide⟩ ⟨by decide, by decide⟩
  unfold fU_cash fM_cash
  rw [r32_w h2]
  by_cases c : 0 ≤ a1 ∧ a1 < (nf : Int)
  · rw [if_neg (fun q => fU.mp q c)]
    by_cases c2 : 0 ≤ a2 ∧ a2 ≤ 1
    · obtain ⟨g, rfl⟩ : ∃ g : Nat, a1 = g := ⟨a1.toNat, by omega⟩
      obtain ⟨M', X, q1, q2, q3, q4, q5, q6, _, _, q7, q8, q9, q10⟩ := q_all (k := (knw now : Int)) hF h (by omega)
      rw [k5] at q6
      have n260 := hI.1.2.2
      obtain ⟨p1, p2, _, _, _⟩ := kn_U q2
      have lo := (lo_M (k := (knw now : Int)) q2 (by omega)).1
      rw [k5] at lo
      obtain ⟨⟨s1, s2, s3, s4, s5, s6, s7, s8, s9, s10, s11⟩, _⟩ := q6
      have f104 : ∀ i, i < nd → 0 ≤ X 104 i := fun i hi => by rw [q8 104 (by decide) (by decide)]; exact (q2.2.2.2.2.1.1.2.2 i hi).2.2.1.1
      obtain ⟨v1, v2⟩ := (s5 g (by omega)).2 (by omega)
      rw [feF_0 nd (fun i hi => by rw [(s4 104 (by omega)).1]; exact f104 i hi)] at v1
      rw [feF_0 nd (fun i hi => by rw [(s4 104 (by omega)).2]; exact f104 i hi)] at v2
      dsimp only at v1 v2
      rw [if_neg (by omega), if_neg (by omega), k1, q1, cl_s]
      by_cases z : a2 = 0
      · refine ⟨(fU_told (M' 54 g), M'), (fM_told (wlk nf nt nd 1 now X 188 g), wlk nf nt nd 1 now X), ?_, ?_, ?_, q10 now 1⟩
        · rw [if_pos z, rd_s (by omega) (by decide), cl1_s]
        · dsimp only
          rw [if_neg (fun q => (fM M' q2).mp q c), if_neg (fun q => i01.mp q c2), if_pos z, cl1_s, p2, lo, (q7 now n260).2, cl_s, rd_s (by omega) (by decide)]
        · dsimp only
          rw [told_eq, show M' 54 g = wlk nf nt nd 1 now X 188 g by omega]
      · refine ⟨(fU_told (M' 55 g), M'), (fM_told (wlk nf nt nd 0 now X 188 g), wlk nf nt nd 0 now X), ?_, ?_, ?_, q10 now 0⟩
        · rw [if_neg z, rd_s (by omega) (by decide), cl1_s]
        · dsimp only
          rw [if_neg (fun q => (fM M' q2).mp q c), if_neg (fun q => i01.mp q c2), if_neg z, cl1_s, p2, lo, (q7 now n260).1, cl_s, rd_s (by omega) (by decide)]
        · dsimp only
          rw [told_eq, show M' 55 g = wlk nf nt nd 0 now X 188 g by omega]
    · refine ⟨(-2147483648, M), (-2147483648, M), ?_, ?_, rfl, QY.r h⟩
      · by_cases c3 : a2 < 0
        · rw [if_pos c3]
        · rw [if_neg c3, if_pos (by omega)]
      · dsimp only
        rw [if_neg (fun q => (fM M hI).mp q c), if_pos (i01.mpr c2)]
  · refine ⟨(-2147483648, M), (-2147483648, M), by rw [if_pos (fU.mpr c)], ?_, rfl, QY.r h⟩
    dsimp only
    rw [if_pos ((fM M hI).mpr c)]
