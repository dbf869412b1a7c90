/-! claim, house, beside -/
theorem rv_fr {n nl g : Nat} {k : Int} {w : Nat} {M y : bz_Mm} (hL : iv_la M nl) (h : FR n M y) (hg : g < 4) : rv y g k w = rv M g k w := rv_c (fun q a b => h.1 q (by omega)) (h.2.2.1 43 (by decide)) (by have := hL.2.1; have := hL.2.2.1; omega) g hg k w
theorem who_it {M : bz_Mm} {w f : Int} {n nf nt nd nl nh now : Nat} (h1 : r32 w) (h2 : r32 f) (hI : IT M n nf nt nd nl now) (hH : IH M nf nd nh) : ((w32 (fUS_isWho M w f) = 0) ↔ ¬ p_who nh nf w f) ∧ (p_who nh nf w f → ∃ p g : Nat, f = g ∧ g < nf ∧ p < 20 ∧ fM_placeOf M w = p ∧ w = (wc p : Int) ∧ ¬ (w32 (fM_canHold M p f) = 0)) ∧ (¬ p_who nh nf w f → w32 (fM_placeOf M w) = -1 ∨ (¬ w32 (fM_placeOf M w) = -1 ∧ w32 (fM_canHold M (fM_placeOf M w) f) = 0)) := by
  have nf4 := hI.2.1.2.2
  have nh16 := hH.1.2.2
  have uw := uUS_isWho (M := M) h1 h2 (by rw [hI.2.1.1]; omega) (by rw [hH.1.1]; omega)
  rw [hI.2.1.1, hH.1.1] at uw
  have pm := uM_placeOf (M := M) h1 (by rw [hI.2.1.2.1]; omega) (by rw [hH.1.2.1]; omega)
  rw [hI.2.1.2.1, hH.1.2.1] at pm
  have fi := (fund_it h2 hI).2
  refine ⟨uw, fun c => ?_, fun c => ?_⟩
  · obtain ⟨cf, c⟩ := c
    rcases c with c | c
    · refine ⟨w.toNat, f.toNat, by omega, by omega, by omega, ?_, ?_, ?_⟩
      · rw [pm]; unfold plc; rw [if_pos c]; omega
      · unfold wc; rw [if_pos (by omega)]; omega
      · unfold fM_canHold
        rw [if_neg (fun q => fi.mp q cf), w32_n (by omega), if_pos (by omega)]; decide
    · refine ⟨(w - 4).toNat, f.toNat, by omega, by omega, by omega, ?_, ?_, ?_⟩
      · rw [pm]; unfold plc; rw [if_neg (by omega), if_pos (by omega)]; omega
      · unfold wc; rw [if_neg (by omega)]; omega
      · unfold fM_canHold
        rw [if_neg (fun q => fi.mp q cf), w32_n (by omega), if_neg (by omega), r32_w h2, w32_id (x := (((w - 4).toNat : Nat) : Int) - 16) (by omega) (by omega), if_pos (by omega)]; decide
  · rw [pm]
    unfold plc
    by_cases c1 : 0 ≤ w ∧ w < (nh : Int)
    · rw [if_pos c1]
      right
      refine ⟨by rw [r32_w h1]; omega, ?_⟩
      unfold fM_canHold
      rw [if_pos (fi.mpr (fun q => c ⟨q, Or.inl c1⟩))]; decide
    · rw [if_neg c1]
      by_cases c2 : 20 ≤ w ∧ w - 20 < (nf : Int)
      · rw [if_pos c2]
        right
        refine ⟨by rw [w32_id (x := 16 + w - 20) (by omega) (by omega)]; omega, ?_⟩
        unfold fM_canHold
        by_cases c3 : 0 ≤ f ∧ f < (nf : Int)
        · rw [if_neg (fun q => fi.mp q c3), w32_id (x := 16 + w - 20) (by omega) (by omega), if_neg (by omega), r32_w h2, w32_id (x := 16 + w - 20 - 16) (by omega) (by omega), if_neg]
          · decide
          · intro q
            exact c ⟨c3, Or.inr ⟨by omega, by omega, by omega⟩⟩
        · rw [if_pos (fi.mpr c3)]; decide
      · rw [if_neg c2]; left; decide
theorem kd_it {M : bz_Mm} {k : Int} {n nf nt nd nl now : Nat} (h1 : r32 k) (hI : IT M n nf nt nd nl now) : (w32 (fM_isKnownDay M k) = 0) ↔ ¬ (0 ≤ k ∧ k ≤ (knw now : Int)) := by
  obtain ⟨k1, k2, k3, _⟩ := kn_U hI
  unfold fM_isKnownDay
  rw [k2, w32_n (by omega), r32_w h1]
  exact fM_in_0 h1 ⟨by decide, by decide⟩ ⟨by omega, by omega⟩
/-- with the fund's own rule of errors -/
theorem ask_both {F : Nat} {M : bz_Mm} {k : Int} {g n nf nt nd nl nh now : Nat} (hF : 500 < F) (h : IQ M n nf nt nd nl now) (hH : IH M nf nd nh) (hk : 0 ≤ k ∧ k ≤ 259) (hg : g < nf) : ∃ (M' M2 : bz_Mm), (fUC_walkTo F M k = some M' ∧ fUQ_gather F M' (g : Int) k = some M2) ∧ ((QY M M' n nf nt nd nl now ∧ ((-30000000000000000 ≤ M2 55 g ∧ M2 55 g ≤ 30000000000000000) ∧ -30000000000000000 ≤ M2 54 g ∧ M2 54 g ≤ 30000000000000000)) ∧ ∀ Z, (∀ q, (q < 68 ∨ 76 < q) → Z q = M2 q) → QY M Z n nf nt nd nl now) ∧ (M2 65 3 = g ∧ M2 65 4 = k) ∧ ∀ Zr : bz_Mm, (∀ q, (q < 68 ∨ 76 < q) → Zr q = M2 q) → ∃ (y z : bz_Mm) (sm wy : Nat → Int), (fM_asks1 F Zr (g : Int) k = some y ∧ ∀ yr : bz_Mm, (∀ q, q ≠ 230 → yr q = y q) → ∃ zr : bz_Mm, fM_through F yr (fM_lastOver yr k) k 2 = some zr ∧ QY M zr n nf nt nd nl now ∧ (∀ p, p < 20 → zr 225 p = sm p ∧ zr 226 p = wy p) ∧ zr 188 g = M2 54 g ∧ zr 230 = yr 230) ∧ QY M y n nf nt nd nl now ∧ (∀ p, p < 20 → M2 66 (wc p) = y 223 p ∧ M2 67 (wc p) = y 224 p ∧ y 225 p = sm p ∧ y 226 p = wy p ∧ (-1000000000000 ≤ sm p ∧ sm p ≤ 1000000000000) ∧ (0 ≤ wy p ∧ wy p ≤ 3) ∧ (sm p ≤ 0 → wy p = 0)) ∧ sm (16 + g) = 0 ∧ (∀ Z : bz_Mm, (∀ q, (q < 68 ∨ 76 < q) → Z q = M2 q) → (∀ p, p < 20 → fUQ_sumOf F Z (wc p : Int) = some (sm p) ∧ fUQ_wayOf F Z (wc p : Int) = some (wy p)) ∧ ∀ x : Nat, 16 ≤ x → x < 20 → fUQ_sumOf F Z (x : Int) = some 0 ∧ fUQ_wayOf F Z (x : Int) = some 0) ∧ y 188 g = M2 55 g := by
  have hL := h.1.2.2.2.2.2.2.1
  have nf4 := h.1.2.1.2.2
  have g4 : g < 4 := by omega
  have k60 : 0 ≤ k ∧ k < 260 := by omega
  obtain ⟨-, -, ru3, -⟩ := rule_k (F := F) (n := nl) (f := g) (w := 4) (M := M) (k := k) (by omega) hL g4 k60 (by decide)
  obtain ⟨M', M2, ⟨a1, a2⟩, ⟨⟨b1, bb⟩, b2⟩, g5, rest⟩ := clm_both (be := rv M g k 4) hF h hH hk hg (rl4 ru3)
  refine ⟨M', M2, ⟨a1, ?_⟩, ⟨⟨b1, bb⟩, b2⟩, g5, fun Zr hZr => ?_⟩
  · obtain ⟨-, rw2, -, -⟩ := rule_k (F := F) (n := nl) (f := g) (w := 4) (M := M') (k := k) (by omega) b1.1.1.2.2.2.2.2.2.1 g4 k60 (by decide)
    rw [show ((4 : Nat) : Int) = 4 from rfl] at rw2
    unfold fUQ_gather
    rw [rw2, cl_s, rv_fr hL b1.2.1 g4, a2, cl_s]
  · obtain ⟨y, z, sm, wy, ⟨d1, d2⟩, rest'⟩ := rest Zr hZr
    refine ⟨y, z, sm, wy, ⟨?_, d2⟩, rest'⟩
    obtain ⟨rw1, -, -, -⟩ := rule_k (F := F) (n := nl) (f := g) (w := 4) (M := Zr) (k := k) (by omega) (b2 Zr hZr).1.1.2.2.2.2.2.2.1 g4 k60 (by decide)
    rw [show ((4 : Nat) : Int) = 4 from rfl] at rw1
    unfold fM_asks1
    rw [rw1, cl_s, rv_fr hL (b2 Zr hZr).2.1 g4, d1, cl_s]
theorem eq_claim {F : Nat} {M : bz_Mm} {a1 a2 a3 a4 : Int} {n nf nt nd nl nh now : Nat} (hF : 500 < F) (h1 : r32 a1) (h2 : r32 a2) (h3 : r32 a3) (h4 : r32 a4) (h : IQ M n nf nt nd nl now) (hH : IH M nf nd nh) : ∃ x y, fU_claim F M a1 a2 a3 a4 = some x ∧ fM_claim F x.2 a1 a2 a3 a4 = some y ∧ w32 x.1 = w32 y.1 ∧ QY M y.2 n nf nt nd nl now := by
  have hI := h.1
  obtain ⟨k1, k2, k3, k4, k5⟩ := kn_U hI
  obtain ⟨w1, w2, w3⟩ := who_it h1 h2 hI hH
  have i03 : (w32 (fM_in a4 0 3) = 0) ↔ ¬ (0 ≤ a4 ∧ a4 ≤ 3) := fM_in_0 h4 ⟨by decide, by decide⟩ ⟨by decide, by decide⟩
  by_cases c1 : p_who nh nf a1 a2
  · by_cases c2 : 0 ≤ a3 ∧ a3 ≤ (knw now : Int)
    · by_cases c3 : 0 ≤ a4 ∧ a4 ≤ 3
      · obtain ⟨p, g, rfl, hg, hp, pl, wp, ch⟩ := w2 c1
        obtain ⟨M', M2, ⟨b1, b2⟩, ⟨q1, q2a⟩, s65, rest⟩ := ask_both (k := a3) hF h hH (by omega) hg
        obtain ⟨y, z, sm, wy, ⟨b3, b4⟩, q3, cl, _, su, _⟩ := rest M2 (fun _ _ => rfl)
        have q2 := q2a M2 (fun _ _ => rfl)
        obtain ⟨x1, x2, x3, x4, _⟩ := cl p hp
        obtain ⟨s1, s2⟩ := (su M2 (fun _ _ => rfl)).1 p hp
        have hI2 := q2.1.1
        have hH2 := hH.fr q2.2.1
        obtain ⟨_, v2, _⟩ := who_it h1 h2 hI2 hH2
        obtain ⟨p', g', hg', hg2, hp', pl', wp', ch'⟩ := v2 c1
        have ep : p' = p := by
          rw [wp] at wp'
          unfold wc at wp'
          by_cases t1 : p < 16 <;> by_cases t2 : p' < 16
          · rw [if_pos t1, if_pos t2] at wp'; omega
          · rw [if_pos t1, if_neg t2] at wp'; omega
          · rw [if_neg t1, if_pos t2] at wp'; omega
          · rw [if_neg t1, if_neg t2] at wp'; omega
        rw [ep] at pl' ch'
        have cls : ∀ (v : Int) (r : bz_Mm → Option (Int × bz_Mm)), r M2 = some (v, M2) → (if w32 (fUS_isWho M a1 (g : Int)) = 0 then some ((-2147483648 : Int), M) else if w32 a3 < 0 then some (-2147483648, M) else if w32 (fUS_latestKnown M) < w32 a3 then some (-2147483648, M) else if w32 a4 < 0 then some (-2147483648, M) else if 3 < w32 a4 then some (-2147483648, M) else cl_ (fUC_walkTo F M a3) fun m1 => cl_ (fUQ_gather F m1 (g : Int) a3) r) = some (v, M2) := fun v r hr => by
          rw [if_neg (fun q => w1.mp q c1), r32_w h3, if_neg (by omega), k1, w32_n (show knw now ≤ 2147483647 by omega), if_neg (by omega), r32_w h4, if_neg (by omega), if_neg (by omega), b1, cl_s, b2, cl_s, hr]
        have rfs : ∀ (v : Int) (r : bz_Mm → Option (Int × bz_Mm)), r y = some (v, y) → (if w32 (p : Int) = -1 then some ((-2147483648 : Int), M2) else if w32 (fM_canHold M2 (p : Int) (g : Int)) = 0 then some (-2147483648, M2) else if w32 (fM_isKnownDay M2 a3) = 0 then some (-2147483648, M2) else if w32 (fM_in (w32 a4) 0 3) = 0 then some (-2147483648, M2) else cl_ (fM_asks1 F M2 (g : Int) a3) r) = some (v, y) := fun v r hr => by
          rw [if_neg (by rw [w32_n (show p ≤ 2147483647 by omega)]; omega), if_neg ch', if_neg (fun q => (kd_it h3 hI2).mp q c2), if_neg (fun q => i03.mp (by rw [r32_w h4] at q; exact q) c3), b3, cl_s, hr]
        unfold fU_claim fM_claim
        rw [wp] at wp'
        by_cases z0 : a4 = 0
        · refine ⟨(fU_told (M2 66 (wc p)), M2), (fM_told (y 223 p), y), cls _ _ ?_, ?_, by dsimp only; rw [told_eq, x1], q3⟩
          · rw [r32_w h4, if_pos z0, wp, rd_s (wc_r hp) (by decide)]
          · dsimp only
            rw [pl', lt_x]
            refine rfs _ _ ?_
            rw [r32_w h4, if_pos z0, rd_s hp (by decide)]
        · by_cases z1 : a4 = 1
          · refine ⟨(fU_told (M2 67 (wc p)), M2), (fM_told (y 224 p), y), cls _ _ ?_, ?_, by dsimp only; rw [told_eq, x2], q3⟩
            · rw [r32_w h4, if_neg z0, if_pos z1, wp, rd_s (wc_r hp) (by decide)]
            · dsimp only
              rw [pl', lt_x]
              refine rfs _ _ ?_
              rw [r32_w h4, if_neg z0, if_pos z1, rd_s hp (by decide)]
          · by_cases z2 : a4 = 2
            · refine ⟨(fU_told (sm p), M2), (fM_told (y 225 p), y), cls _ _ ?_, ?_, by dsimp only; rw [told_eq, x3], q3⟩
              · rw [r32_w h4, if_neg z0, if_neg z1, if_pos z2, wp, s1, cl_s]
              · dsimp only
                rw [pl', lt_x]
                refine rfs _ _ ?_
                rw [r32_w h4, if_neg z0, if_neg z1, if_pos z2, rd_s hp (by decide)]
            · refine ⟨(wy p, M2), (y 226 p, y), cls _ _ ?_, ?_, by dsimp only; rw [x4], q3⟩
              · rw [r32_w h4, if_neg z0, if_neg z1, if_neg z2, wp, s2, cl_s]
              · dsimp only
                rw [pl', lt_x]
                refine rfs _ _ ?_
                rw [r32_w h4, if_neg z0, if_neg z1, if_neg z2, rd_s hp (by decide)]
      · obtain ⟨p, g, rfl, hg, hp, pl, wp, ch⟩ := w2 c1
        refine ⟨(-2147483648, M), (-2147483648, M), ?_, ?_, rfl, QY.r h⟩
        · unfold fU_claim
          rw [if_neg (fun q => w1.mp q c1), r32_w h3, if_neg (by omega), k1, w32_n (show knw now ≤ 2147483647 by omega), if_neg (by omega), r32_w h4]
          by_cases z : a4 < 0
          · rw [if_pos z]
          · rw [if_neg z, if_pos (by omega)]
        · unfold fM_claim
          dsimp only
          rw [pl, lt_x, if_neg (by rw [w32_n (show p ≤ 2147483647 by omega)]; omega), if_neg ch, if_neg (fun q => (kd_it h3 hI).mp q c2), if_pos]
          rw [r32_w h4]; exact i03.mpr c3
    · obtain ⟨p, g, rfl, hg, hp, pl, wp, ch⟩ := w2 c1
      refine ⟨(-2147483648, M), (-2147483648, M), ?_, ?_, rfl, QY.r h⟩
      · unfold fU_claim
        rw [if_neg (fun q => w1.mp q c1), r32_w h3]
        by_cases z : a3 < 0
        · rw [if_pos z]
        · rw [if_neg z, k1, w32_n (show knw now ≤ 2147483647 by omega), if_pos (by omega)]
      · unfold fM_claim
        dsimp only
        rw [pl, lt_x, if_neg (by rw [w32_n (show p ≤ 2147483647 by omega)]; omega), if_neg ch, if_pos ((kd_it h3 hI).mpr c2)]
  · refine ⟨(-2147483648, M), (-2147483648, M), ?_, ?_, rfl, QY.r h⟩
    · unfold fU_claim
      rw [if_pos (w1.mpr c1)]
    · unfold fM_claim
      dsimp only
      rw [lt_x]
      rcases w3 c1 with t | t
      · rw [if_pos t]
      · rw [if_neg t.1, if_pos t.2]
/-- sums over all who, in either numbering -/
theorem sum24 {tc tr : Nat → Int} {a : Int} (h1 : ∀ p, p < 20 → tc (wc p) = tr p) (h2 : ∀ x, 16 ≤ x → x < 20 → tc x = 0) : sumr tc 0 24 a = sumr tr 0 20 a := by
  have sp : ∀ (t : Nat → Int) (m j i : Nat) (a : Int), sumr t i (m + j) a = sumr t (i + m) j (sumr t i m a) := by
    intro t m
    induction m with
    | zero => intro j i a; rw [Nat.zero_add]; rfl
    | succ m ih => intro j i a; rw [show m + 1 + j = (m + j) + 1 by omega, sumr_S, sumr_S, ih, show i + 1 + m = i + (m + 1) by omega]
  have e1 : sumr tc 0 24 a = sumr tc 20 4 (sumr tc 16 4 (sumr tc 0 16 a)) := by
    rw [show (24 : Nat) = 16 + 8 from rfl, sp, show (8 : Nat) = 4 + 4 from rfl, sp]
  have e2 : sumr tr 0 20 a = sumr tr 16 4 (sumr tr 0 16 a) := by
    rw [show (20 : Nat) = 16 + 4 from rfl, sp]
  have e3 : sumr tc 0 16 a = sumr tr 0 16 a := sumr_c 16 0 a (fun j hj y => by
    have := h1 j (by omega)
    unfold wc at this
    rw [if_pos (by omega)] at this
    rw [this])
  have e4 : ∀ b, sumr tc 16 4 b = b := fun b => by
    show b + tc 16 + tc 17 + tc 18 + tc 19 = b
    rw [h2 16 (by omega) (by omega), h2 17 (by omega) (by omega), h2 18 (by omega) (by omega), h2 19 (by omega) (by omega)]; omega
  have e5 : ∀ b, sumr tc 20 4 b = sumr tr 16 4 b := fun b => by
    show b + tc 20 + tc 21 + tc 22 + tc 23 = b + tr 16 + tr 17 + tr 18 + tr 19
    have t0 := h1 16 (by omega)
    have t1 := h1 17 (by omega)
    have t2 := h1 18 (by omega)
    have t3 := h1 19 (by omega)
    rw [show wc 16 = 20 from rfl] at t0
    rw [show wc 17 = 21 from rfl] at t1
    rw [show wc 18 = 22 from rfl] at t2
    rw [show wc 19 = 23 from rfl] at t3
    omega
  rw [e1, e2, e3, e4, e5]
theorem wc_all {x : Nat} (h : x < 24) : (16 ≤ x ∧ x < 20) ∨ ∃ p, p < 20 ∧ x = wc p := by
  by_cases c : 16 ≤ x ∧ x < 20
  · exact Or.inl c
  · right
    by_cases d : x < 16
    · exact ⟨x, by omega, by unfold wc; rw [if_pos d]⟩
    · exact ⟨x - 4, by omega, by unfold wc; rw [if_neg (by omega)]; omega⟩
/-- the class's who, as the reference's party, or none -/
def smC (sm : Nat → Int) (x : Nat) : Int := if x < 16 then sm x else if x < 20 then 0 else sm (x - 4)
theorem smC_w {sm : Nat → Int} {p : Nat} (h : p < 20) : smC sm (wc p) = sm p := by
  unfold smC wc
  by_cases c : p < 16
  · rw [if_pos c, if_pos c]
  · rw [if_neg c, if_neg (by omega), if_neg (by omega), show p + 4 - 4 = p by omega]
theorem smC_z {sm : Nat → Int} {x : Nat} (h1 : 16 ≤ x) (h2 : x < 20) : smC sm x = 0 := by
  unfold smC
  rw [if_neg (by omega), if_pos h2]
theorem u_above {F : Nat} {Z : bz_Mm} {sm : Nat → Int} (hF : 300 < F) (h : ∀ x : Nat, x < 24 → fUQ_sumOf F Z (x : Int) = some (smC sm x)) (hb : ∀ x : Nat, x < 24 → r64 (smC sm x)) : fUQ_sumAboveZero F Z = some (sumr (fun x => posX (smC sm x)) 0 24 0) := by
  have lp : ∀ (m fuel x : Nat) (a : Int), x + m = 24 → m < fuel → UQ_sumAboveZero_L5 F fuel Z (x : Int) a = some (sumr (fun x => posX (smC sm x)) x m a) := by
    intro m
    induction m with
    | zero =>
      intro fuel x a e1 e2
      obtain ⟨fuel, rfl⟩ : ∃ j, fuel = j + 1 := ⟨fuel - 1, by omega⟩
      rw [UQ_sumAboveZero_L5, w32_n (show x ≤ 2147483647 by omega), if_neg (by omega)]; rfl
    | succ m ih =>
      intro fuel x a e1 e2
      obtain ⟨fuel, rfl⟩ : ∃ j, fuel = j + 1 := ⟨fuel - 1, by omega⟩
      rw [UQ_sumAboveZero_L5, w32_n (show x ≤ 2147483647 by omega), if_pos (by omega), h x (by omega), cl_s, lt_x, posX_U (hb x (by omega)), show (x : Int) + 1 = ((x + 1 : Nat) : Int) by omega, ih fuel (x + 1) _ (by omega) (by omega), sumr_S]
  have t := lp 24 F 0 0 (by omega) (by omega)
  rw [show ((0 : Nat) : Int) = 0 from rfl] at t
  unfold fUQ_sumAboveZero
  rw [t, cl1_s]
theorem r_above {F : Nat} {y : bz_Mm} (hF : 300 < F) (hb : ∀ p, p < 20 → r64 (y 225 p)) : M_beside_L39 F F y 0 0 = some (sumr (fun p => posX (y 225 p)) 0 20 0) := by
  have lp : ∀ (m fuel x : Nat) (a : Int), x + m = 20 → m < fuel → M_beside_L39 F fuel y (x : Int) a = some (sumr (fun p => posX (y 225 p)) x m a) := by
    intro m
    induction m with
    | zero =>
      intro fuel x a e1 e2
      obtain ⟨fuel, rfl⟩ : ∃ j, fuel = j + 1 := ⟨fuel - 1, by omega⟩
      rw [M_beside_L39, w32_n (show x ≤ 2147483647 by omega), if_neg (by omega)]; rfl
    | succ m ih =>
      intro fuel x a e1 e2
      obtain ⟨fuel, rfl⟩ : ∃ j, fuel = j + 1 := ⟨fuel - 1, by omega⟩
      rw [M_beside_L39, w32_n (show x ≤ 2147483647 by omega), if_pos (by omega), rd_s (by omega) (by decide), r64_w (hb x (by omega)), show (x : Int) + 1 = ((x + 1 : Nat) : Int) by omega, sumr_S]
      unfold posX
      by_cases c : 0 < y 225 x
      · rw [if_pos c, rd_s (by omega) (by decide), lt_x, if_pos c]
        exact ih fuel (x + 1) _ (by omega) (by omega)
      · rw [if_neg c, lt_x, if_neg c]
        exact ih fuel (x + 1) _ (by omega) (by omega)
  exact lp 20 F 0 0 (by omega) (by omega)
theorem eq_beside {F : Nat} {M : bz_Mm} {a1 a2 : Int} {n nf nt nd nl nh now : Nat} (hF : 500 < F) (h1 : r32 a1) (h2 : r32 a2) (h : IQ M n nf nt nd nl now) (hH : IH M nf nd nh) : ∃ x y, fU_beside F M a1 a2 = some x ∧ fM_beside F x.2 a1 a2 = some y ∧ w32 x.1 = w32 y.1 ∧ QY M y.2 n nf nt nd nl now := by
  have hI := h.1
  obtain ⟨k1, k2, k3, k4, k5⟩ := kn_U hI
  obtain ⟨fU, fM⟩ := fund_it h1 hI
  have i0 : (w32 (fM_in a2 0 5000) = 0) ↔ ¬ (0 ≤ a2 ∧ a2 ≤ 5000) := fM_in_0 h2 ⟨by decide, by decide⟩ ⟨by decide, by decide⟩
  unfold fU_beside fM_beside
  rw [r32_w h2]
  by_cases c : 0 ≤ a1 ∧ a1 < (nf : Int)
  · rw [if_neg (fun q => fU.mp q c)]
    by_cases c2 : 0 ≤ a2 ∧ a2 ≤ 5000
    · obtain ⟨g, rfl⟩ : ∃ g : Nat, a1 = g := ⟨a1.toNat, by omega⟩
      obtain ⟨M', M2, ⟨b1, b2⟩, ⟨q1, q2a⟩, s65, rest⟩ := clm_both (k := (knw now : Int)) (be := a2) (g := g) hF h hH (by omega) (by omega) c2
      obtain ⟨y, z, sm, wy, ⟨b3, b4⟩, q3, cl, _, su, _⟩ := rest M2 (fun _ _ => rfl)
      have q2 := q2a M2 (fun _ _ => rfl)
      have sb : ∀ p, p < 20 → r64 (sm p) := fun p hp => by
        have := (cl p hp).2.2.2.2.1
        exact ⟨by omega, by omega⟩
      obtain ⟨sw, sz⟩ := su M2 (fun _ _ => rfl)
      have uu := u_above (F := F) (Z := M2) (sm := sm) (by omega) (fun x hx => by
        rcases wc_all hx with t | ⟨p, hp, e⟩
        · rw [smC_z t.1 t.2]; exact (sz x t.1 t.2).1
        · rw [e, smC_w hp]; exact (sw p hp).1) (fun x hx => by
        rcases wc_all hx with t | ⟨p, hp, e⟩
        · rw [smC_z t.1 t.2]; exact ⟨by decide, by decide⟩
        · rw [e, smC_w hp]; exact sb p hp)
      have rr := r_above (F := F) (y := y) (by omega) (fun p hp => by rw [(cl p hp).2.2.1]; exact sb p hp)
      have es : sumr (fun x => posX (smC sm x)) 0 24 0 = sumr (fun p => posX (y 225 p)) 0 20 0 := sum24 (fun p hp => by rw [smC_w hp, (cl p hp).2.2.1]) (fun x x1 x2 => by rw [smC_z x1 x2]; rfl)
      rw [if_neg (by omega), if_neg (by omega), lt_x, k1, b1, cl_s, b2, cl_s, uu, cl_s]
      refine ⟨_, (fM_told (sumr (fun p => posX (y 225 p)) 0 20 0), y), rfl, ?_, ?_, q3⟩
      · dsimp only
        rw [if_neg (fun q => (fund_it h1 q2.1.1).2.mp q c), if_neg (fun q => i0.mp q c2), (kn_U q2.1.1).2.1, b3, cl_s, rr, cl1_s]
      · dsimp only
        rw [told_eq, es]
    · refine ⟨(-2147483648, M), (-2147483648, M), ?_, ?_, rfl, QY.r h⟩
      · by_cases c3 : a2 < 0
        · rw [if_pos c3]
        · rw [if_neg c3, if_pos (by omega)]
      · dsimp only
        rw [if_neg (fun q => fM.mp q c), if_pos (i0.mpr c2)]
  · refine ⟨(-2147483648, M), (-2147483648, M), by rw [if_pos (fU.mpr c)], ?_, rfl, QY.r h⟩
    dsimp only
    rw [if_pos (fM.mpr c)]
