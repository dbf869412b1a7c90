/-! assets, flow, prices, deals: the reference -/
def sumr (t : Nat → Int) : Nat → Nat → Int → Int
  | _, 0, a => a
  | i, m + 1, a => sumr t (i + 1) m (a + t i)
theorem sumr_S (t : Nat → Int) (i m : Nat) (a : Int) : sumr t i (m + 1) a = sumr t (i + 1) m (a + t i) := rfl
def ity {σ : Type} (g : σ → Nat → σ) : Nat → Nat → σ → σ
  | _, 0, s => s
  | i, m + 1, s => ity g (i + 1) m (g s i)
theorem ity_S {σ : Type} (g : σ → Nat → σ) (i m : Nat) (s : σ) : ity g i (m + 1) s = ity g (i + 1) m (g s i) := rfl
def tPx (f d : Nat) (M : bz_Mm) (p : Nat) : Int := (w64 (M (191 + f) p * w32 (M (158 + p) d) * w32 (M (167 + (M 92 p).toNat) d))).tdiv 1000
def tHe (f d : Nat) (M : bz_Mm) (o : Nat) : Int := (w64 (M (206 + o) (16 + f) * M (196 + o) d)).tdiv 100
def sAs (f d : Nat) (M : bz_Mm) : Int := sumr (tHe f d M) 0 f (sumr (tPx f d M) 0 8 (M 188 f))
theorem r_assets {F f d nl nt nd : Nat} (hF : 300 < F) (hf : f < 4) (hd : d < 260) {M : bz_Mm} (hI : RT nl nt nd M) : fM_assets F M (f : Int) (d : Int) = some (sAs f d M) := by
  have k1 : ∀ (m fuel i : Nat) (a : Int), i + m = 8 → m < fuel → M_assets_L10 F fuel M (f : Int) (d : Int) (i : Int) a = some (sumr (tPx f d M) i m a) := by
    intro m
    induction m with
    | zero =>
      intro fuel i a h1 h2
      obtain ⟨fuel, rfl⟩ : ∃ j, fuel = j + 1 := ⟨fuel - 1, by omega⟩
      rw [M_assets_L10, w32_n (by omega), if_neg (by omega)]
      rfl
    | succ m ih =>
      intro fuel i a h1 h2
      obtain ⟨fuel, rfl⟩ : ∃ j, fuel = j + 1 := ⟨fuel - 1, by omega⟩
      have e : (i : Int) + 1 = ((i + 1 : Nat) : Int) := by omega
      have cu := hI.2.2.2.2.2.2.1 i (by omega)
      rw [M_assets_L10, w32_n (show i ≤ 2147483647 by omega), if_pos (by omega), sumr_S]
      simp (disch := omega) only [ra_i, rd_i, Int.toNat_natCast, lt_x]
      rw [e]
      exact ih fuel (i + 1) _ (by omega) (by omega)
  have k2 : ∀ (m fuel i : Nat) (a : Int), i + m = f → m < fuel → M_assets_L69 F fuel M (f : Int) (d : Int) (i : Int) a = some (sumr (tHe f d M) i m a) := by
    intro m
    induction m with
    | zero =>
      intro fuel i a h1 h2
      obtain ⟨fuel, rfl⟩ : ∃ j, fuel = j + 1 := ⟨fuel - 1, by omega⟩
      rw [M_assets_L69, w32_n (show i ≤ 2147483647 by omega), w32_n (show f ≤ 2147483647 by omega), if_neg (by omega)]
      rfl
    | succ m ih =>
      intro fuel i a h1 h2
      obtain ⟨fuel, rfl⟩ : ∃ j, fuel = j + 1 := ⟨fuel - 1, by omega⟩
      have e : (i : Int) + 1 = ((i + 1 : Nat) : Int) := by omega
      have e16 : (16 + (f : Int)).toNat = 16 + f := by omega
      rw [M_assets_L69, w32_n (show i ≤ 2147483647 by omega), w32_n (show f ≤ 2147483647 by omega), if_pos (by omega), sumr_S]
      simp (disch := omega) only [ra_i, rd_i, Int.toNat_natCast, lt_x, e16]
      rw [e]
      exact ih fuel (i + 1) _ (by omega) (by omega)
  have a1 : M_assets_L10 F F M (f : Int) (d : Int) 0 (M 188 f) = _ := k1 8 F 0 (M 188 f) (by decide) (by omega)
  have a2 : M_assets_L69 F F M (f : Int) (d : Int) 0 _ = _ := k2 f F 0 (sumr (tPx f d M) 0 8 (M 188 f)) (by omega) (by omega)
  unfold fM_assets
  rw [rd_s (by omega) (by decide), a1, cl1_s, a2, cl1_s]
  rfl
def sDo (M : bz_Mm) (i : Nat) (new has : Int) : Int := if new = 0 then w32 (M 107 i) else if 0 < w32 (M 105 i) then w32 (M 105 i) else -(fM_near (w32 (-M 105 i)) 0 has)
theorem r_dealtOf {F i : Nat} {M : bz_Mm} {new has : Int} (hi : i < 200) (hn : r32 new) : fM_dealtOf F M (i : Int) new has = some (sDo M i new has) := by
  unfold fM_dealtOf sDo
  rw [r32_w hn]
  simp only [rd_s (show i < 200 from hi) (by decide)]
  repeat' split
  all_goals first | rfl | omega
def gFc (f : Nat) (M : bz_Mm) (w : Nat) : bz_Mm := st_ M 222 w (M (206 + f) w)
def gFl (f d : Nat) (new : Int) (s : Int × bz_Mm) (i : Nat) : Int × bz_Mm := if s.2 104 i = f then (if s.2 106 i = d then (s.1 + sDo s.2 i new (s.2 222 (s.2 103 i).toNat), st_ s.2 222 (s.2 103 i).toNat (s.2 222 (s.2 103 i).toNat + sDo s.2 i new (s.2 222 (s.2 103 i).toNat))) else s) else s
def sFl (f d nd : Nat) (new : Int) (M : bz_Mm) : Int × bz_Mm := ity (gFl f d new) 0 nd (0, itr (gFc f) 0 20 M)
theorem RT.fl {f d nl nt nd : Nat} {new : Int} : ∀ (m i : Nat) (s : Int × bz_Mm), RT nl nt nd s.2 → RT nl nt nd (ity (gFl f d new) i m s).2 := by
  intro m
  induction m with
  | zero => intro i s h; exact h
  | succ m ih =>
    intro i s h
    rw [ity_S]
    refine ih (i + 1) _ ?_
    unfold gFl
    repeat' split
    all_goals first | exact h | exact h.st (by omega)
theorem r_flow {F f d nl nt nd : Nat} {new : Int} (hF : 300 < F) (hf : f < 4) (hd : d < 260) (hnew : r32 new) {M : bz_Mm} (hI : RT nl nt nd M) : fM_flow F M (f : Int) (d : Int) new = some (sFl f d nd new M) ∧ RT nl nt nd (sFl f d nd new M).2 := by
  have k1 : ∀ (m fuel i : Nat) (M : bz_Mm) (l4 : Int), i + m = 20 → m < fuel → M_flow_L6 F fuel l4 (f : Int) (d : Int) new (i : Int) M = some (itr (gFc f) i m M) := by
    intro m
    induction m with
    | zero =>
      intro fuel i M l4 h1 h2
      obtain ⟨fuel, rfl⟩ : ∃ j, fuel = j + 1 := ⟨fuel - 1, by omega⟩
      rw [M_flow_L6, w32_n (by omega), if_neg (by omega)]
      rfl
    | succ m ih =>
      intro fuel i M l4 h1 h2
      obtain ⟨fuel, rfl⟩ : ∃ j, fuel = j + 1 := ⟨fuel - 1, by omega⟩
      have e : (i : Int) + 1 = ((i + 1 : Nat) : Int) := by omega
      rw [M_flow_L6, w32_n (show i ≤ 2147483647 by omega), if_pos (by omega), itr_S]
      simp (disch := omega) only [ra_i, rd_i, wa_i, Int.toNat_natCast]
      rw [e]
      exact ih fuel (i + 1) _ l4 (by omega) (by omega)
  have k2 : ∀ (m fuel i : Nat) (s : Int × bz_Mm), RT nl nt nd s.2 → i + m = nd → m < fuel → M_flow_L38 F fuel (f : Int) (d : Int) new (i : Int) s.1 s.2 = some (ity (gFl f d new) i m s) := by
    intro m
    induction m with
    | zero =>
      intro fuel i s hI h1 h2
      obtain ⟨fuel, rfl⟩ : ∃ j, fuel = j + 1 := ⟨fuel - 1, by omega⟩
      have hn := hI.2.2.1
      rw [M_flow_L38, hn.1, w32_n (show i ≤ 2147483647 by omega), w32_n (show nd ≤ 2147483647 by omega), if_neg (by omega)]
      rfl
    | succ m ih =>
      intro fuel i s hI h1 h2
      obtain ⟨fuel, rfl⟩ : ∃ j, fuel = j + 1 := ⟨fuel - 1, by omega⟩
      have hn := hI.2.2.1
      have e : (i : Int) + 1 = ((i + 1 : Nat) : Int) := by omega
      obtain ⟨t1, t2, t3, t4⟩ := hI.2.2.2.2.2.1 i (by omega)
      have rd : r32 (d : Int) := ⟨by omega, by omega⟩
      have rf : r32 (f : Int) := ⟨by omega, by omega⟩
      rw [M_flow_L38, hn.1, w32_n (show i ≤ 2147483647 by omega), w32_n (show nd ≤ 2147483647 by omega), if_pos (by omega), ity_S]
      simp (disch := omega) only [ra_i, rd_i, wa_i, Int.toNat_natCast, r32_w t2, r32_w t4, r32_w rf, r32_w rd, lt_x, r_dealtOf (show i < 200 by omega) hnew, cl_s]
      rw [e]
      unfold gFl
      by_cases c1 : s.2 104 i = (f : Int)
      · rw [if_pos c1, if_pos c1]
        by_cases c2 : s.2 106 i = (d : Int)
        · rw [if_pos c2, if_pos c2]
          exact ih fuel (i + 1) (_, _) (hI.st (by omega)) (by omega) (by omega)
        · rw [if_neg c2, if_neg c2]; exact ih fuel (i + 1) s hI (by omega) (by omega)
      · rw [if_neg c1, if_neg c1]; exact ih fuel (i + 1) s hI (by omega) (by omega)
  have hn := hI.2.2.1
  have i1 : RT nl nt nd (itr (gFc f) 0 20 M) := RT.itr (fun M i h => h.st (by omega)) _ _ _ hI
  have a1 : M_flow_L6 F F 0 (f : Int) (d : Int) new 0 M = _ := k1 20 F 0 M 0 (by decide) (by omega)
  have a2 : M_flow_L38 F F (f : Int) (d : Int) new 0 0 (itr (gFc f) 0 20 M) = _ := k2 nd F 0 (0, itr (gFc f) 0 20 M) i1 (by omega) (by omega)
  refine ⟨?_, RT.fl nd 0 _ i1⟩
  unfold fM_flow
  rw [a1, cl1_s, a2]
  rfl
def sSw (M : bz_Mm) (f d : Nat) (v fl : Int) : Int := if w64 (rv M f d 2 * M 210 f) < w64 (10000 * (if w64 fl < 0 then -fl else fl)) then fM_near ((w64 (v * (if w64 fl < 0 then 10000 - rv M f d 1 else 10000 + rv M f d 1))).tdiv 10000) 0 10000000 else v
theorem rule_M {F n : Nat} {M : bz_Mm} {f d w : Nat} (hF : 300 < F) (hI : iv_la M n) (hf : f < 4) (hd : d < 260) (hw : w < 12) : fM_ruleOf F M (f : Int) (d : Int) (w : Int) = some (rv M f d w) ∧ fUL_value F M (f : Int) (d : Int) (w : Int) = some (rv M f d w) ∧ rl_ok w (rv M f d w) ∧ w32 (rv M f d w) = rv M f d w := by
  obtain ⟨a, b, c⟩ := rule_both (F := F) (f := (f : Int)) (day := (d : Int)) (w := (w : Int)) (by omega) hI (by omega) ⟨by omega, by omega⟩ (by omega)
  simp only [Int.toNat_natCast] at a b c
  exact ⟨b, a, c, r32_w (vok_r hw (Or.inr c))⟩
theorem r_swung {F f d nl : Nat} {v fl : Int} (hF : 300 < F) (hf : f < 4) (hd : d < 260) {M : bz_Mm} (hL : iv_la M nl) : fM_swung F M (f : Int) (d : Int) v fl = some (sSw M f d v fl) := by
  obtain ⟨b2, _, _, w2⟩ := rule_M (F := F) (w := 2) hF hL hf hd (by decide)
  obtain ⟨b1, _, _, w1⟩ := rule_M (F := F) (w := 1) hF hL hf hd (by decide)
  rw [show ((2 : Nat) : Int) = 2 from rfl] at b2
  rw [show ((1 : Nat) : Int) = 1 from rfl] at b1
  unfold fM_swung sSw
  rw [b2, b1]
  simp only [cl_s, rd_s (show f < 4 from hf) (show 4 ≤ 2147483647 by decide), w2, w1]
  by_cases c : w64 fl < 0
  · simp only [if_pos c, cl1_s]
    split <;> rfl
  · simp only [if_neg c, cl1_s]
    split <;> rfl
def sFee (M : bz_Mm) (f d : Nat) : Int := if w64 (sAs f d M) < 0 then 0 else (w64 (sAs f d M * rv M f d 0)).tdiv 1000000
def sMade (M : bz_Mm) (f d : Nat) : Int := if w64 (M 210 f) = 0 then 10000 else fM_near ((w64 ((sAs f d M - sFee M f d) * 100)).tdiv (w64 (M 210 f))) 0 10000000
def sPm (f d : Nat) (M : bz_Mm) : bz_Mm := st_ (st_ M 188 f (M 188 f - sFee M f d)) (201 + f) d (sFee M f d)
def sPr (f d nd : Nat) (new : Int) (M : bz_Mm) : bz_Mm := st_ (sFl f d nd new (sPm f d M)).2 (196 + f) d (sSw (sFl f d nd new (sPm f d M)).2 f d (sMade M f d) (sFl f d nd new (sPm f d M)).1)
theorem r_prices {F f d nl nt nd : Nat} {new : Int} (hF : 300 < F) (hf : f < 4) (hd : d < 260) (hnew : r32 new) {M : bz_Mm} (hI : RT nl nt nd M) : fM_prices F M (f : Int) (d : Int) new = some (sPr f d nd new M) ∧ RT nl nt nd (sPr f d nd new M) := by
  have hL := hI.2.2.2.2.2.2.2.1
  obtain ⟨b0, _, _, w0⟩ := rule_M (F := F) (w := 0) hF hL hf hd (by decide)
  rw [show ((0 : Nat) : Int) = 0 from rfl] at b0
  have i8 : RT nl nt nd (sPm f d M) := (hI.st (by omega)).st (by omega)
  obtain ⟨fl1, fl2⟩ := r_flow hF hf hd hnew i8
  have sw := r_swung (F := F) (v := sMade M f d) (fl := (sFl f d nd new (sPm f d M)).1) hF hf hd fl2.2.2.2.2.2.2.2.1
  have fee : (if w64 (sAs f d M) < 0 then some 0 else cl_ (some (rv M f d 0)) fun x4 => some ((w64 (sAs f d M * w32 x4)).tdiv 1000000)) = some (sFee M f d) := by
    unfold sFee
    rw [cl_s, w0]
    split <;> rfl
  have e210 : st_ (st_ M 188 f (M 188 f - sFee M f d)) (201 + f) d (sFee M f d) 210 = M 210 := by
    rw [st_ne (by omega), st_ne (by decide)]
  have made : (if w64 (M 210 f) = 0 then some 10000 else rd_ (sPm f d M) 210 (f : Int) 4 fun x12 => dv_ ((sAs f d M - sFee M f d) * 100) x12 fun x13 => some (fM_near x13 0 10000000)) = some (sMade M f d) := by
    have e2 : sPm f d M 210 = M 210 := e210
    unfold sMade
    rw [rd_s hf (by decide), e2]
    by_cases c : w64 (M 210 f) = 0
    · rw [if_pos c, if_pos c]
    · rw [if_neg c, if_neg c]
      unfold dv_
      rw [if_neg c]
  refine ⟨?_, fl2.st (by omega)⟩
  unfold fM_prices
  rw [r_assets hF hf hd hI, cl_s, b0, fee, cl1_s, rd_s hf (by decide), wa_s hf (by decide)]
  simp only [ra_i (show (0 : Int) ≤ (f : Int) by omega) (show (f : Int) < ((4 : Nat) : Int) by omega) (by decide), Int.toNat_natCast, wa_s (show d < 260 from hd) (show 260 ≤ 2147483647 by decide)]
  have ePm : st_ (st_ M 188 f (M 188 f - sFee M f d)) (201 + f) d (sFee M f d) = sPm f d M := rfl
  rw [ePm] at e210 ⊢
  rw [rd_s hf (by decide), e210, made, cl1_s, fl1]
  show cl_ (fM_swung F (sFl f d nd new (sPm f d M)).2 (f : Int) (d : Int) (sMade M f d) (sFl f d nd new (sPm f d M)).1) _ = _
  rw [sw, cl_s]
  rfl
