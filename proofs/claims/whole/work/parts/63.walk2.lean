/-! deals; a day; all days: the reference -/
def sCo (f d : Nat) (bk : Int) (M : bz_Mm) (i : Nat) (u : Int) : Int := if bk = 0 then (if 0 < w64 u then (w64 (u * M (196 + f) d + 99)).tdiv 100 else (w64 (-u * M (196 + f) d)).tdiv 100) else M 109 i
def sDe1 (f : Nat) (M : bz_Mm) (i : Nat) (u c : Int) : bz_Mm := st_ (st_ (st_ (st_ M 189 i c) 188 f (M 188 f + if 0 < w64 u then c else -c)) (206 + f) (M 103 i).toNat (M (206 + f) (M 103 i).toNat + u)) 210 f (M 210 f + u)
def sDe2 (f d : Nat) (bk new : Int) (M : bz_Mm) (i : Nat) (u : Int) : bz_Mm := if new = 0 then sDe1 f M i u (sCo f d bk M i u) else st_ (sDe1 f M i u (sCo f d bk M i u)) 107 i u
def gDe (f d : Nat) (bk new : Int) (M : bz_Mm) (i : Nat) : bz_Mm := if M 104 i = f then (if M 106 i = d then sDe2 f d bk new M i (sDo M i new (M (206 + f) (M 103 i).toNat)) else M) else M
theorem RT.de {f d nl nt nd : Nat} {bk new : Int} {M : bz_Mm} (i : Nat) (h : RT nl nt nd M) : RT nl nt nd (gDe f d bk new M i) := by
  unfold gDe sDe2 sDe1
  repeat' split
  all_goals first | exact h | exact (((h.st (by omega)).st (by omega)).st (by omega)).st (by omega) | exact ((((h.st (by omega)).st (by omega)).st (by omega)).st (by omega)).st (by omega)
theorem r_deals {F f d nl nt nd : Nat} {bk new : Int} (hF : 300 < F) (hf : f < 4) (hd : d < 260) (hbk : r32 bk) (hnew : r32 new) {M : bz_Mm} (hI : RT nl nt nd M) : fM_deals F M (f : Int) (d : Int) bk new = some (itr (gDe f d bk new) 0 nd M) := by
  have key : ∀ (m fuel i : Nat) (M : bz_Mm), RT nl nt nd M → i + m = nd → m < fuel → M_deals_L3 F fuel (f : Int) (d : Int) bk new (i : Int) M = some (itr (gDe f d bk new) i m M) := by
    intro m
    induction m with
    | zero =>
      intro fuel i M hI h1 h2
      obtain ⟨fuel, rfl⟩ : ∃ j, fuel = j + 1 := ⟨fuel - 1, by omega⟩
      have hn := hI.2.2.1
      rw [M_deals_L3, hn.1, w32_n (show i ≤ 2147483647 by omega), w32_n (show nd ≤ 2147483647 by omega), if_neg (by omega)]
      rfl
    | succ m ih =>
      intro fuel i M hI h1 h2
      obtain ⟨fuel, rfl⟩ : ∃ j, fuel = j + 1 := ⟨fuel - 1, by omega⟩
      have hn := hI.2.2.1
      have e : (i : Int) + 1 = ((i + 1 : Nat) : Int) := by omega
      obtain ⟨t1, t2, t3, t4⟩ := hI.2.2.2.2.2.1 i (by omega)
      have rd : r32 (d : Int) := ⟨by omega, by omega⟩
      have rf : r32 (f : Int) := ⟨by omega, by omega⟩
      have i2 : i < 200 := by omega
      have f0 : (0 : Int) ≤ (f : Int) := by omega
      have f4 : (f : Int) < ((4 : Nat) : Int) := by omega
      have nx := ih fuel (i + 1) _ (RT.de (f := f) (d := d) (bk := bk) (new := new) i hI) (by omega) (by omega)
      rw [M_deals_L3, hn.1, w32_n (show i ≤ 2147483647 by omega), w32_n (show nd ≤ 2147483647 by omega), if_pos (by omega), itr_S, rd_s i2 (by decide), r32_w t2, r32_w rf, rd_s i2 (by decide), r32_w t4, r32_w rd, e]
      unfold gDe at nx ⊢
      by_cases c1 : M 104 i = (f : Int)
      · rw [if_pos c1] at nx ⊢
        rw [if_pos c1]
        by_cases c2 : M 106 i = (d : Int)
        · rw [if_pos c2] at nx ⊢
          rw [if_pos c2]
          rw [ra_i f0 f4 (by decide), rd_s i2 (by decide), rd_i t1.1 (by omega) (by decide), Int.toNat_natCast, r_dealtOf i2 hnew, cl_s, r32_w hbk, r32_w hnew]
          generalize sDo M i new (M (206 + f) (M 103 i).toNat) = u at nx ⊢
          have co : (if bk = 0 then (if 0 < w64 u then ra_ (f : Int) 4 fun i11 => rd_ M (196 + i11) (d : Int) 260 fun x12 => wa_ M 189 (i : Int) 200 ((w64 (u * x12 + 99)).tdiv 100) fun m13 => some m13 else ra_ (f : Int) 4 fun i8 => rd_ M (196 + i8) (d : Int) 260 fun x9 => wa_ M 189 (i : Int) 200 ((w64 (-u * x9)).tdiv 100) fun m10 => some m10) else rd_ M 109 (i : Int) 200 fun x14 => wa_ M 189 (i : Int) 200 x14 fun m15 => some m15) = some (st_ M 189 i (sCo f d bk M i u)) := by
            unfold sCo
            rw [ra_i f0 f4 (by decide), ra_i f0 f4 (by decide), Int.toNat_natCast, rd_s hd (by decide), rd_s hd (by decide), rd_s i2 (by decide), wa_s i2 (by decide), wa_s i2 (by decide), wa_s i2 (by decide)]
            repeat' split
            all_goals rfl
          rw [co, cl1_s]
          unfold sDe2 sDe1 at nx ⊢
          generalize sCo f d bk M i u = c at nx ⊢
          have e1 : st_ M 189 i c 188 = M 188 := st_ne (by decide)
          have e2 : st_ M 189 i c 189 i = c := by rw [st_eq, ud_eq]
          have e3 : ∀ v, st_ (st_ M 189 i c) 188 f v 103 = M 103 := fun v => by rw [st_ne (by decide), st_ne (by decide)]
          have e4 : ∀ v, st_ (st_ M 189 i c) 188 f v (206 + f) = M (206 + f) := fun v => by rw [st_ne (by omega), st_ne (by omega)]
          have e5 : ∀ v w z, st_ (st_ (st_ M 189 i c) 188 f v) (206 + f) w z 210 = M 210 := fun v w z => by rw [st_ne (by omega), st_ne (by decide), st_ne (by decide)]
          have sg : (if 0 < w64 u then rd_ (st_ M 189 i c) 189 (i : Int) 200 fun x21 => some x21 else rd_ (st_ M 189 i c) 189 (i : Int) 200 fun x20 => some (-x20)) = some (if 0 < w64 u then c else -c) := by
            rw [rd_s i2 (by decide), rd_s i2 (by decide), e2]
            split <;> rfl
          rw [rd_s hf (by decide), e1, sg, cl1_s, wa_s hf (by decide), ra_i f0 f4 (by decide), rd_s i2 (by decide), Int.toNat_natCast, e3, rd_i t1.1 (by omega) (by decide), e4, wa_i t1.1 (by omega) (by decide), rd_s hf (by decide), e5, wa_s hf (by decide)]
          by_cases cn : new = 0
          · rw [if_pos cn] at nx ⊢
            rw [if_pos cn]; exact nx
          · rw [if_neg cn] at nx ⊢
            rw [if_neg cn, wa_s i2 (by decide)]; exact nx
        · rw [if_neg c2] at nx ⊢
          rw [if_neg c2]; exact nx
      · rw [if_neg c1] at nx ⊢
        rw [if_neg c1]; exact nx
  have hn := hI.2.2.1
  have a : M_deals_L3 F F (f : Int) (d : Int) bk new 0 M = _ := key nd F 0 M hI (by omega) (by omega)
  unfold fM_deals
  rw [a, cl1_s]
/-- whether a day is open, as a Bool -/
def opn (H : Nat → Int) (d : Nat) : Bool := decide (d < 260) && decide (d % 7 < 5) && decide (H d = 0)
theorem opn_t {H : Nat → Int} {d : Nat} : opn H d = true ↔ p_open H (d : Int) := by
  unfold opn p_open
  simp only [Bool.and_eq_true, decide_eq_true_eq, Int.toNat_natCast]
  constructor
  · rintro ⟨⟨a, b⟩, c⟩; exact ⟨by omega, by omega, by omega, c⟩
  · rintro ⟨a, b, c, e⟩; exact ⟨⟨by omega, by omega⟩, e⟩
theorem r_open {F d : Nat} {M : bz_Mm} (hd : d < 1000) (hH : ∀ j, j < 260 → r32 (M 82 j)) : ∃ x : Int, fM_isOpen F M (d : Int) = some x ∧ (w32 x = 0 ↔ ¬ opn (M 82) d = true) := by
  have j : Decidable (p_open (M 82) (d : Int)) := Classical.propDecidable _
  rw [uM_isOpen ⟨by omega, by omega⟩ hH]
  by_cases c : p_open (M 82) (d : Int)
  · exact ⟨1, by rw [if_pos c], by rw [w32_1p, opn_t]; simp [c]⟩
  · exact ⟨0, by rw [if_neg c], by rw [w32_0, opn_t]; simp [c]⟩
def sMo (f d nd : Nat) (bk new : Int) (M : bz_Mm) : bz_Mm := if bk = 0 then sPr f d nd new M else st_ M 188 f (M 188 f - M (217 + f) d)
def gGo (d nt nd : Nat) (bk new : Int) (M : bz_Mm) (f : Nat) : bz_Mm := if opn (M 82) d = true then itr (gDe f d bk new) 0 nd (sMo f d nd bk new (itr (gFe f d) 0 nd (sPap f d nt M))) else itr (gFe f d) 0 nd (sPap f d nt M)
theorem sPap_o {f d nt q : Nat} {M : bz_Mm} (hq : q < 188) : sPap f d nt M q = M q := by
  have k : ∀ (g : bz_Mm → Nat → bz_Mm), (∀ M i, g M i q = M q) → ∀ (m i : Nat) (M : bz_Mm), itr g i m M q = M q := by
    intro g hg m
    induction m with
    | zero => intro i M; rfl
    | succ m ih => intro i M; rw [itr_S, ih, hg]
  unfold sPap
  rw [k, k, k]
  · intro M i; unfold gPs; rw [st_ne (by omega)]
  · intro M i; unfold gPd; rw [st_ne (by omega)]
  · intro M i; unfold gPt; repeat' split
    all_goals first | rfl | rw [st_ne (by omega), st_ne (by omega)]
theorem itr_o {q : Nat} {g : bz_Mm → Nat → bz_Mm} (hg : ∀ M i, g M i q = M q) : ∀ (m i : Nat) (M : bz_Mm), itr g i m M q = M q := by
  intro m
  induction m with
  | zero => intro i M; rfl
  | succ m ih => intro i M; rw [itr_S, ih, hg]
theorem gFe_o {f d q : Nat} (hq : q ≠ 188) (M : bz_Mm) (i : Nat) : gFe f d M i q = M q := by
  unfold gFe
  repeat' split
  all_goals first | rfl | rw [st_ne hq]
theorem gDe_o {f d q : Nat} {bk new : Int} (hq : q < 188) (h7 : q ≠ 107) (M : bz_Mm) (i : Nat) : gDe f d bk new M i q = M q := by
  unfold gDe sDe2 sDe1
  repeat' split
  all_goals first | rfl | rw [st_ne (by omega), st_ne (by omega), st_ne (by omega), st_ne (by omega), st_ne (by omega)] | rw [st_ne (by omega), st_ne (by omega), st_ne (by omega), st_ne (by omega)]
theorem r_go {F d nl nt nd : Nat} {bk new : Int} (hF : 300 < F) (hd : d < 260) (hbk : r32 bk) (hnew : r32 new) {M : bz_Mm} (hI : RT nl nt nd M) {nf : Nat} (hnf : M 81 19 = nf) : ∃ M', M_goesThrough_L36 F F bk new (d : Int) 0 M = some M' ∧ M' = itr (gGo d nt nd bk new) 0 nf M ∧ RT nl nt nd M' := by
  have key : ∀ (m fuel f : Nat) (M : bz_Mm), RT nl nt nd M → M 81 19 = nf → f + m = nf → m < fuel → M_goesThrough_L36 F fuel bk new (d : Int) (f : Int) M = some (itr (gGo d nt nd bk new) f m M) ∧ RT nl nt nd (itr (gGo d nt nd bk new) f m M) := by
    intro m
    induction m with
    | zero =>
      intro fuel f M hI hnf h1 h2
      obtain ⟨fuel, rfl⟩ : ∃ j, fuel = j + 1 := ⟨fuel - 1, by omega⟩
      have h4 := hI.1
      refine ⟨?_, hI⟩
      rw [M_goesThrough_L36, hnf, w32_n (show f ≤ 2147483647 by omega), w32_n (show nf ≤ 2147483647 by omega), if_neg (by omega)]
      rfl
    | succ m ih =>
      intro fuel f M hI hnf h1 h2
      obtain ⟨fuel, rfl⟩ : ∃ j, fuel = j + 1 := ⟨fuel - 1, by omega⟩
      have h4 := hI.1
      have hf : f < 4 := by omega
      have e : (f : Int) + 1 = ((f + 1 : Nat) : Int) := by omega
      have i5 : RT nl nt nd (sPap f d nt M) := hI.pap nt
      have i6 : RT nl nt nd (itr (gFe f d) 0 nd (sPap f d nt M)) := RT.itr (fun M i h => h.fe i) _ _ _ i5
      have o82 : itr (gFe f d) 0 nd (sPap f d nt M) 82 = M 82 := by rw [itr_o (gFe_o (by decide)), sPap_o (by decide)]
      have o81 : itr (gFe f d) 0 nd (sPap f d nt M) 81 = M 81 := by rw [itr_o (gFe_o (by decide)), sPap_o (by decide)]
      obtain ⟨x, x1, x2⟩ := r_open (F := F) (d := d) (M := itr (gFe f d) 0 nd (sPap f d nt M)) (by omega) i6.2.2.2.2.2.2.2.2
      rw [o82] at x2
      rw [M_goesThrough_L36, hnf, w32_n (show f ≤ 2147483647 by omega), w32_n (show nf ≤ 2147483647 by omega), if_pos (by omega), r_papers hF hf hd hI, cl_s, r_feeds hF hf hd i5, cl_s, x1, cl_s, e, itr_S]
      unfold gGo
      by_cases c : opn (M 82) d = true
      · rw [if_neg (fun q => x2.mp q c), if_pos c]
        have mo : (if w32 bk = 0 then cl_ (fM_prices F (itr (gFe f d) 0 nd (sPap f d nt M)) (f : Int) (d : Int) new) fun m9 => some m9 else rd_ (itr (gFe f d) 0 nd (sPap f d nt M)) 188 (f : Int) 4 fun x10 => ra_ (f : Int) 4 fun i11 => rd_ (itr (gFe f d) 0 nd (sPap f d nt M)) (217 + i11) (d : Int) 260 fun x12 => wa_ (itr (gFe f d) 0 nd (sPap f d nt M)) 188 (f : Int) 4 (x10 - x12) fun m13 => some m13) = some (sMo f d nd bk new (itr (gFe f d) 0 nd (sPap f d nt M))) ∧ RT nl nt nd (sMo f d nd bk new (itr (gFe f d) 0 nd (sPap f d nt M))) ∧ sMo f d nd bk new (itr (gFe f d) 0 nd (sPap f d nt M)) 81 = M 81 := by
          generalize itr (gFe f d) 0 nd (sPap f d nt M) = X at i6 o81
          unfold sMo
          rw [r32_w hbk]
          by_cases cb : bk = 0
          · obtain ⟨p1, p2⟩ := r_prices (F := F) hF hf hd hnew i6
            rw [if_pos cb, if_pos cb, p1, cl_s]
            refine ⟨rfl, p2, ?_⟩
            unfold sPr
            rw [st_ne (by omega)]
            have : ∀ (m i : Nat) (s : Int × bz_Mm), (ity (gFl f d new) i m s).2 81 = s.2 81 := by
              intro m
              induction m with
              | zero => intro i s; rfl
              | succ m ih =>
                intro i s
                rw [ity_S, ih]
                unfold gFl
                repeat' split
                all_goals first | rfl | exact st_ne (by decide)
            unfold sFl
            rw [this]
            show itr (gFc f) 0 20 (sPm f d X) 81 = _
            rw [itr_o (fun M i => by unfold gFc; exact st_ne (by decide))]
            unfold sPm
            rw [st_ne (by omega), st_ne (by decide)]; exact o81
          · rw [if_neg cb, if_neg cb, rd_s hf (by decide), ra_i (by omega) (by omega) (by decide), Int.toNat_natCast, rd_s hd (by decide), wa_s hf (by decide)]
            exact ⟨rfl, i6.st (by omega), by rw [st_ne (by decide)]; exact o81⟩
        obtain ⟨m1, m2, m3⟩ := mo
        rw [m1, cl1_s, r_deals hF hf hd hbk hnew m2, cl_s]
        refine ih fuel (f + 1) _ (RT.itr (fun M i h => h.de i) _ _ _ m2) ?_ (by omega) (by omega)
        rw [itr_o (q := 81) (fun M i => ?_), m3]
        · exact hnf
        · exact gDe_o (by decide) (by decide) M i
      · rw [if_pos (x2.mpr c), if_neg c]
        exact ih fuel (f + 1) _ i6 (by rw [o81]; exact hnf) (by omega) (by omega)
  have h4 := hI.1
  obtain ⟨a, b⟩ := key nf F 0 M hI hnf (by omega) (by omega)
  exact ⟨_, a, rfl, b⟩
theorem gFl_o {f d q : Nat} {new : Int} (hq : q ≠ 222) : ∀ (m i : Nat) (s : Int × bz_Mm), (ity (gFl f d new) i m s).2 q = s.2 q := by
  intro m
  induction m with
  | zero => intro i s; rfl
  | succ m ih =>
    intro i s
    rw [ity_S, ih]
    unfold gFl
    repeat' split
    all_goals first | rfl | exact st_ne hq
theorem sPr_o {f d nd q : Nat} {new : Int} {M : bz_Mm} (hq : q < 188) : sPr f d nd new M q = M q := by
  unfold sPr
  rw [st_ne (by omega)]
  unfold sFl
  rw [gFl_o (by omega)]
  show itr (gFc f) 0 20 (sPm f d M) q = _
  rw [itr_o (fun M i => by unfold gFc; exact st_ne (by omega))]
  unfold sPm
  rw [st_ne (by omega), st_ne (by omega)]
theorem gGo_o {d nt nd q : Nat} {bk new : Int} (hq : q < 188) (h7 : q ≠ 107) (M : bz_Mm) (f : Nat) : gGo d nt nd bk new M f q = M q := by
  unfold gGo
  split
  · rw [itr_o (gDe_o hq h7)]
    unfold sMo
    split
    · rw [sPr_o hq, itr_o (gFe_o (by omega)), sPap_o hq]
    · rw [st_ne (by omega), itr_o (gFe_o (by omega)), sPap_o hq]
  · rw [itr_o (gFe_o (by omega)), sPap_o hq]
/-! all days -/
def hNew (how last d : Nat) : Int := if how = 1 ∧ d = last then 1 else 0
def hBk (how last d : Nat) : Int := if how = 0 then 0 else if how = 1 ∧ d = last then 0 else 1
def gDay (how last nf nt nd : Nat) (M : bz_Mm) (d : Nat) : bz_Mm := itr (gGo d nt nd (hBk how last d) (hNew how last d)) 0 nf M
theorem gDay_o {how last nf nt nd q : Nat} (hq : q < 188) (h7 : q ≠ 107) (M : bz_Mm) (d : Nat) : gDay how last nf nt nd M d q = M q := by
  unfold gDay
  exact itr_o (gGo_o hq h7) _ _ _
theorem r_goes {F how last d nl nt nd nf : Nat} (hF : 300 < F) (hd : d < 260) (hl : last < 260) (hh : how < 3) {M : bz_Mm} (hI : RT nl nt nd M) (hnf : M 81 19 = nf) : fM_goesThrough F M (d : Int) (how : Int) (last : Int) = some (gDay how last nf nt nd M d) ∧ RT nl nt nd (gDay how last nf nt nd M d) := by
  have b1 : r32 (hBk how last d) := by unfold hBk r32; repeat' split
                                       all_goals omega
  have b2 : r32 (hNew how last d) := by unfold hNew r32; split <;> omega
  obtain ⟨M', a1, a2, a3⟩ := r_go (F := F) hF hd b1 b2 hI hnf
  have e1 : (if w32 (how : Int) = 1 then if w32 (d : Int) = w32 (last : Int) then some (1 : Int) else some 0 else some 0) = some (hNew how last d) := by
    unfold hNew
    rw [w32_n (by omega), w32_n (by omega), w32_n (by omega)]
    repeat' split
    all_goals first | rfl | (exfalso; omega)
  have e2 : (if w32 (how : Int) = 0 then some (0 : Int) else if w32 (hNew how last d) = 0 then some 1 else some 0) = some (hBk how last d) := by
    rw [r32_w b2, w32_n (by omega)]
    unfold hBk hNew
    repeat' split
    all_goals first | rfl | (exfalso; omega)
  unfold fM_goesThrough
  rw [e1, cl1_s, e2, cl1_s, a1, cl1_s]
  refine ⟨?_, ?_⟩
  · rw [a2]; rfl
  · rw [a2] at a3; exact a3
theorem r_thr {F how last nl nt nd nf : Nat} (hF : 300 < F) (hl : last < 260) (hh : how < 3) : ∀ (m fuel d : Nat) (M : bz_Mm), RT nl nt nd M → M 81 19 = nf → d + m = last + 1 → m < fuel → M_through_L12 F fuel (last : Int) (how : Int) (d : Int) M = some (itr (gDay how last nf nt nd) d m M) ∧ RT nl nt nd (itr (gDay how last nf nt nd) d m M) := by
  intro m
  induction m with
  | zero =>
    intro fuel d M hI hnf h1 h2
    obtain ⟨fuel, rfl⟩ : ∃ j, fuel = j + 1 := ⟨fuel - 1, by omega⟩
    refine ⟨?_, hI⟩
    rw [M_through_L12, w32_n (by omega), w32_n (by omega), if_pos (by omega)]
    rfl
  | succ m ih =>
    intro fuel d M hI hnf h1 h2
    obtain ⟨fuel, rfl⟩ : ∃ j, fuel = j + 1 := ⟨fuel - 1, by omega⟩
    obtain ⟨a1, a2⟩ := r_goes (F := F) (how := how) (last := last) (d := d) hF (by omega) hl hh hI hnf
    have e : (d : Int) + 1 = ((d + 1 : Nat) : Int) := by omega
    rw [M_through_L12, w32_n (by omega), w32_n (by omega), if_neg (by omega), a1, cl_s, e, itr_S]
    exact ih fuel (d + 1) _ a2 (by rw [gDay_o (by decide) (by decide)]; exact hnf) (by omega) (by omega)
