/-! what comes ahead of the assets: both sides -/
theorem sumr_a (t : Nat → Int) : ∀ (m i : Nat) (a : Int), sumr t i m a = a + sumr t i m 0 := by
  intro m
  induction m with
  | zero => intro i a; show a = a + 0; omega
  | succ m ih =>
    intro i a
    rw [sumr_S, sumr_S, ih (i + 1) (a + t i), ih (i + 1) (0 + t i)]
    omega
theorem sumr_c {t u : Nat → Int} : ∀ (m i : Nat) (a : Int), (∀ j, i ≤ j → j < i + m → t j = u j) → sumr t i m a = sumr u i m a := by
  intro m
  induction m with
  | zero => intro i a _; rfl
  | succ m ih =>
    intro i a h
    rw [sumr_S, sumr_S, h i (Nat.le_refl i) (by omega)]
    exact ih (i + 1) _ (fun j x y => h j (by omega) (by omega))
theorem sumr_z {t : Nat → Int} : ∀ (m i : Nat), (∀ j, i ≤ j → j < i + m → t j = 0) → sumr t i m 0 = 0 := by
  intro m
  induction m with
  | zero => intro i _; rfl
  | succ m ih =>
    intro i h
    rw [sumr_S, h i (Nat.le_refl i) (by omega)]
    exact ih (i + 1) (fun j x y => h j (by omega) (by omega))
theorem itr_pc {g : bz_Mm → Nat → bz_Mm} {r : Nat} {v : Nat → Int → Int} (h1 : ∀ W i, g W i r = ud (W r) i (v i (W r i))) : ∀ (m i : Nat) (W : bz_Mm), (∀ p, i ≤ p → p < i + m → itr g i m W r p = v p (W r p)) ∧ ∀ p, (p < i ∨ i + m ≤ p) → itr g i m W r p = W r p := by
  intro m
  induction m with
  | zero => intro i W; exact ⟨fun p a b => by omega, fun p _ => rfl⟩
  | succ m ih =>
    intro i W
    obtain ⟨a, b⟩ := ih (i + 1) (g W i)
    rw [itr_S]
    refine ⟨fun p x y => ?_, fun p hp => ?_⟩
    · by_cases c : p = i
      · subst c; rw [b p (by omega), h1, ud_eq]
      · rw [a p (by omega) (by omega), h1, ud_ne c]
    · rw [b p (by omega), h1, ud_ne (by omega)]
theorem sPap_cl {f d nt : Nat} {W : bz_Mm} (hf : f < 4) (hcu : ∀ p, p < 8 → 0 ≤ W 92 p ∧ W 92 p < 3) (h98 : ∀ u, u < nt → 0 ≤ W 98 u) : (∀ p, p < 8 → sPap f d nt W (191 + f) p = pcT W f d (W 81 61) p (pSp2 (W (191 + f) p) (W (180 + p) d)) nt) ∧ sPap f d nt W 188 f = W 188 f + (sumr (tDv (fun p => pSp2 (W (191 + f) p) (W (180 + p) d)) (fun p => W (171 + p) d) (fun p => W (167 + (W 92 p).toNat) d)) 0 8 0 + csT W f d (W 81 61) nt) ∧ (∀ q, q ≠ 188 → q ≠ 191 + f → sPap f d nt W q = W q) ∧ ∀ j, j ≠ f → sPap f d nt W 188 j = W 188 j := by
  -- splits
  have sFr : ∀ q, q ≠ 191 + f → ∀ W p, gPs f d W p q = W q := fun q hq W p => by unfold gPs; exact st_ne hq
  have sp : ∀ p, p < 8 → itr (gPs f d) 0 8 W (191 + f) p = pSp2 (W (191 + f) p) (W (180 + p) d) := by
    have key : ∀ (m i : Nat) (X : bz_Mm), i + m ≤ 8 → (∀ q, q ≠ 191 + f → X q = W q) → (∀ p, i ≤ p → p < i + m → itr (gPs f d) i m X (191 + f) p = pSp2 (X (191 + f) p) (W (180 + p) d)) ∧ ∀ p, p < i → itr (gPs f d) i m X (191 + f) p = X (191 + f) p := by
      intro m
      induction m with
      | zero => intro i X _ _; exact ⟨fun p a b => by omega, fun p _ => rfl⟩
      | succ m ih =>
        intro i X h8 hX
        obtain ⟨a, b⟩ := ih (i + 1) (gPs f d X i) (by omega) (fun q hq => by rw [sFr q hq]; exact hX q hq)
        have e : gPs f d X i (191 + f) = ud (X (191 + f)) i (pSp2 (X (191 + f) i) (W (180 + i) d)) := by
          unfold gPs pSp2
          rw [st_eq, hX (180 + i) (by omega)]
        rw [itr_S]
        refine ⟨fun p x y => ?_, fun p hp => ?_⟩
        · by_cases c : p = i
          · subst c
            rw [b p (by omega), e, ud_eq]
          · rw [a p (by omega) (by omega), e, ud_ne c]
        · rw [b p (by omega), e, ud_ne (by omega)]
    intro p hp
    exact (key 8 0 W (by decide) (fun _ _ => rfl)).1 p (by omega) (by omega)
  have sO : ∀ q, q ≠ 191 + f → itr (gPs f d) 0 8 W q = W q := fun q hq => itr_o (sFr q hq) _ _ _
  generalize hY : itr (gPs f d) 0 8 W = Y at sp sO
  -- dividends
  have dFr : ∀ q, q ≠ 188 → ∀ W p, gPd f d W p q = W q := fun q hq W p => by unfold gPd; exact st_ne hq
  have dv : ∀ (m i : Nat) (X : bz_Mm), i + m ≤ 8 → (∀ q, q ≠ 188 → X q = Y q) → itr (gPd f d) i m X 188 f = sumr (tDv (fun p => pSp2 (W (191 + f) p) (W (180 + p) d)) (fun p => W (171 + p) d) (fun p => W (167 + (W 92 p).toNat) d)) i m (X 188 f) ∧ ∀ j, j ≠ f → itr (gPd f d) i m X 188 j = X 188 j := by
    intro m
    induction m with
    | zero => intro i X _ _; exact ⟨rfl, fun _ _ => rfl⟩
    | succ m ih =>
      intro i X h8 hX
      obtain ⟨a, b⟩ := ih (i + 1) (gPd f d X i) (by omega) (fun q hq => by rw [dFr q hq]; exact hX q hq)
      have cu := hcu i (by omega)
      have e : gPd f d X i 188 = ud (X 188) f (X 188 f + tDv (fun p => pSp2 (W (191 + f) p) (W (180 + p) d)) (fun p => W (171 + p) d) (fun p => W (167 + (W 92 p).toNat) d) i) := by
        unfold gPd tDv
        rw [st_eq, hX (191 + f) (by omega), hX (171 + i) (by omega), hX 92 (by decide), sO 92 (by omega), hX (167 + (W 92 i).toNat) (by omega), sp i (by omega), sO (171 + i) (by omega), sO (167 + (W 92 i).toNat) (by omega)]
      rw [itr_S, sumr_S]
      refine ⟨?_, fun j hj => by rw [b j hj, e, ud_ne hj]⟩
      rw [a, e, ud_eq]
  obtain ⟨dv1, dv2⟩ := dv 8 0 Y (by decide) (fun _ _ => rfl)
  have dO : ∀ q, q ≠ 188 → itr (gPd f d) 0 8 Y q = Y q := fun q hq => itr_o (dFr q hq) _ _ _
  have y188 : Y 188 = W 188 := sO 188 (by omega)
  rw [y188] at dv1 dv2
  generalize hZ : itr (gPd f d) 0 8 Y = Z at dv1 dv2 dO
  -- trades
  have tFr : ∀ q, q ≠ 188 → q ≠ 191 + f → ∀ W t, gPt f d W t q = W q := fun q h1 h2 W t => by
    unfold gPt
    repeat' split
    all_goals first | rfl | rw [st_ne h1, st_ne h2]
  have tr : ∀ (m t : Nat) (X : bz_Mm), (∀ q, q ≠ 188 → q ≠ 191 + f → X q = W q) → (∀ p, X (191 + f) p = pcT W f d (W 81 61) p (Z (191 + f) p) t) → X 188 f = Z 188 f + csT W f d (W 81 61) t → (∀ j, j ≠ f → X 188 j = Z 188 j) → (∀ u, u < t + m → 0 ≤ W 98 u) → (∀ p, itr (gPt f d) t m X (191 + f) p = pcT W f d (W 81 61) p (Z (191 + f) p) (t + m)) ∧ itr (gPt f d) t m X 188 f = Z 188 f + csT W f d (W 81 61) (t + m) ∧ ∀ j, j ≠ f → itr (gPt f d) t m X 188 j = Z 188 j := by
    intro m
    induction m with
    | zero => intro t X _ h1 h2 h3 _; exact ⟨h1, h2, h3⟩
    | succ m ih =>
      intro t X hX h1 h2 h3 h4
      rw [itr_S, show t + (m + 1) = (t + 1) + m by omega]
      have key : gPt f d X t = if mtc W f d (W 81 61) t = true then st_ (st_ X (191 + f) (W 98 t).toNat (fM_near (X (191 + f) (W 98 t).toNat + w32 (W 100 t)) (-1000000) 1000000)) 188 f (X 188 f + w32 (W 101 t)) else X := by
        unfold gPt mtc
        rw [hX 97 (by decide) (by omega), hX 99 (by decide) (by omega), hX 81 (by decide) (by omega), hX 102 (by decide) (by omega), hX 98 (by decide) (by omega), hX 100 (by decide) (by omega), hX 101 (by decide) (by omega)]
        simp only [Bool.and_eq_true, decide_eq_true_eq]
        by_cases c1 : W 97 t = (f : Int)
        · by_cases c2 : W 99 t = (d : Int)
          · by_cases c3 : W 81 61 < W 102 t
            · rw [if_pos c1, if_pos c2, if_pos c3, if_neg (fun q => q.2 c3)]
            · rw [if_pos c1, if_pos c2, if_neg c3, if_pos ⟨⟨c1, c2⟩, c3⟩]
          · rw [if_pos c1, if_neg c2, if_neg (fun q => c2 q.1.2)]
        · rw [if_neg c1, if_neg (fun q => c1 q.1.1)]
      have p0 := h4 t (by omega)
      refine ih (t + 1) _ (fun q x y => by rw [tFr q x y]; exact hX q x y) (fun p => ?_) ?_ (fun j hj => ?_) (fun u hu => h4 u (by omega))
      · rw [key, pcT_S]
        by_cases c : mtc W f d (W 81 61) t = true
        · rw [if_pos c, st_ne (by omega), st_eq]
          by_cases e : p = (W 98 t).toNat
          · subst e
            rw [ud_eq, if_pos ⟨c, by omega⟩, h1]
          · rw [ud_ne e, if_neg (by rintro ⟨_, q⟩; omega), h1]
        · rw [if_neg c, if_neg (fun q => c q.1), h1]
      · rw [key, csT_S]
        by_cases c : mtc W f d (W 81 61) t = true
        · rw [if_pos c, if_pos c, st_eq, ud_eq, h2]; omega
        · rw [if_neg c, if_neg c, h2]; omega
      · rw [key]
        by_cases c : mtc W f d (W 81 61) t = true
        · rw [if_pos c, st_eq, ud_ne hj, st_ne (by omega)]; exact h3 j hj
        · rw [if_neg c]; exact h3 j hj
  obtain ⟨t1, t2, t3⟩ := tr nt 0 Z (fun q x y => by rw [dO q x, sO q y]) (fun p => rfl) (by show _ = _ + 0; omega) (fun _ _ => rfl) (by rw [Nat.zero_add]; exact h98)
  rw [Nat.zero_add] at t1 t2
  have eS : sPap f d nt W = itr (gPt f d) 0 nt Z := by unfold sPap; rw [hY, hZ]
  refine ⟨fun p hp => ?_, ?_, fun q x y => ?_, fun j hj => ?_⟩
  · rw [eS, t1 p, dO (191 + f) (by omega), sp p hp]
  · rw [eS, t2, dv1, sumr_a _ 8 0 (W 188 f)]; omega
  · rw [eS, itr_o (tFr q x y), dO q x, sO q y]
  · rw [eS, t3 j hj, dv2 j hj]
/-- what a day brings a fund's cash ahead of assets -/
def dcx (R : bz_Mm) (f D : Nat) (k : Int) (nt : Nat) (pc sp dv rt : Nat → Int) : Int := sumr (tDv (fun p => pSp2 (pc p) (sp p)) dv rt) 0 8 0 + csT R f D k nt
theorem dcx_c {R R' : bz_Mm} {f D : Nat} {k : Int} {nt : Nat} {pc pc' sp sp' dv dv' rt rt' : Nat → Int} (hR : csT R f D k nt = csT R' f D k nt) (h : ∀ p, p < 8 → pc p = pc' p ∧ sp p = sp' p ∧ dv p = dv' p ∧ rt p = rt' p) : dcx R f D k nt pc sp dv rt = dcx R' f D k nt pc' sp' dv' rt' := by
  unfold dcx
  rw [hR]
  congr 1
  refine sumr_c 8 0 0 (fun j _ y => ?_)
  obtain ⟨a, b, c, e⟩ := h j (by omega)
  unfold tDv
  dsimp only
  rw [a, b, c, e]
/-- the class's day, as far as the day's deals -/
theorem uUC_openDay {F n nf nt nd D a1 a2 a3 : Nat} {k : Int} {M R : bz_Mm} (hF : 500 < F) (hD : D < 260) (hk : r32 k) (hnf : nf ≤ 4) (h14 : M 1 14 = nf) (hA : AL M R n) (hT : TA M R nf nt) (hn : M 34 2 = nd) (hc : nd ≤ 200) (hb : by_ok (M 35) (M 36) nd) (hC : ∀ p, p < 8 → 0 ≤ M 6 p ∧ M 6 p < 3) (hP : PCR M nf) (hG : FLG M) (p1 : M 53 13 = a1) (p2 : M 53 14 = a2) (p3 : M 53 16 = a3) (q1 : ptr (M 10) (M 11) n a1 D) (q2 : ptr (M 26) (M 27) nt a2 D) (q3 : ptr (M 35) (M 36) nd a3 D) : ∃ (M' : bz_Mm) (b1 b2 b3 : Nat), fUC_openDay F M (D : Int) k 0 = some M' ∧ (∀ q, q ≠ 53 → q ≠ 54 → q ≠ 55 → q ≠ 58 → (q < 61 ∨ 64 < q) → M' q = M q) ∧ (∀ j, (j < 11 ∨ 16 < j) → M' 53 j = M 53 j) ∧ (M' 53 13 = b1 ∧ ptr (M 10) (M 11) n b1 ((D : Int) + 1)) ∧ (M' 53 14 = b2 ∧ ptr (M 26) (M 27) nt b2 ((D : Int) + 1)) ∧ (M' 53 15 = a3 ∧ M' 53 16 = b3 ∧ a3 ≤ b3 ∧ ptr (M 35) (M 36) nd b3 ((D : Int) + 1) ∧ ∀ j, a3 ≤ j → j < b3 → M 35 (M 36 j).toNat = D) ∧ FLG M' ∧ (∀ s nr, s < 2 → nr < 8 → M' (61 + s) nr = lv R s nr k D n (M (61 + s) nr)) ∧ (∀ f p, f < nf → p < 8 → M' 58 (f * 8 + p) = pcT R f D k p (pSp2 (M 58 (f * 8 + p)) (lv R 3 p k D n 1000)) nt) ∧ ∀ f, f < nf → M' 54 f = M 54 f + dcx R f D k nt (fun p => M 58 (f * 8 + p)) (fun p => lv R 3 p k D n 1000) (fun p => lv R 2 p k D n 0) (fun p => lv R 1 (M 6 p).toNat k D n (M 62 (M 6 p).toNat)) ∧ M' 55 f = M 55 f + dcx R f D k nt (fun p => M 58 (f * 8 + p)) (fun p => lv R 3 p k D n 1000) (fun p => lv R 2 p k D n 0) (fun p => lv R 1 (M 6 p).toNat k D n (M 62 (M 6 p).toNat)) := by
  obtain ⟨M1, l1, l2, l3, ⟨b1, l4, l5⟩, l6, l7, l8⟩ := uUC_learn hF hD hk hA p1 q1 hG
  -- splits
  have sp : ∃ M2, (if w32 (M1 53 12) = 0 then some M1 else cl_ (fUC_splitPieces F M1 (M1 1 14)) fun m6 => some m6) = some M2 ∧ (∀ q, q ≠ 58 → M2 q = M1 q) ∧ ∀ f p, f < nf → p < 8 → M2 58 (f * 8 + p) = pSp2 (M 58 (f * 8 + p)) (lv R 3 p k D n 1000) := by
    have e58 : M1 58 = M 58 := l2 58 (by decide) (by decide)
    rcases l6.2.1 with g | g
    · refine ⟨M1, by rw [g, if_pos w32_0], fun _ _ => rfl, fun f p x y => ?_⟩
      have := l6.2.2.2 g p y
      rw [(l8 p y).2] at this
      rw [this, e58]
      exact (near_1000 (hP f p x y)).symm
    · obtain ⟨M2, s1, s2, s3⟩ := uUC_split (F := F) (M := M1) (nf := nf) (by omega) hnf (fun f p x y => by rw [e58]; exact hP f p x y)
      refine ⟨M2, ?_, s2, fun f p x y => by rw [s3 f p x y, e58, (l8 p y).2]⟩
      rw [g, if_neg (by decide), l2 1 (by decide) (by decide), h14, s1, cl_s]
  obtain ⟨M2, s1, s2, s3⟩ := sp
  -- dividends
  have dv : ∃ M3, (if w32 (M2 53 11) = 0 then some M2 else cl_ (fUC_payDividends F M2) fun m9 => some m9) = some M3 ∧ (∀ q, q ≠ 54 → q ≠ 55 → M3 q = M2 q) ∧ ∀ f, f < nf → M3 54 f = M 54 f + sumr (tDv (fun p => pSp2 (M 58 (f * 8 + p)) (lv R 3 p k D n 1000)) (fun p => lv R 2 p k D n 0) (fun p => lv R 1 (M 6 p).toNat k D n (M 62 (M 6 p).toNat))) 0 8 0 ∧ M3 55 f = M 55 f + sumr (tDv (fun p => pSp2 (M 58 (f * 8 + p)) (lv R 3 p k D n 1000)) (fun p => lv R 2 p k D n 0) (fun p => lv R 1 (M 6 p).toNat k D n (M 62 (M 6 p).toNat))) 0 8 0 := by
    have e53 : M2 53 = M1 53 := s2 53 (by decide)
    have e54 : M2 54 = M 54 := by rw [s2 54 (by decide), l2 54 (by decide) (by decide)]
    have e55 : M2 55 = M 55 := by rw [s2 55 (by decide), l2 55 (by decide) (by decide)]
    rw [e53]
    rcases l6.1 with g | g
    · refine ⟨M2, by rw [g, if_pos w32_0], fun _ _ _ => rfl, fun f hf => ?_⟩
      have z : sumr (tDv (fun p => pSp2 (M 58 (f * 8 + p)) (lv R 3 p k D n 1000)) (fun p => lv R 2 p k D n 0) (fun p => lv R 1 (M 6 p).toNat k D n (M 62 (M 6 p).toNat))) 0 8 0 = 0 := sumr_z 8 0 (fun j _ y => by
        have := l6.2.2.1 g j (by omega)
        rw [(l8 j (by omega)).1] at this
        unfold tDv
        dsimp only
        rw [this, w32_0, Int.mul_zero, Int.zero_mul]
        decide)
      rw [z, e54, e55, Int.add_zero, Int.add_zero]; exact ⟨rfl, rfl⟩
    · have e6 : M2 6 = M 6 := by rw [s2 6 (by decide), l2 6 (by decide) (by decide)]
      obtain ⟨M3, d1, d2, d3⟩ := uUC_pay (F := F) (M := M2) (nf := nf) (by omega) hnf (by rw [s2 1 (by decide), l2 1 (by decide) (by decide)]; exact h14) (fun f p x y => by rw [s3 f p x y]; exact pSp2_r _ _) (by rw [e6]; exact hC)
      refine ⟨M3, by rw [g, if_neg (by decide), d1, cl_s], d2, fun f hf => ?_⟩
      have ec : ∀ a, sumr (tDv (fun p => M2 58 (f * 8 + p)) (M2 63) (fun p => M2 62 (M2 6 p).toNat)) 0 8 a = a + sumr (tDv (fun p => pSp2 (M 58 (f * 8 + p)) (lv R 3 p k D n 1000)) (fun p => lv R 2 p k D n 0) (fun p => lv R 1 (M 6 p).toNat k D n (M 62 (M 6 p).toNat))) 0 8 0 := fun a => by
        rw [sumr_a]
        congr 1
        refine sumr_c 8 0 0 (fun j _ y => ?_)
        have cj := hC j (by omega)
        unfold tDv
        dsimp only
        have e62 : M2 62 (M 6 j).toNat = lv R 1 (M 6 j).toNat k D n (M 62 (M 6 j).toNat) := by
          rw [s2 62 (by decide)]
          exact l7 1 (M 6 j).toNat (by decide) (by omega)
        rw [s3 f j hf (by omega), s2 63 (by decide), (l8 j (by omega)).1, e6, e62]
      rw [(d3 f hf).1, (d3 f hf).2, ec, ec, e54, e55]; exact ⟨rfl, rfl⟩
  obtain ⟨M3, d1, d2, d3⟩ := dv
  have fr3 : ∀ q, q ≠ 53 → q ≠ 54 → q ≠ 55 → q ≠ 58 → (q < 61 ∨ 64 < q) → M3 q = M q := fun q x1 x2 x3 x4 x5 => by rw [d2 q x2 x3, s2 q x4, l2 q x1 x5]
  have e53 : M3 53 = M1 53 := by rw [d2 53 (by decide) (by decide), s2 53 (by decide)]
  have e26 : M3 26 = M 26 := fr3 26 (by decide) (by decide) (by decide) (by decide) (by decide)
  have e27 : M3 27 = M 27 := fr3 27 (by decide) (by decide) (by decide) (by decide) (by decide)
  obtain ⟨M4, t1, t2, t3, ⟨b2, t4, t5⟩, t6, t7⟩ := uUC_trades (F := F) (k := k) (M0 := M3) (R := R) (nf := nf) (nt := nt) (D := D) (a := a2) (by omega) hD hk hnf (hT.c (fun q hq => fr3 q (by omega) (by omega) (by omega) (by omega) (by omega))) (by rw [e53, l3 14 (by decide) (by decide) (by decide)]; exact p2) (by rw [e26, e27]; exact q2) (fun f p x y => by rw [d2 58 (by decide) (by decide), s3 f p x y]; exact pSp2_r _ _)
  have fr4 : ∀ q, q ≠ 53 → q ≠ 54 → q ≠ 55 → q ≠ 58 → (q < 61 ∨ 64 < q) → M4 q = M q := fun q x1 x2 x3 x4 x5 => by rw [t2 q x1 x2 x3 x4, fr3 q x1 x2 x3 x4 x5]
  have e35 : M4 35 = M 35 := fr4 35 (by decide) (by decide) (by decide) (by decide) (by decide)
  have e36 : M4 36 = M 36 := fr4 36 (by decide) (by decide) (by decide) (by decide) (by decide)
  obtain ⟨b3, f1, f2, f3, f4⟩ := uUC_find (F := F) (M0 := M4) (nd := nd) (D := D) (a := a3) (by omega) hD (by rw [fr4 34 (by decide) (by decide) (by decide) (by decide) (by decide)]; exact hn) hc (by rw [e35, e36]; exact hb) (by rw [t3 16 (by decide), e53, l3 16 (by decide) (by decide) (by decide)]; exact p3) (by rw [e35, e36]; exact q3)
  rw [e35, e36] at f3 f4
  rw [e26, e27] at t5
  refine ⟨st_ (st_ M4 53 15 (a3 : Int)) 53 16 (b3 : Int), b1, b2, b3, ?_, fun q x1 x2 x3 x4 x5 => by rw [st_ne x1, st_ne x1]; exact fr4 q x1 x2 x3 x4 x5, fun j hj => ?_, ⟨?_, l5⟩, ⟨?_, t5⟩, ⟨?_, ?_, f2, f3, f4⟩, ?_, fun s nr x y => ?_, fun f p x y => ?_, fun f hf => ?_⟩
  · unfold fUC_openDay
    rw [l1, cl_s, if_pos w32_0, cl1_s, s1, cl1_s, d1, cl1_s, t1, cl_s, f1, cl_s]
  · rw [st_eq, ud_ne (by omega), st_eq, ud_ne (by omega), t3 j (by omega), e53, l3 j (by omega) (by omega) (by omega)]
  · rw [st_eq, ud_ne (by decide), st_eq, ud_ne (by decide), t3 13 (by decide), e53]; exact l4
  · rw [st_eq, ud_ne (by decide), st_eq, ud_ne (by decide)]; exact t4
  · rw [st_eq, ud_ne (by decide), st_eq, ud_eq]
  · rw [st_eq, ud_eq]
  · have e63 : M4 63 = M1 63 := by rw [t2 63 (by decide) (by decide) (by decide) (by decide), d2 63 (by decide) (by decide), s2 63 (by decide)]
    have e64 : M4 64 = M1 64 := by rw [t2 64 (by decide) (by decide) (by decide) (by decide), d2 64 (by decide) (by decide), s2 64 (by decide)]
    have g11 : st_ (st_ M4 53 15 (a3 : Int)) 53 16 (b3 : Int) 53 11 = M1 53 11 := by rw [st_eq, ud_ne (by decide), st_eq, ud_ne (by decide), t3 11 (by decide), e53]
    have g12 : st_ (st_ M4 53 15 (a3 : Int)) 53 16 (b3 : Int) 53 12 = M1 53 12 := by rw [st_eq, ud_ne (by decide), st_eq, ud_ne (by decide), t3 12 (by decide), e53]
    unfold FLG
    rw [g11, g12, st_ne (by decide), st_ne (by decide), st_ne (show (64 : Nat) ≠ 53 by decide), st_ne (show (64 : Nat) ≠ 53 by decide), e63, e64]
    exact l6
  · rw [st_ne (by omega), st_ne (by omega), t2 (61 + s) (by omega) (by omega) (by omega) (by omega), d2 (61 + s) (by omega) (by omega), s2 (61 + s) (by omega)]; exact l7 s nr x y
  · rw [st_ne (by decide), st_ne (by decide), t6 f p x y, d2 58 (by decide) (by decide), s3 f p x y]
  · obtain ⟨z1, z2⟩ := t7 f hf
    obtain ⟨z3, z4⟩ := d3 f hf
    unfold dcx
    dsimp only
    rw [st_ne (by decide), st_ne (by decide), st_ne (show (55 : Nat) ≠ 53 by decide), st_ne (show (55 : Nat) ≠ 53 by decide), z1, z2, z3, z4]
    exact ⟨by omega, by omega⟩
