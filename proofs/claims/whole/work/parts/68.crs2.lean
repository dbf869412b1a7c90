/-! the class's course: trades, the day's deals -/
theorem w32_r (x : Int) : r32 (w32 x) := by
  unfold r32 w32 Int.bmod
  dsimp only
  split <;> omega
def mtc (R : bz_Mm) (f D : Nat) (k : Int) (t : Nat) : Bool := decide (R 97 t = f) && decide (R 99 t = D) && decide (¬ k < R 102 t)
def pcT (R : bz_Mm) (f D : Nat) (k : Int) (p : Nat) (v : Int) : Nat → Int
  | 0 => v
  | t + 1 => if mtc R f D k t = true ∧ R 98 t = p then fM_near (pcT R f D k p v t + w32 (R 100 t)) (-1000000) 1000000 else pcT R f D k p v t
def csT (R : bz_Mm) (f D : Nat) (k : Int) : Nat → Int
  | 0 => 0
  | t + 1 => csT R f D k t + if mtc R f D k t = true then w32 (R 101 t) else 0
theorem pcT_S (R : bz_Mm) (f D : Nat) (k : Int) (p : Nat) (v : Int) (t : Nat) : pcT R f D k p v (t + 1) = if mtc R f D k t = true ∧ R 98 t = p then fM_near (pcT R f D k p v t + w32 (R 100 t)) (-1000000) 1000000 else pcT R f D k p v t := rfl
theorem csT_S (R : bz_Mm) (f D : Nat) (k : Int) (t : Nat) : csT R f D k (t + 1) = csT R f D k t + if mtc R f D k t = true then w32 (R 101 t) else 0 := rfl
theorem pcT_r {R : bz_Mm} {f D : Nat} {k : Int} {p : Nat} {v : Int} (hv : -1000000 ≤ v ∧ v ≤ 1000000) : ∀ t : Nat, -1000000 ≤ pcT R f D k p v t ∧ pcT R f D k p v t ≤ 1000000 := by
  intro t
  induction t with
  | zero => exact hv
  | succ t ih =>
    rw [pcT_S]
    split
    · have := w32_r (R 100 t)
      exact near_r ⟨by unfold r32 at this; omega, by unfold r32 at this; omega⟩
    · exact ih
theorem pcT_k {R : bz_Mm} {f D : Nat} {k : Int} {p : Nat} (v : Int) : ∀ (y x : Nat), x ≤ y → (∀ u, x ≤ u → u < y → ¬ mtc R f D k u = true) → pcT R f D k p v y = pcT R f D k p v x ∧ csT R f D k y = csT R f D k x := by
  intro y
  induction y with
  | zero => intro x h _; have : x = 0 := by omega
            subst this; exact ⟨rfl, rfl⟩
  | succ y ih =>
    intro x h1 h2
    by_cases c : x = y + 1
    · subst c; exact ⟨rfl, rfl⟩
    · obtain ⟨a, b⟩ := ih x (by omega) (fun u p q => h2 u p (by omega))
      have g := h2 y (by omega) (by omega)
      rw [pcT_S, csT_S, if_neg (fun q => g q.1), if_neg g, a, b]
      exact ⟨rfl, by omega⟩
def TA (M R : bz_Mm) (nf nt : Nat) : Prop := (M 25 2 = nt ∧ nt ≤ 120) ∧ by_ok (M 26) (M 27) nt ∧ ∀ t, t < nt → (M 28 t = R 97 t ∧ M 29 t = R 98 t ∧ M 26 t = R 99 t ∧ M 30 t = R 100 t ∧ M 31 t = R 101 t ∧ M 32 t = R 102 t) ∧ (0 ≤ R 97 t ∧ R 97 t < nf) ∧ (0 ≤ R 98 t ∧ R 98 t < 8) ∧ r32 (R 102 t)
theorem TA.c {M M' R : bz_Mm} {nf nt : Nat} (h : TA M R nf nt) (h2 : ∀ q, q < 53 → M' q = M q) : TA M' R nf nt := by
  unfold TA at h ⊢
  rw [h2 25 (by decide), h2 26 (by decide), h2 27 (by decide), h2 28 (by decide), h2 29 (by decide), h2 30 (by decide), h2 31 (by decide), h2 32 (by decide)]
  exact h
theorem nbx_le {d o : Nat → Int} {n i : Nat} {D : Int} (hb : by_ok d o n) : nbx d o n D i ≤ n := by
  unfold nbx
  split
  · rename_i z; have := hb.1 i z.1; omega
  · omega
theorem uUC_trades {F nf nt D a : Nat} {k : Int} {M0 R : bz_Mm} (hF : 300 < F) (hD : D < 260) (hk : r32 k) (hnf : nf ≤ 4) (hA : TA M0 R nf nt) (ha : M0 53 14 = a) (hp : ptr (M0 26) (M0 27) nt a D) (hP : PCR M0 nf) : ∃ M', fUC_passTrades F M0 (D : Int) k = some M' ∧ (∀ q, q ≠ 53 → q ≠ 54 → q ≠ 55 → q ≠ 58 → M' q = M0 q) ∧ (∀ j, j ≠ 14 → M' 53 j = M0 53 j) ∧ (∃ b : Nat, M' 53 14 = b ∧ ptr (M0 26) (M0 27) nt b ((D : Int) + 1)) ∧ (∀ f p, f < nf → p < 8 → M' 58 (f * 8 + p) = pcT R f D k p (M0 58 (f * 8 + p)) nt) ∧ ∀ f, f < nf → M' 54 f = M0 54 f + csT R f D k nt ∧ M' 55 f = M0 55 f + csT R f D k nt := by
  have hA0 := hA
  obtain ⟨⟨a1, a2⟩, a3, a4⟩ := hA
  have dayOf : ∀ u, u < nt → ∀ f, mtc R f D k u = true → M0 26 u = (D : Int) := fun u hu f q => by
    rw [(a4 u hu).1.2.2.1]
    unfold mtc at q
    simp only [Bool.and_eq_true, decide_eq_true_eq] at q
    exact q.1.2
  have key : ∀ (m fuel i : Nat) (M : bz_Mm), i + m = nt → m < fuel → a ≤ i → (∀ j, a ≤ j → j < i → M0 26 (M0 27 j).toNat = D) → (∀ q, q ≠ 53 → q ≠ 54 → q ≠ 55 → q ≠ 58 → M q = M0 q) → (∀ j, j ≠ 14 → M 53 j = M0 53 j) → M 53 14 = i → (∀ f p, f < nf → p < 8 → M 58 (f * 8 + p) = pcT R f D k p (M0 58 (f * 8 + p)) (nbx (M0 26) (M0 27) nt D i)) → (∀ f, f < nf → M 54 f = M0 54 f + csT R f D k (nbx (M0 26) (M0 27) nt D i) ∧ M 55 f = M0 55 f + csT R f D k (nbx (M0 26) (M0 27) nt D i)) → ∃ M', UC_passTrades_L6 F fuel (D : Int) k M = some M' ∧ (∀ q, q ≠ 53 → q ≠ 54 → q ≠ 55 → q ≠ 58 → M' q = M0 q) ∧ (∀ j, j ≠ 14 → M' 53 j = M0 53 j) ∧ (∃ b : Nat, M' 53 14 = b ∧ ptr (M0 26) (M0 27) nt b ((D : Int) + 1)) ∧ (∀ f p, f < nf → p < 8 → M' 58 (f * 8 + p) = pcT R f D k p (M0 58 (f * 8 + p)) nt) ∧ ∀ f, f < nf → M' 54 f = M0 54 f + csT R f D k nt ∧ M' 55 f = M0 55 f + csT R f D k nt := by
    intro m
    induction m with
    | zero =>
      intro fuel i M h1 h2 h3 h4 h5 h6 h7 h8 h9
      obtain ⟨fuel, rfl⟩ : ∃ j, fuel = j + 1 := ⟨fuel - 1, by omega⟩
      have e : nbx (M0 26) (M0 27) nt D i = nt := by unfold nbx; rw [if_neg (by omega)]
      rw [e] at h8 h9
      rw [UC_passTrades_L6, h7, h5 25 (by decide) (by decide) (by decide) (by decide), a1, w32_n (by omega), w32_n (by omega), if_neg (by omega)]
      exact ⟨M, rfl, h5, h6, ⟨i, h7, ptr_n a3 hp h3 (by omega) h4 (fun q => by omega)⟩, h8, h9⟩
    | succ m ih =>
      intro fuel i M h1 h2 h3 h4 h5 h6 h7 h8 h9
      obtain ⟨fuel, rfl⟩ : ∃ j, fuel = j + 1 := ⟨fuel - 1, by omega⟩
      have bi := a3.1 i (by omega)
      obtain ⟨t, ht⟩ : ∃ t : Nat, M0 27 i = (t : Int) := ⟨(M0 27 i).toNat, by omega⟩
      have tn : t < nt := by omega
      have tt : (M0 27 i).toNat = t := by omega
      obtain ⟨⟨e1, e2, e3, e4, e5, e6⟩, r1, r2, r3⟩ := a4 t tn
      have dr := a3.2.2.2 t tn
      have i4 : i < 120 := by omega
      have t4 : t < 120 := by omega
      rw [UC_passTrades_L6, h7, h5 25 (by decide) (by decide) (by decide) (by decide), a1, w32_n (show i ≤ 2147483647 by omega), w32_n (show nt ≤ 2147483647 by omega), if_pos (by omega), rd_s i4 (by decide), h5 27 (by decide) (by decide) (by decide) (by decide), ht, rd_s t4 (by decide), h5 26 (by decide) (by decide) (by decide) (by decide), rd_s i4 (by decide), h5 27 (by decide) (by decide) (by decide) (by decide), ht, rd_s t4 (by decide), h5 32 (by decide) (by decide) (by decide) (by decide), e6, w32_id (x := M0 26 t) (by omega) (by omega), w32_n (show D ≤ 2147483647 by omega), r32_w hk, r32_w r3]
      by_cases c : M0 26 t = (D : Int)
      · rw [if_pos c]
        have cD : M0 26 (M0 27 i).toNat = (D : Int) := by rw [tt]; exact c
        obtain ⟨g1, g2⟩ := blkS a3 (show i < nt by omega) cD
        have nbi : nbx (M0 26) (M0 27) nt D i = t := by unfold nbx; rw [if_pos ⟨by omega, cD⟩, tt]
        rw [tt] at g1 g2
        rw [nbi] at h8 h9
        have nn : ∀ f u, t + 1 ≤ u → u < nbx (M0 26) (M0 27) nt D (i + 1) → ¬ mtc R f D k u = true := fun f u x y q => g2 u (by omega) y (by have := nbx_le (i := i + 1) (D := (D : Int)) a3; omega) (dayOf u (by have := nbx_le (i := i + 1) (D := (D : Int)) a3; omega) f q)
        have stp : ∀ f p v, pcT R f D k p v (nbx (M0 26) (M0 27) nt D (i + 1)) = pcT R f D k p v (t + 1) ∧ csT R f D k (nbx (M0 26) (M0 27) nt D (i + 1)) = csT R f D k (t + 1) := fun f p v => pcT_k v _ _ (by omega) (nn f)
        have mt : ∀ f : Nat, mtc R f D k t = true ↔ (¬ k < R 102 t) ∧ R 97 t = (f : Int) := fun f => by
          unfold mtc
          simp only [Bool.and_eq_true, decide_eq_true_eq]
          rw [← e3]
          constructor
          · rintro ⟨⟨x, _⟩, z⟩; exact ⟨z, x⟩
          · rintro ⟨z, x⟩; exact ⟨⟨x, c⟩, z⟩
        have h4' : ∀ j, a ≤ j → j < i + 1 → M0 26 (M0 27 j).toNat = (D : Int) := fun j x y => by
          by_cases e : j = i
          · rw [e]; exact cD
          · exact h4 j x (by omega)
        by_cases cm : k < R 102 t
        · rw [if_pos cm, cl1_s, wf_s, h7]
          refine ih fuel (i + 1) _ (by omega) (by omega) (by omega) h4' (fun q x y z w => by rw [st_ne x]; exact h5 q x y z w) (fun j z => by rw [st_eq, ud_ne z]; exact h6 j z) (by rw [st_eq, ud_eq]; omega) (fun f p x y => ?_) (fun f x => ?_)
          · rw [st_ne (by decide), h8 f p x y, (stp f p _).1, pcT_S, if_neg (fun q => ((mt f).mp q.1).1 cm)]
          · rw [st_ne (by decide), st_ne (by decide), (h9 f x).1, (h9 f x).2, (stp f 0 0).2, csT_S, if_neg (fun q => ((mt f).mp q).1 cm), Int.add_zero]; exact ⟨rfl, rfl⟩
        · obtain ⟨f0, hf0⟩ : ∃ q : Nat, R 97 t = (q : Int) := ⟨(R 97 t).toNat, by omega⟩
          obtain ⟨p0, hp0⟩ : ∃ q : Nat, R 98 t = (q : Int) := ⟨(R 98 t).toNat, by omega⟩
          have f04 : f0 < nf := by omega
          have p08 : p0 < 8 := by omega
          have e8 : (f0 : Int) * 8 + (p0 : Int) = ((f0 * 8 + p0 : Nat) : Int) := by omega
          have pr : -1000000 ≤ M 58 (f0 * 8 + p0) ∧ M 58 (f0 * 8 + p0) ≤ 1000000 := by
            rw [h8 f0 p0 f04 p08]; exact pcT_r (hP f0 p0 f04 p08) t
          have wr := w32_r (R 100 t)
          unfold r32 at wr
          rw [if_neg cm, rd_s t4 (by decide), rd_s t4 (by decide), h5 28 (by decide) (by decide) (by decide) (by decide), h5 29 (by decide) (by decide) (by decide) (by decide), e1, e2, hf0, hp0, lt_x, e8, rd_s (by omega) (by decide), rd_s t4 (by decide), h5 30 (by decide) (by decide) (by decide) (by decide), e4, w32_id (x := M 58 (f0 * 8 + p0)) (by omega) (by omega), bnd_near ⟨by omega, by omega⟩, wa_s (by omega) (by decide), rd_s (by omega) (by decide), rd_s t4 (by decide), st_ne (show (54 : Nat) ≠ 58 by decide), st_ne (show (31 : Nat) ≠ 58 by decide), h5 31 (by decide) (by decide) (by decide) (by decide), e5, wa_s (by omega) (by decide), rd_s (by omega) (by decide), rd_s t4 (by decide), st_ne (show (55 : Nat) ≠ 54 by decide), st_ne (show (55 : Nat) ≠ 58 by decide), st_ne (show (31 : Nat) ≠ 54 by decide), st_ne (show (31 : Nat) ≠ 58 by decide), h5 31 (by decide) (by decide) (by decide) (by decide), e5, wa_s (by omega) (by decide), cl1_s, wf_s, st_ne (show (53 : Nat) ≠ 55 by decide), st_ne (show (53 : Nat) ≠ 54 by decide), st_ne (show (53 : Nat) ≠ 58 by decide), h7]
          refine ih fuel (i + 1) _ (by omega) (by omega) (by omega) h4' (fun q x y z w => by rw [st_ne x, st_ne z, st_ne y, st_ne w]; exact h5 q x y z w) (fun j z => by rw [st_eq, ud_ne z, st_ne (by decide), st_ne (by decide), st_ne (by decide)]; exact h6 j z) (by rw [st_eq, ud_eq]; omega) (fun f p x y => ?_) (fun f x => ?_)
          · rw [st_ne (by decide), st_ne (by decide), st_ne (by decide), st_eq, (stp f p _).1, pcT_S]
            by_cases q : f = f0 ∧ p = p0
            · obtain ⟨q1, q2⟩ := q
              subst q1 q2
              rw [ud_eq, if_pos ⟨(mt f).mpr ⟨cm, hf0⟩, hp0⟩, h8 f p x y]
            · rw [ud_ne (by omega), h8 f p x y, if_neg]
              rintro ⟨w1, w2⟩
              have := ((mt f).mp w1).2
              omega
          · rw [(stp f 0 0).2, csT_S, st_ne (by decide), st_ne (by decide), st_eq, st_ne (show (55 : Nat) ≠ 53 by decide), st_eq]
            by_cases q : f = f0
            · subst q
              rw [ud_eq, ud_eq, if_pos ((mt f).mpr ⟨cm, hf0⟩), (h9 f x).1, (h9 f x).2]
              exact ⟨by omega, by omega⟩
            · rw [ud_ne q, ud_ne q, st_ne (by decide), (h9 f x).1, st_ne (by decide), st_ne (by decide), (h9 f x).2, if_neg (fun w => by have := ((mt f).mp w).2; omega), Int.add_zero]
              exact ⟨rfl, rfl⟩
      · have e : nbx (M0 26) (M0 27) nt D i = nt := by
          unfold nbx; rw [if_neg (fun q => c (by rw [← tt]; exact q.2))]
        rw [e] at h8 h9
        rw [if_neg c]
        exact ⟨M, rfl, h5, h6, ⟨i, h7, ptr_n a3 hp h3 (by omega) h4 (fun _ q => c (by rw [← tt]; exact q))⟩, h8, h9⟩
  have b0 := blk0 a3 hp
  have st0 : ∀ f p v, pcT R f D k p v (nbx (M0 26) (M0 27) nt D a) = v ∧ csT R f D k (nbx (M0 26) (M0 27) nt D a) = 0 := fun f p v => pcT_k v _ 0 (by omega) (fun u _ y q => b0 u y (by have := nbx_le (i := a) (D := (D : Int)) a3; omega) (dayOf u (by have := nbx_le (i := a) (D := (D : Int)) a3; omega) f q))
  obtain ⟨M', c1, c2⟩ := key (nt - a) F a M0 (by have := hp.1; omega) (by omega) (Nat.le_refl a) (fun j x y => by omega) (fun _ _ _ _ _ => rfl) (fun _ _ => rfl) ha (fun f p x y => by rw [(st0 f p _).1]) (fun f x => by rw [(st0 f 0 0).2, Int.add_zero, Int.add_zero]; exact ⟨rfl, rfl⟩)
  refine ⟨M', ?_, c2⟩
  unfold fUC_passTrades
  rw [c1, cl1_s]
/-- the day's deals are those from a to b in the order -/
theorem uUC_find {F nd D a : Nat} {M0 : bz_Mm} (hF : 300 < F) (hD : D < 260) (hn : M0 34 2 = nd) (hc : nd ≤ 200) (hb : by_ok (M0 35) (M0 36) nd) (ha : M0 53 16 = a) (hp : ptr (M0 35) (M0 36) nd a D) : ∃ (b : Nat), fUC_findDeals_34 F M0 (D : Int) = some (st_ (st_ M0 53 15 (a : Int)) 53 16 (b : Int)) ∧ a ≤ b ∧ ptr (M0 35) (M0 36) nd b ((D : Int) + 1) ∧ (∀ j, a ≤ j → j < b → M0 35 (M0 36 j).toNat = D) := by
  have key : ∀ (m fuel i : Nat) (M : bz_Mm), i + m = nd → m < fuel → a ≤ i → (∀ j, a ≤ j → j < i → M0 35 (M0 36 j).toNat = D) → (∀ q, q ≠ 53 → M q = M0 q) → M 53 16 = i → ∃ b : Nat, UC_findDeals_34_L8 F fuel (D : Int) M = some (st_ M 53 16 (b : Int)) ∧ a ≤ b ∧ ptr (M0 35) (M0 36) nd b ((D : Int) + 1) ∧ (∀ j, a ≤ j → j < b → M0 35 (M0 36 j).toNat = D) := by
    intro m
    induction m with
    | zero =>
      intro fuel i M h1 h2 h3 h4 h5 h7
      obtain ⟨fuel, rfl⟩ : ∃ j, fuel = j + 1 := ⟨fuel - 1, by omega⟩
      rw [UC_findDeals_34_L8, h7, h5 34 (by decide), hn, w32_n (by omega), w32_n (by omega), if_neg (by omega)]
      exact ⟨i, by rw [← h7, st_self], h3, ptr_n hb hp h3 (by omega) h4 (fun q => by omega), h4⟩
    | succ m ih =>
      intro fuel i M h1 h2 h3 h4 h5 h7
      obtain ⟨fuel, rfl⟩ : ∃ j, fuel = j + 1 := ⟨fuel - 1, by omega⟩
      have bi := hb.1 i (by omega)
      obtain ⟨t, ht⟩ : ∃ t : Nat, M0 36 i = (t : Int) := ⟨(M0 36 i).toNat, by omega⟩
      have tn : t < nd := by omega
      have tt : (M0 36 i).toNat = t := by omega
      have dr := hb.2.2.2 t tn
      rw [UC_findDeals_34_L8, h7, h5 34 (by decide), hn, w32_n (show i ≤ 2147483647 by omega), w32_n (show nd ≤ 2147483647 by omega), if_pos (by omega), rd_s (by omega) (by decide), h5 36 (by decide), ht, rd_s (by omega) (by decide), h5 35 (by decide), w32_id (x := M0 35 t) (by omega) (by omega), w32_n (show D ≤ 2147483647 by omega)]
      by_cases c : M0 35 t = (D : Int)
      · have cD : M0 35 (M0 36 i).toNat = (D : Int) := by rw [tt]; exact c
        rw [if_pos c, wf_s]
        obtain ⟨b, b1, b2⟩ := ih fuel (i + 1) (st_ M 53 16 ((i : Int) + 1)) (by omega) (by omega) (by omega) (fun j x y => by
          by_cases e : j = i
          · rw [e]; exact cD
          · exact h4 j x (by omega)) (fun q x => by rw [st_ne x]; exact h5 q x) (by rw [st_eq, ud_eq]; omega)
        rw [st_st] at b1
        exact ⟨b, b1, b2⟩
      · rw [if_neg c]
        exact ⟨i, by rw [← h7, st_self], h3, ptr_n hb hp h3 (by omega) h4 (fun _ q => c (by rw [← tt]; exact q)), h4⟩
  obtain ⟨b, b1, b2⟩ := key (nd - a) F a (st_ M0 53 15 (a : Int)) (by have := hp.1; omega) (by omega) (Nat.le_refl a) (fun j x y => by omega) (fun q x => st_ne x) (by rw [st_eq, ud_ne (by decide)]; exact ha)
  refine ⟨b, ?_, b2⟩
  unfold fUC_findDeals_34
  rw [wf_s, ha, b1, cl1_s]
