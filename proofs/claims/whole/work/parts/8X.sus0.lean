/-! suspects -/
theorem hear_16 {F i t : Nat} {M R : bz_Mm} (hi : i < 7) (e1 : M 20 i = R 83 t) (e2 : M 21 i = R 84 t) (e4 : M 22 i = R 86 t) (hs : p_subj (R 83 t) (R 84 t)) : ∃ M', fUC_hear_16 F M (i : Int) = some M' ∧ (∀ q, q ≠ 53 → (q < 61 ∨ 64 < q) → M' q = M q) ∧ (∀ j, j ≠ 11 → j ≠ 12 → M' 53 j = M 53 j) ∧ (∀ s nr, s < 4 → nr < 8 → M' (61 + s) nr = if R 83 t = (s : Int) ∧ R 84 t = (nr : Int) then R 86 t else M (61 + s) nr) ∧ (M' 53 11 = M 53 11 ∧ M' 63 = M 63 ∨ M' 53 11 = 1) ∧ (M' 53 12 = M 53 12 ∧ M' 64 = M 64 ∨ M' 53 12 = 1) := by
  have t4 : i < 7 := hi
  have row : ∀ (s0 : Nat), s0 < 4 → R 83 t = (s0 : Int) → (0 ≤ R 84 t ∧ R 84 t < 8) → ∀ s nr, s < 4 → nr < 8 → ∀ W : bz_Mm, W (61 + s0) = ud (M (61 + s0)) (R 84 t).toNat (R 86 t) → (∀ q, q ≠ 61 + s0 → 61 ≤ q → q ≤ 64 → W q = M q) → W (61 + s) nr = if R 83 t = (s : Int) ∧ R 84 t = (nr : Int) then R 86 t else M (61 + s) nr := by
    intro s0 h0 hs0 hr s nr hs hnr W w1 w2
    by_cases c : s = s0
    · subst c
      rw [w1]
      by_cases c2 : R 84 t = (nr : Int)
      · have : (R 84 t).toNat = nr := by omega
        rw [this, ud_eq, if_pos ⟨hs0, c2⟩]
      · rw [ud_ne (by omega), if_neg (fun q => c2 q.2)]
    · rw [w2 (61 + s) (by omega) (by omega) (by omega), if_neg (by omega)]
  unfold fUC_hear_16
  rw [rd_s t4 (by decide), rd_s t4 (by decide), rd_s t4 (by decide), e1, e2, e4]
  rcases hs with ⟨s1, s2, s3⟩ | ⟨s1, s2, s3⟩
  · rw [s1, if_neg (by decide), if_pos (by decide), wa_i (by omega) (by omega) (by decide)]
    refine ⟨_, rfl, fun q h1 h2 => st_ne (by omega), fun j _ _ => by rw [st_ne (by decide)], fun s nr x y => ?_, Or.inl ⟨by rw [st_ne (by decide)], st_ne (by decide)⟩, Or.inl ⟨by rw [st_ne (by decide)], st_ne (by decide)⟩⟩
    have := row 1 (by decide) s1 (by omega) s nr x y (st_ M 62 (R 84 t).toNat (R 86 t)) (st_eq _ _ _ _) (fun q h1 _ _ => st_ne h1)
    rw [s1] at this; exact this
  · rcases s1 with s1 | s1 | s1
    · rw [s1, if_pos (by decide), wa_i (by omega) (by omega) (by decide)]
      refine ⟨_, rfl, fun q h1 h2 => st_ne (by omega), fun j _ _ => by rw [st_ne (by decide)], fun s nr x y => ?_, Or.inl ⟨by rw [st_ne (by decide)], st_ne (by decide)⟩, Or.inl ⟨by rw [st_ne (by decide)], st_ne (by decide)⟩⟩
      have := row 0 (by decide) s1 (by omega) s nr x y (st_ M 61 (R 84 t).toNat (R 86 t)) (st_eq _ _ _ _) (fun q h1 _ _ => st_ne h1)
      rw [s1] at this; exact this
    · rw [s1, if_neg (by decide), if_neg (by decide), if_pos (by decide), wa_i (by omega) (by omega) (by decide), wf_s]
      refine ⟨_, rfl, fun q h1 h2 => by rw [st_ne h1, st_ne (by omega)], fun j h1 h2 => by rw [st_eq, ud_ne h1, st_ne (by decide)], fun s nr x y => ?_, Or.inr (by rw [st_eq, ud_eq]), Or.inl ⟨by rw [st_eq, ud_ne (by decide), st_ne (by decide)], by rw [st_ne (by decide), st_ne (by decide)]⟩⟩
      have := row 2 (by decide) s1 (by omega) s nr x y (st_ (st_ M 63 (R 84 t).toNat (R 86 t)) 53 11 1) (by rw [st_ne (by decide), st_eq]) (fun q h1 h2 _ => by rw [st_ne (by omega), st_ne h1])
      rw [s1] at this; exact this
    · rw [s1, if_neg (by decide), if_neg (by decide), if_neg (by decide), wa_i (by omega) (by omega) (by decide), wf_s]
      refine ⟨_, rfl, fun q h1 h2 => by rw [st_ne h1, st_ne (by omega)], fun j h1 h2 => by rw [st_eq, ud_ne h2, st_ne (by decide)], fun s nr x y => ?_, Or.inl ⟨by rw [st_eq, ud_ne (by decide), st_ne (by decide)], by rw [st_ne (by decide), st_ne (by decide)]⟩, Or.inr (by rw [st_eq, ud_eq])⟩
      have := row 3 (by decide) s1 (by omega) s nr x y (st_ (st_ M 64 (R 84 t).toNat (R 86 t)) 53 12 1) (by rw [st_ne (by decide), st_eq]) (fun q h1 h2 _ => by rw [st_ne (by omega), st_ne h1])
      rw [s1] at this; exact this
/-- the suspects of a heap, laid behind the tellings -/
def SU (M R : bz_Mm) (n : Nat) (k : Int) (h ns : Nat) : Prop := (M 17 2 = ns ∧ ns ≤ 7) ∧ ∀ i, i < ns → h.testBit i = true → (M 20 i = R 83 (n + cnB h i 0) ∧ M 21 i = R 84 (n + cnB h i 0) ∧ M 18 i = R 85 (n + cnB h i 0) ∧ M 22 i = R 86 (n + cnB h i 0)) ∧ p_subj (R 83 (n + cnB h i 0)) (R 84 (n + cnB h i 0)) ∧ R 87 (n + cnB h i 0) ≤ k ∧ 0 ≤ R 85 (n + cnB h i 0) ∧ R 85 (n + cnB h i 0) < 260
theorem cnB_R (h : Nat) : ∀ m i : Nat, cnB h (m + 1) i = cnB h m i + if h.testBit (i + m) = true then 1 else 0 := by
  intro m
  induction m with
  | zero => intro i; rw [cnB_S, Nat.add_zero i]; show (if h.testBit i = true then 1 else 0) + 0 = 0 + _; omega
  | succ m ih => intro i; rw [cnB_S, ih (i + 1), cnB_S, show i + 1 + m = i + (m + 1) by omega]; omega
theorem FLG.h {M M' : bz_Mm} (g : FLG M) (h1 : M' 53 11 = M 53 11 ∧ M' 63 = M 63 ∨ M' 53 11 = 1) (h2 : M' 53 12 = M 53 12 ∧ M' 64 = M 64 ∨ M' 53 12 = 1) : FLG M' := by
  obtain ⟨g1, g2, g3, g4⟩ := g
  refine ⟨?_, ?_, fun q => ?_, fun q => ?_⟩
  · rcases h1 with ⟨a, _⟩ | a
    · rw [a]; exact g1
    · exact Or.inr a
  · rcases h2 with ⟨a, _⟩ | a
    · rw [a]; exact g2
    · exact Or.inr a
  · rcases h1 with ⟨a, b⟩ | a
    · rw [b]; rw [a] at q; exact g3 q
    · rw [a] at q; exact absurd q (by decide)
  · rcases h2 with ⟨a, b⟩ | a
    · rw [b]; rw [a] at q; exact g4 q
    · rw [a] at q; exact absurd q (by decide)
theorem uUC_sus {F n D h ns : Nat} {k : Int} {M R : bz_Mm} (hF : 500 < F) (hD : D < 260) (hh : h < 1024) (hS : SU M R n k h ns) (hG : FLG M) : ∃ M', fUC_suspectOn_16 F M (D : Int) (h : Int) = some M' ∧ (∀ q, q ≠ 53 → (q < 61 ∨ 64 < q) → M' q = M q) ∧ (∀ j, j ≠ 11 → j ≠ 12 → M' 53 j = M 53 j) ∧ FLG M' ∧ ∀ s nr v, s < 4 → nr < 8 → M (61 + s) nr = lv R s nr k D n v → M' (61 + s) nr = lv R s nr k D (n + cnB h ns 0) v := by
  obtain ⟨⟨u1, u2⟩, u3⟩ := hS
  have lp : ∀ (m fuel i : Nat) (V : bz_Mm), i + m = ns → m < fuel → (∀ q, q ≠ 53 → (q < 61 ∨ 64 < q) → V q = M q) → (∀ j, j ≠ 11 → j ≠ 12 → V 53 j = M 53 j) → FLG V → (∀ s nr v, s < 4 → nr < 8 → M (61 + s) nr = lv R s nr k D n v → V (61 + s) nr = lv R s nr k D (n + cnB h i 0) v) → ∃ M', UC_suspectOn_16_L3 F fuel (D : Int) (h : Int) (i : Int) V = some M' ∧ (∀ q, q ≠ 53 → (q < 61 ∨ 64 < q) → M' q = M q) ∧ (∀ j, j ≠ 11 → j ≠ 12 → M' 53 j = M 53 j) ∧ FLG M' ∧ ∀ s nr v, s < 4 → nr < 8 → M (61 + s) nr = lv R s nr k D n v → M' (61 + s) nr = lv R s nr k D (n + cnB h ns 0) v := by
    intro m
    induction m with
    | zero =>
      intro fuel i V e1 e2 e3 e4 e5 e6
      obtain ⟨fuel, rfl⟩ : ∃ j, fuel = j + 1 := ⟨fuel - 1, by omega⟩
      have e : i = ns := by omega
      subst e
      exact ⟨V, by rw [UC_suspectOn_16_L3, e3 17 (by decide) (by decide), u1, w32_n (show i ≤ 2147483647 by omega), if_neg (by omega)], e3, e4, e5, e6⟩
    | succ m ih =>
      intro fuel i V e1 e2 e3 e4 e5 e6
      obtain ⟨fuel, rfl⟩ : ∃ j, fuel = j + 1 := ⟨fuel - 1, by omega⟩
      have e : (i : Int) + 1 = ((i + 1 : Nat) : Int) := by omega
      rw [UC_suspectOn_16_L3, e3 17 (by decide) (by decide), u1, w32_n (show i ≤ 2147483647 by omega), w32_n (show ns ≤ 2147483647 by omega), if_pos (by omega), sr_b hh (by omega), e]
      have cr := cnB_R h i 0
      rw [Nat.zero_add] at cr
      by_cases c : h.testBit i = true
      · rw [if_pos c] at cr
        obtain ⟨⟨s1, s2, s3, s4⟩, s5, s6, s7, s8⟩ := u3 i (by omega) c
        rw [if_pos c, w32_1p, if_neg (by decide), rd_s (by omega) (by decide), e3 18 (by decide) (by decide), s3, w32_id (x := R 85 (n + cnB h i 0)) (by omega) (by omega), w32_n (show D ≤ 2147483647 by omega)]
        have tisE : ∀ s nr : Nat, tis R s nr k D (n + cnB h i 0) = true ↔ (R 83 (n + cnB h i 0) = s ∧ R 84 (n + cnB h i 0) = nr ∧ R 85 (n + cnB h i 0) = D) := fun s nr => by
          unfold tis
          simp only [Bool.and_eq_true, decide_eq_true_eq]
          constructor
          · rintro ⟨⟨⟨a, b⟩, _⟩, d⟩; exact ⟨a, b, d⟩
          · rintro ⟨a, b, d⟩; exact ⟨⟨⟨a, b⟩, by omega⟩, d⟩
        by_cases c2 : R 85 (n + cnB h i 0) = (D : Int)
        · obtain ⟨V2, h1, h2, h3, h4, h5, h6⟩ := hear_16 (F := F) (i := i) (t := n + cnB h i 0) (M := V) (R := R) (by omega) (by rw [e3 20 (by decide) (by decide)]; exact s1) (by rw [e3 21 (by decide) (by decide)]; exact s2) (by rw [e3 22 (by decide) (by decide)]; exact s4) s5
          rw [if_pos c2, h1, cl_s]
          refine ih fuel (i + 1) V2 (by omega) (by omega) (fun q a b => by rw [h2 q a b]; exact e3 q a b) (fun j a b => by rw [h3 j a b]; exact e4 j a b) (e5.h h5 h6) (fun s nr v x y z => ?_)
          rw [h4 s nr x y, cr, show n + (cnB h i 0 + 1) = (n + cnB h i 0) + 1 by omega, lv_S]
          by_cases q : R 83 (n + cnB h i 0) = (s : Int) ∧ R 84 (n + cnB h i 0) = (nr : Int)
          · rw [if_pos q, if_pos ((tisE s nr).mpr ⟨q.1, q.2, c2⟩)]
          · rw [if_neg q, if_neg (fun w => q ⟨((tisE s nr).mp w).1, ((tisE s nr).mp w).2.1⟩)]
            exact e6 s nr v x y z
        · rw [if_neg c2]
          refine ih fuel (i + 1) V (by omega) (by omega) e3 e4 e5 (fun s nr v x y z => ?_)
          rw [cr, show n + (cnB h i 0 + 1) = (n + cnB h i 0) + 1 by omega, lv_S, if_neg (fun w => c2 ((tisE s nr).mp w).2.2)]
          exact e6 s nr v x y z
      · rw [if_neg c, Nat.add_zero] at cr
        rw [if_neg c, w32_0, if_pos rfl]
        exact ih fuel (i + 1) V (by omega) (by omega) e3 e4 e5 (fun s nr v x y z => by rw [cr]; exact e6 s nr v x y z)
  obtain ⟨M', a1, a2⟩ := lp ns F 0 M (by omega) (by omega) (fun _ _ _ => rfl) (fun _ _ _ => rfl) hG (fun s nr v x y z => z)
  rw [show ((0 : Nat) : Int) = 0 from rfl] at a1
  refine ⟨M', ?_, a2⟩
  unfold fUC_suspectOn_16
  rw [a1, cl1_s]
theorem learn_h {F n D a h ns : Nat} {k : Int} {M R : bz_Mm} (hF : 500 < F) (hD : D < 260) (hk : r32 k) (hh : h < 1024) (hA : AL M R n) (hS : SU M R n k h ns) (ha : M 53 13 = a) (hp : ptr (M 10) (M 11) n a D) (hG : FLG M) : ∃ M', (∀ kk : bz_Mm → Option bz_Mm, (cl_ (fUC_learn F M (D : Int) k) fun m1 => cl1_ (if w32 (h : Int) = 0 then some m1 else cl_ (fUC_suspectOn_16 F m1 (D : Int) (h : Int)) fun m3 => some m3) kk) = kk M') ∧ (∀ q, q ≠ 53 → (q < 61 ∨ 64 < q) → M' q = M q) ∧ (∀ j, j ≠ 11 → j ≠ 12 → j ≠ 13 → M' 53 j = M 53 j) ∧ (∃ b : Nat, M' 53 13 = b ∧ ptr (M 10) (M 11) n b ((D : Int) + 1)) ∧ FLG M' ∧ (∀ s nr, s < 2 → nr < 8 → M' (61 + s) nr = lv R s nr k D (n + cnB h ns 0) (M (61 + s) nr)) ∧ ∀ nr, nr < 8 → M' 63 nr = lv R 2 nr k D (n + cnB h ns 0) 0 ∧ M' 64 nr = lv R 3 nr k D (n + cnB h ns 0) 1000 := by
  obtain ⟨M1, l1, l2, l3, ⟨b, l4, l5⟩, l6, l7, l8⟩ := uUC_learn hF hD hk hA ha hp hG
  have sM1 : SU M1 R n k h ns := by
    unfold SU at hS ⊢
    rw [l2 17 (by decide) (by decide), l2 18 (by decide) (by decide), l2 20 (by decide) (by decide), l2 21 (by decide) (by decide), l2 22 (by decide) (by decide)]; exact hS
  by_cases h0 : h = 0
  · subst h0
    refine ⟨M1, fun kk => ?_, l2, l3, ⟨b, l4, l5⟩, l6, ?_⟩
    · rw [l1, cl_s, show w32 ((0 : Nat) : Int) = 0 from by decide, if_pos rfl, cl1_s]
    · rw [cnB_0, Nat.add_zero]; exact ⟨l7, l8⟩
  · obtain ⟨M', a1, a2, a3, a4, a5⟩ := uUC_sus hF hD hh sM1 l6
    refine ⟨M', fun kk => ?_, fun q x y => by rw [a2 q x y]; exact l2 q x y, fun j x y z => by rw [a3 j x y]; exact l3 j x y z, ⟨b, by rw [a3 13 (by decide) (by decide)]; exact l4, l5⟩, a4, fun s nr x y => a5 s nr _ (by omega) y (l7 s nr x y), fun nr hnr => ⟨?_, ?_⟩⟩
    · rw [l1, cl_s, w32_n (show h ≤ 2147483647 by omega), if_neg (by omega), a1, cl_s, cl1_s]
    · exact a5 2 nr _ (by decide) hnr (l8 nr hnr).1
    · exact a5 3 nr _ (by decide) hnr (l8 nr hnr).2
theorem uUC_openDay_h {F n n' h ns nf nt nd D a1 a2 a3 : Nat} {k : Int} {M R : bz_Mm} (hF : 500 < F) (hD : D < 260) (hk : r32 k) (hnf : nf ≤ 4) (h14 : M 1 14 = nf) (hh : h < 1024) (hA : AL M R n) (hSU : SU M R n k h ns) (hn' : n' = n + cnB h ns 0) (hT : TA M R nf nt) (hn : M 34 2 = nd) (hc : nd ≤ 200) (hb : by_ok (M 35) (M 36) nd) (hC : ∀ p, p < 8 → 0 ≤ M 6 p ∧ M 6 p < 3) (hP : PCR M nf) (hG : FLG M) (p1 : M 53 13 = a1) (p2 : M 53 14 = a2) (p3 : M 53 16 = a3) (q1 : ptr (M 10) (M 11) n a1 D) (q2 : ptr (M 26) (M 27) nt a2 D) (q3 : ptr (M 35) (M 36) nd a3 D) : ∃ (M' : bz_Mm) (b1 b2 b3 : Nat), fUC_openDay F M (D : Int) k (h : Int) = some M' ∧ (∀ q, q ≠ 53 → q ≠ 54 → q ≠ 55 → q ≠ 58 → (q < 61 ∨ 64 < q) → M' q = M q) ∧ (∀ j, (j < 11 ∨ 16 < j) → M' 53 j = M 53 j) ∧ (M' 53 13 = b1 ∧ ptr (M 10) (M 11) n b1 ((D : Int) + 1)) ∧ (M' 53 14 = b2 ∧ ptr (M 26) (M 27) nt b2 ((D : Int) + 1)) ∧ (M' 53 15 = a3 ∧ M' 53 16 = b3 ∧ a3 ≤ b3 ∧ ptr (M 35) (M 36) nd b3 ((D : Int) + 1) ∧ ∀ j, a3 ≤ j → j < b3 → M 35 (M 36 j).toNat = D) ∧ FLG M' ∧ (∀ s nr, s < 2 → nr < 8 → M' (61 + s) nr = lv R s nr k D n' (M (61 + s) nr)) ∧ (∀ f p, f < nf → p < 8 → M' 58 (f * 8 + p) = pcT R f D k p (pSp2 (M 58 (f * 8 + p)) (lv R 3 p k D n' 1000)) nt) ∧ ∀ f, f < nf → M' 54 f = M 54 f + dcx R f D k nt (fun p => M 58 (f * 8 + p)) (fun p => lv R 3 p k D n' 1000) (fun p => lv R 2 p k D n' 0) (fun p => lv R 1 (M 6 p).toNat k D n' (M 62 (M 6 p).toNat)) ∧ M' 55 f = M 55 f + dcx R f D k nt (fun p => M 58 (f * 8 + p)) (fun p => lv R 3 p k D n' 1000) (fun p => lv R 2 p k D n' 0) (fun p => lv R 1 (M 6 p).toNat k D n' (M 62 (M 6 p).toNat)) := by
  obtain ⟨M1, l1, l2, l3, ⟨b1, l4, l5⟩, l6, l7, l8⟩ := learn_h (ns := ns) hF hD hk hh hA hSU p1 q1 hG
  rw [← hn'] at l7 l8
  -- splits
  have sp : ∃ M2, (if w32 (M1 53 12) = 0 then some M1 else cl_ (fUC_splitPieces F M1 (M1 1 14)) fun m6 => some m6) = some M2 ∧ (∀ q, q ≠ 58 → M2 q = M1 q) ∧ ∀ f p, f < nf → p < 8 → M2 58 (f * 8 + p) = pSp2 (M 58 (f * 8 + p)) (lv R 3 p k D n' 1000) := by
    have e58 : M1 58 = M 58 := l2 58 (by decide) (by decide)
    rcases l6.2.1 with g | g
    · refine ⟨M1, by rw [g, if_pos w32_0], fun _ _ => rfl, fun f p x y => ?_⟩
      have := l6.2.2.2 g p y
      rw [(l8 p y).2] at this
      rw [this, e58]
      exact (near_1000 (hP f p x y)).symm
    · obtain ⟨M2, s1, s2, s3⟩ := uUC_split (F := F) (M := M1) (nf := nf) (by omega) hnf (fun f p x y => by rw [e58]; exact hP f p x y)
      refine ⟨M2, ?_, s2, fun f p x y => by rw [s3 f p x y, e58, (l8 p y).2]⟩
      rw [g, if_neg (by decide), l2 1 (by decide) (by decide), h14, s1, cl_s]
  obtain ⟨M2, s1, s2, s3⟩ := sp
  -- dividends
  have dv : ∃ M3, (if w32 (M2 53 11) = 0 then some M2 else cl_ (fUC_payDividends F M2) fun m9 => some m9) = some M3 ∧ (∀ q, q ≠ 54 → q ≠ 55 → M3 q = M2 q) ∧ ∀ f, f < nf → M3 54 f = M 54 f + sumr (tDv (fun p => pSp2 (M 58 (f * 8 + p)) (lv R 3 p k D n' 1000)) (fun p => lv R 2 p k D n' 0) (fun p => lv R 1 (M 6 p).toNat k D n' (M 62 (M 6 p).toNat))) 0 8 0 ∧ M3 55 f = M 55 f + sumr (tDv (fun p => pSp2 (M 58 (f * 8 + p)) (lv R 3 p k D n' 1000)) (fun p => lv R 2 p k D n' 0) (fun p => lv R 1 (M 6 p).toNat k D n' (M 62 (M 6 p).toNat))) 0 8 0 := by
    have e53 : M2 53 = M1 53 := s2 53 (by decide)
    have e54 : M2 54 = M 54 := by rw [s2 54 (by decide), l2 54 (by decide) (by decide)]
    have e55 : M2 55 = M 55 := by rw [s2 55 (by decide), l2 55 (by decide) (by decide)]
    rw [e53]
    rcases l6.1 with g | g
    · refine ⟨M2, by rw [g, if_pos w32_0], fun _ _ _ => rfl, fun f hf => ?_⟩
      have z : sumr (tDv (fun p => pSp2 (M 58 (f * 8 + p)) (lv R 3 p k D n' 1000)) (fun p => lv R 2 p k D n' 0) (fun p => lv R 1 (M 6 p).toNat k D n' (M 62 (M 6 p).toNat))) 0 8 0 = 0 := sumr_z 8 0 (fun j _ y => by
        have := l6.2.2.1 g j (by omega)
        rw [(l8 j (by omega)).1] at this
        unfold tDv
        dsimp only
        rw [this, w32_0, Int.mul_zero, Int.zero_mul]
        decide)
      rw [z, e54, e55, Int.add_zero, Int.add_zero]; exact ⟨rfl, rfl⟩
    · have e6 : M2 6 = M 6 := by rw [s2 6 (by decide), l2 6 (by decide) (by decide)]
      obtain ⟨M3, d1, d2, d3⟩ := uUC_pay (F := F) (M := M2) (nf := nf) (by omega) hnf (by rw [s2 1 (by decide), l2 1 (by decide) (by decide)]; exact h14) (fun f p x y => by rw [s3 f p x y]; exact pSp2_r _ _) (by rw [e6]; exact hC)
      refine ⟨M3, by rw [g, if_neg (by decide), d1, cl_s], d2, fun f hf => ?_⟩
      have ec : ∀ a, sumr (tDv (fun p => M2 58 (f * 8 + p)) (M2 63) (fun p => M2 62 (M2 6 p).toNat)) 0 8 a = a + sumr (tDv (fun p => pSp2 (M 58 (f * 8 + p)) (lv R 3 p k D n' 1000)) (fun p => lv R 2 p k D n' 0) (fun p => lv R 1 (M 6 p).toNat k D n' (M 62 (M 6 p).toNat))) 0 8 0 := fun a => by
        rw [sumr_a]
        congr 1
        refine sumr_c 8 0 0 (fun j _ y => ?_)
        have cj := hC j (by omega)
        unfold tDv
        dsimp only
        have e62 : M2 62 (M 6 j).toNat = lv R 1 (M 6 j).toNat k D n' (M 62 (M 6 j).toNat) := by
          rw [s2 62 (by decide)]
          exact l7 1 (M 6 j).toNat (by decide) (by omega)
        rw [s3 f j hf (by omega), s2 63 (by decide), (l8 j (by omega)).1, e6, e62]
      rw [(d3 f hf).1, (d3 f hf).2, ec, ec, e54, e55]; exact ⟨rfl, rfl⟩
  obtain ⟨M3, d1, d2, d3⟩ := dv
  have fr3 : ∀ q, q ≠ 53 → q ≠ 54 → q ≠ 55 → q ≠ 58 → (q < 61 ∨ 64 < q) → M3 q = M q := fun q x1 x2 x3 x4 x5 => by rw [d2 q x2 x3, s2 q x4, l2 q x1 x5]
  have e53 : M3 53 = M1 53 := by rw [d2 53 (by decide) (by decide), s2 53 (by decide)]
  have e26 : M3 26 = M 26 := fr3 26 (by decide) (by decide) (by decide) (by decide) (by decide)
  have e27 : M3 27 = M 27 := fr3 27 (by decide) (by decide) (by decide) (by decide) (by decide)
  obtain ⟨M4, t1, t2, t3, ⟨b2, t4, t5⟩, t6, t7⟩ := uUC_trades (F := F) (k := k) (M0 := M3) (R := R) (nf := nf) (nt := nt) (D := D) (a := a2) (by omega) hD hk hnf (hT.c (fun q hq => fr3 q (by omega) (by omega) (by omega) (by omega) (by omega))) (by rw [e53, l3 14 (by decide) (by decide) (by decide)]; exact p2) (by rw [e26, e27]; exact q2) (fun f p x y => by rw [d2 58 (by decide) (by decide), s3 f p x y]; exact pSp2_r _ _)
  have fr4 : ∀ q, q ≠ 53 → q ≠ 54 → q ≠ 55 → q ≠ 58 → (q < 61 ∨ 64 < q) → M4 q = M q := fun q x1 x2 x3 x4 x5 => by rw [t2 q x1 x2 x3 x4, fr3 q x1 x2 x3 x4 x5]
  have e35 : M4 35 = M 35 := fr4 35 (by decide) (by decide) (by decide) (by decide) (by decide)
  have e36 : M4 36 = M 36 := fr4 36 (by decide) (by decide) (by decide) (by decide) (by decide)
  obtain ⟨b3, f1, f2, f3, f4⟩ := uUC_find (F := F) (M0 := M4) (nd := nd) (D := D) (a := a3) (by omega) hD (by rw [fr4 34 (by decide) (by decide) (by decide) (by decide) (by decide)]; exact hn) hc (by rw [e35, e36]; exact hb) (by rw [t3 16 (by decide), e53, l3 16 (by decide) (by decide) (by decide)]; exact p3) (by rw [e35, e36]; exact q3)
  rw [e35, e36] at f3 f4
  rw [e26, e27] at t5
  refine ⟨st_ (st_ M4 53 15 (a3 : Int)) 53 16 (b3 : Int), b1, b2, b3, ?_, fun q x1 x2 x3 x4 x5 => by rw [st_ne x1, st_ne x1]; exact fr4 q x1 x2 x3 x4 x5, fun j hj => ?_, ⟨?_, l5⟩, ⟨?_, t5⟩, ⟨?_, ?_, f2, f3, f4⟩, ?_, fun s nr x y => ?_, fun f p x y => ?_, fun f hf => ?_⟩
  · unfold fUC_openDay
    refine (l1 _).trans ?_
    rw [s1, cl1_s, d1, cl1_s, t1, cl_s, f1, cl_s]
  · rw [st_eq, ud_ne (by omega), st_eq, ud_ne (by omega), t3 j (by omega), e53, l3 j (by omega) (by omega) (by omega)]
  · rw [st_eq, ud_ne (by decide), st_eq, ud_ne (by decide), t3 13 (by decide), e53]; exact l4
  · rw [st_eq, ud_ne (by decide), st_eq, ud_ne (by decide)]; exact t4
  · rw [st_eq, ud_ne (by decide), st_eq, ud_eq]
  · rw [st_eq, ud_eq]
  · have e63 : M4 63 = M1 63 := by rw [t2 63 (by decide) (by decide) (by decide) (by decide), d2 63 (by decide) (by decide), s2 63 (by decide)]
    have e64 : M4 64 = M1 64 := by rw [t2 64 (by decide) (by decide) (by decide) (by decide), d2 64 (by decide) (by decide), s2 64 (by decide)]
    have g11 : st_ (st_ M4 53 15 (a3 : Int)) 53 16 (b3 : Int) 53 11 = M1 53 11 := by rw [st_eq, ud_ne (by decide), st_eq, ud_ne (by decide), t3 11 (by decide), e53]
    have g12 : st_ (st_ M4 53 15 (a3 : Int)) 53 16 (b3 : Int) 53 12 = M1 53 12 := by rw [st_eq, ud_ne (by decide), st_eq, ud_ne (by decide), t3 12 (by decide), e53]
    unfold FLG
    rw [g11, g12, st_ne (by decide), st_ne (by decide), st_ne (show (64 : Nat) ≠ 53 by decide), st_ne (show (64 : Nat) ≠ 53 by decide), e63, e64]
    exact l6
  · rw [st_ne (by omega), st_ne (by omega), t2 (61 + s) (by omega) (by omega) (by omega) (by omega), d2 (61 + s) (by omega) (by omega), s2 (61 + s) (by omega)]; exact l7 s nr x y
  · rw [st_ne (by decide), st_ne (by decide), t6 f p x y, d2 58 (by decide) (by decide), s3 f p x y]
  · obtain ⟨z1, z2⟩ := t7 f hf
    obtain ⟨z3, z4⟩ := d3 f hf
    unfold dcx
    dsimp only
    rw [st_ne (by decide), st_ne (by decide), st_ne (show (55 : Nat) ≠ 53 by decide), st_ne (show (55 : Nat) ≠ 53 by decide), z1, z2, z3, z4]
    exact ⟨by omega, by omega⟩
