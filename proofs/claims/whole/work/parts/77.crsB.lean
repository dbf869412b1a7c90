/-! a day, side by side -/
def pcs (M : bz_Mm) (g p : Nat) : Int := M 58 (g * 8 + p)
def pvk (K : bz_Mm) (s nr : Nat) (k : Int) (n : Nat) : Nat → Int
  | 0 => pln s
  | d + 1 => kv K s nr k n d
theorem lv_kv {K : bz_Mm} {s nr : Nat} {k : Int} {n D : Nat} (hs : s < 2) : lv K s nr k D n (pvk K s nr k n D) = kv K s nr k n D := by
  cases D with
  | zero => rfl
  | succ d => rw [kv_S, if_pos hs]; rfl
theorem lv_kp {K : bz_Mm} {s nr : Nat} {k : Int} {n D : Nat} (hs : ¬ s < 2) : lv K s nr k D n (pln s) = kv K s nr k n D := by
  cases D with
  | zero => rfl
  | succ d => rw [kv_S, if_neg hs]
theorem kv10 {K : bz_Mm} {k : Int} {n : Nat} (h : ∀ t, t < n → p_subj (K 83 t) (K 84 t)) : ∀ d : Nat, kv K 1 0 k n d = 1000 := by
  have no : ∀ d t, t < n → ¬ tis K 1 0 k d t = true := fun d t ht q => by
    have := h t ht
    unfold tis at q
    simp only [Bool.and_eq_true, decide_eq_true_eq] at q
    unfold p_subj at this
    omega
  intro d
  induction d with
  | zero => show lv K 1 0 k 0 n (pln 1) = _; rw [lv_0 n _ (no 0)]; rfl
  | succ d ih => rw [kv_S, if_pos (by decide), lv_0 n _ (no (d + 1)), ih]
def PTS (M0 Mu : bz_Mm) (n nt nd D : Nat) : Prop := ∃ a1 a2 a3 : Nat, (Mu 53 13 = a1 ∧ ptr (M0 10) (M0 11) n a1 D) ∧ (Mu 53 14 = a2 ∧ ptr (M0 26) (M0 27) nt a2 D) ∧ (Mu 53 16 = a3 ∧ ptr (M0 35) (M0 36) nd a3 D)
def SD (K M0 : bz_Mm) (k : Int) (n nf nt nd D : Nat) (Mu WR WB : bz_Mm) : Prop := SF K M0 nf nd D 0 (pcs Mu) (pcs Mu) (fun _ => 0) Mu Mu WR WB ∧ PCR Mu nf ∧ PTS M0 Mu n nt nd D ∧ FLG Mu ∧ (∀ s nr, s < 2 → nr < 8 → (s = 1 → nr < 3) → Mu (61 + s) nr = pvk K s nr k n D) ∧ ∀ j, (j < 11 ∨ 16 < j) → Mu 53 j = M0 53 j
theorem c_open {F D : Nat} {M K : bz_Mm} (hD : D < 1000) (h : ∀ j, j < 260 → M 7 j = K 82 j ∧ r32 (K 82 j)) : ∃ x : Int, fUS_isOpen F M (D : Int) = some x ∧ (w32 x = 0 ↔ ¬ opn (K 82) D = true) := by
  have i : Decidable (p_open (M 7) (D : Int)) := Classical.propDecidable _
  rw [uUS_isOpen ⟨by omega, by omega⟩ (fun j hj => by rw [(h j hj).1]; exact (h j hj).2)]
  have e : p_open (M 7) (D : Int) ↔ opn (K 82) D = true := by
    rw [opn_t]
    unfold p_open
    constructor
    · rintro ⟨a, b, c, d⟩; exact ⟨a, b, c, by rw [← (h _ (by omega)).1]; exact d⟩
    · rintro ⟨a, b, c, d⟩; exact ⟨a, b, c, by rw [(h _ (by omega)).1]; exact d⟩
  by_cases c : p_open (M 7) (D : Int)
  · exact ⟨1, by rw [if_pos c], by rw [w32_1p, ← e]; simp [c]⟩
  · exact ⟨0, by rw [if_neg c], by rw [w32_0, ← e]; simp [c]⟩
theorem uUC_passDay {F : Nat} {K M0 Mu WR WB : bz_Mm} {k : Int} {n nf nt nd nl T D : Nat} (hF : 500 < F) (hD : D < 260) (hDT : D < T) (hS : STc K M0 k n nf nt nd nl T) (h : SD K M0 k n nf nt nd D Mu WR WB) : ∃ Mu', fUC_passDay F Mu (D : Int) k 0 = some Mu' ∧ SD K M0 k n nf nt nd (D + 1) Mu' (itr (gGo D nt nd 0 0) 0 nf WR) (itr (gGo D nt nd 1 0) 0 nf WB) := by
  have hS0 := hS
  obtain ⟨hSF, hPC, ⟨a1, a2, a3, ⟨pa, qa⟩, ⟨pb, qb⟩, ⟨pc, qc⟩⟩, hG, hKn, h53⟩ := h
  have hSF0 := hSF
  obtain ⟨s1, s2, s3, s4, s5, s6, s7, s8, s9, s10, s11⟩ := hSF
  obtain ⟨hA, hT, hDA, ⟨h14, hnf⟩, hC, ⟨hK1, hK2, hK3⟩, ⟨hLa, hLq⟩, h43, h7, h0, hal, hfee⟩ := hS
  have fr : ∀ q, q < 42 → Mu q = M0 q := fun q hq => s1 q (by omega) (by omega)
  have fr2 : ∀ q, q ≠ 42 → q < 53 → Mu q = M0 q := fun q h1 hq => s1 q h1 (by omega)
  have e10 : Mu 10 = M0 10 := fr 10 (by decide)
  have e11 : Mu 11 = M0 11 := fr 11 (by decide)
  have e26 : Mu 26 = M0 26 := fr 26 (by decide)
  have e27 : Mu 27 = M0 27 := fr 27 (by decide)
  have e35 : Mu 35 = M0 35 := fr 35 (by decide)
  have e36 : Mu 36 = M0 36 := fr 36 (by decide)
  have e6 : Mu 6 = M0 6 := fr 6 (by decide)
  have hAm : AL Mu K n := by
    unfold AL at hA ⊢
    rw [fr 9 (by decide), e10, e11, fr 12 (by decide), fr 13 (by decide), fr 14 (by decide), fr 15 (by decide)]; exact hA
  have hTm : TA Mu K nf nt := by
    unfold TA at hT ⊢
    rw [fr 25 (by decide), e26, e27, fr 28 (by decide), fr 29 (by decide), fr 30 (by decide), fr 31 (by decide), fr 32 (by decide)]; exact hT
  obtain ⟨M1, b1, b2, b3, o1, o2, o3, o4, o5, o6, o7, o8, o9, o10⟩ := uUC_openDay (F := F) (n := n) (nf := nf) (nt := nt) (nd := nd) (D := D) (k := k) (M := Mu) (R := K) hF hD hK3 hnf (by rw [fr 1 (by decide)]; exact h14) hAm hTm (by rw [fr 34 (by decide)]; exact hDA.1.1) hDA.1.2 (by rw [e35, e36]; exact hDA.2.1) (fun p hp => by rw [e6, (hC p hp).1]; exact (hC p hp).2) hPC hG pa pb pc (by rw [e10, e11]; exact qa) (by rw [e26, e27]; exact qb) (by rw [e35, e36]; exact qc)
  rw [e10, e11] at o4
  rw [e26, e27] at o5
  rw [e35, e36] at o6
  -- what is known on the day
  have k61 : ∀ s nr, s < 2 → nr < 8 → (s = 1 → nr < 3) → M1 (61 + s) nr = kv K s nr k n D := fun s nr hs hnr h3 => by rw [o8 s nr hs hnr, hKn s nr hs hnr h3, lv_kv hs]
  have hk1 : ∀ p, p < 8 → M1 61 p = K (158 + p) D := fun p hp => by
    rw [(hK1.1 p D hp hD).1]; exact k61 0 p (by decide) hp (fun q => absurd q (by decide))
  have hk2 : ∀ c, c < 3 → M1 62 c = K (167 + c) D := fun c hc => by
    have g := k61 1 c (by decide) (by omega) (fun _ => hc)
    rw [show 61 + 1 = 62 from rfl] at g
    rw [g]
    obtain ⟨z0, z1, z2⟩ := hK1.2 D hD
    match c, hc with
    | 0, _ => rw [kv10 (fun t ht => (hA.2.2 t ht).2.1)]; exact z0.symm
    | 1, _ => exact z1.symm
    | 2, _ => exact z2.symm
  have k3 : ∀ p, p < 8 → lv K 3 p k D n 1000 = K (180 + p) D := fun p hp => by
    rw [(hK1.1 p D hp hD).2.2]; exact lv_kp (s := 3) (by decide)
  have k2 : ∀ p, p < 8 → lv K 2 p k D n 0 = K (171 + p) D := fun p hp => by
    rw [(hK1.1 p D hp hD).2.1]; exact lv_kp (s := 2) (by decide)
  have k1 : ∀ p, p < 8 → lv K 1 (Mu 6 p).toNat k D n (Mu 62 (Mu 6 p).toNat) = K (167 + (K 92 p).toNat) D := fun p hp => by
    have cu := hC p hp
    rw [e6, cu.1]
    have := hk2 (K 92 p).toNat (by omega)
    rw [← this]
    have g := o8 1 (K 92 p).toNat (by decide) (by omega)
    rw [show 61 + 1 = 62 from rfl] at g
    exact g.symm
  have hL : LKp K nf nt D k (pcs Mu) (fun g p => pcT K g D k p (pSp2 (pcs Mu g p) (K (180 + p) D)) nt) (fun g => dcx K g D k nt (pcs Mu g) (fun p => K (180 + p) D) (fun p => K (171 + p) D) (fun p => K (167 + (K 92 p).toNat) D)) := fun g hg => ⟨rfl, fun p hp => rfl⟩
  have dce : ∀ g, g < nf → dcx K g D k nt (fun p => Mu 58 (g * 8 + p)) (fun p => lv K 3 p k D n 1000) (fun p => lv K 2 p k D n 0) (fun p => lv K 1 (Mu 6 p).toNat k D n (Mu 62 (Mu 6 p).toNat)) = dcx K g D k nt (pcs Mu g) (fun p => K (180 + p) D) (fun p => K (171 + p) D) (fun p => K (167 + (K 92 p).toNat) D) := fun g hg => dcx_c rfl (fun p hp => ⟨rfl, k3 p hp, k2 p hp, k1 p hp⟩)
  have hB : BK1 M0 M1 nd D a3 b3 := ⟨o6.1, o6.2.1, o6.2.2.1, o6.2.2.2.1.1, qc, o6.2.2.2.2, fun hb q => by
    have := o6.2.2.2.1.2.2 b3 (Nat.le_refl b3) hb
    omega⟩
  have sf0 : SF K M0 nf nd D 0 (pcs Mu) (fun g p => pcT K g D k p (pSp2 (pcs Mu g p) (K (180 + p) D)) nt) (fun g => dcx K g D k nt (pcs Mu g) (fun p => K (180 + p) D) (fun p => K (171 + p) D) (fun p => K (167 + (K 92 p).toNat) D)) M1 M1 WR WB := by
    refine ⟨fun q x y => ?_, ⟨rfl, rfl, rfl, rfl, rfl⟩, fun g p hg hp => ?_, s4, fun g hg => ⟨fun q => by omega, fun q => ?_⟩, fun g p hg hp => ⟨fun q => by omega, fun q => ?_⟩, ?_, ?_, ?_, ?_, ?_⟩
    · rw [o2 q (by omega) (by omega) (by omega) (by omega) (by omega)]; exact s1 q x y
    · rw [o9 g p hg hp, k3 p hp]; rfl
    · obtain ⟨z1, z2⟩ := o10 g hg
      obtain ⟨y1, y2⟩ := (s5 g hg).2 (by omega)
      rw [z1, z2, dce g hg]
      dsimp only at y1 y2 ⊢
      exact ⟨by omega, by omega⟩
    · exact (s6 g p hg hp).2 (by omega)
    · rw [o2 60 (by decide) (by decide) (by decide) (by decide) (by decide)]; exact s7
    · rw [o2 59 (by decide) (by decide) (by decide) (by decide) (by decide)]; exact s8
    · rw [o2 56 (by decide) (by decide) (by decide) (by decide) (by decide), o2 57 (by decide) (by decide) (by decide) (by decide) (by decide)]; exact s9
    · rw [o2 42 (by decide) (by decide) (by decide) (by decide) (by decide)]; exact s10
    · rw [o2 42 (by decide) (by decide) (by decide) (by decide) (by decide)]; exact s11
  -- the funds
  have run : ∃ Mu', UC_passDay_L12 F F (D : Int) 0 M1 = some Mu' ∧ SF K M0 nf nd D nf (pcs Mu) (fun g p => pcT K g D k p (pSp2 (pcs Mu g p) (K (180 + p) D)) nt) (fun g => dcx K g D k nt (pcs Mu g) (fun p => K (180 + p) D) (fun p => K (171 + p) D) (fun p => K (167 + (K 92 p).toNat) D)) M1 Mu' (itr (gGo D nt nd 0 0) 0 nf WR) (itr (gGo D nt nd 1 0) 0 nf WB) := by
    by_cases ho : opn (K 82) D = true
    · have lp : ∀ (m fuel f : Nat) (X A B : bz_Mm), f + m = nf → m < fuel → SF K M0 nf nd D f (pcs Mu) (fun g p => pcT K g D k p (pSp2 (pcs Mu g p) (K (180 + p) D)) nt) (fun g => dcx K g D k nt (pcs Mu g) (fun p => K (180 + p) D) (fun p => K (171 + p) D) (fun p => K (167 + (K 92 p).toNat) D)) M1 X A B → ∃ Mu', UC_passDay_L12 F fuel (D : Int) (f : Int) X = some Mu' ∧ SF K M0 nf nd D nf (pcs Mu) (fun g p => pcT K g D k p (pSp2 (pcs Mu g p) (K (180 + p) D)) nt) (fun g => dcx K g D k nt (pcs Mu g) (fun p => K (180 + p) D) (fun p => K (171 + p) D) (fun p => K (167 + (K 92 p).toNat) D)) M1 Mu' (itr (gGo D nt nd 0 0) f m A) (itr (gGo D nt nd 1 0) f m B) := by
        intro m
        induction m with
        | zero =>
          intro fuel f X A B x1 x2 x3
          obtain ⟨fuel, rfl⟩ : ∃ j, fuel = j + 1 := ⟨fuel - 1, by omega⟩
          have e : f = nf := by omega
          subst e
          rw [UC_passDay_L12, x3.1 1 (by decide) (by decide), h14, w32_n (by omega), if_neg (by omega)]
          exact ⟨X, rfl, x3⟩
        | succ m ih =>
          intro fuel f X A B x1 x2 x3
          obtain ⟨fuel, rfl⟩ : ∃ j, fuel = j + 1 := ⟨fuel - 1, by omega⟩
          have e : (f : Int) + 1 = ((f + 1 : Nat) : Int) := by omega
          obtain ⟨X', y1, y2⟩ := sf_open hF hD hDT hS0 hL (show f < nf by omega) ho hB hk1 hk2 x3
          obtain ⟨x, z1, z2⟩ := c_open (F := F) (D := D) (M := X) (K := K) (by omega) (fun j hj => by rw [x3.1 7 (by decide) (by decide)]; exact h7 j hj)
          rw [UC_passDay_L12, x3.1 1 (by decide) (by decide), h14, w32_n (show f ≤ 2147483647 by omega), w32_n (show nf ≤ 2147483647 by omega), if_pos (by omega), z1, cl_s, if_neg (fun q => z2.mp q ho), y1, e, itr_S, itr_S]
          exact ih fuel (f + 1) X' _ _ (by omega) (by omega) y2
      exact lp nf F 0 M1 WR WB (by omega) (by omega) sf0
    · have lp : ∀ (m f : Nat) (A B : bz_Mm), f + m = nf → SF K M0 nf nd D f (pcs Mu) (fun g p => pcT K g D k p (pSp2 (pcs Mu g p) (K (180 + p) D)) nt) (fun g => dcx K g D k nt (pcs Mu g) (fun p => K (180 + p) D) (fun p => K (171 + p) D) (fun p => K (167 + (K 92 p).toNat) D)) M1 M1 A B → SF K M0 nf nd D nf (pcs Mu) (fun g p => pcT K g D k p (pSp2 (pcs Mu g p) (K (180 + p) D)) nt) (fun g => dcx K g D k nt (pcs Mu g) (fun p => K (180 + p) D) (fun p => K (171 + p) D) (fun p => K (167 + (K 92 p).toNat) D)) M1 M1 (itr (gGo D nt nd 0 0) f m A) (itr (gGo D nt nd 1 0) f m B) := by
        intro m
        induction m with
        | zero => intro f A B x1 x3; have e : f = nf := by omega
                  subst e; exact x3
        | succ m ih =>
          intro f A B x1 x3
          rw [itr_S, itr_S]
          exact ih (f + 1) _ _ (by omega) (sf_closed hS0 hL (show f < nf by omega) ho x3)
      refine ⟨M1, ?_, lp nf 0 WR WB (by omega) sf0⟩
      obtain ⟨x, z1, z2⟩ := c_open (F := F) (D := D) (M := M1) (K := K) (by omega) (fun j hj => by rw [sf0.1 7 (by decide) (by decide)]; exact h7 j hj)
      obtain ⟨F', rfl⟩ : ∃ j, F = j + 1 := ⟨F - 1, by omega⟩
      rw [UC_passDay_L12, z1, cl_s, if_pos (z2.mpr ho)]
      split <;> rfl
  obtain ⟨Mu', run1, run2⟩ := run
  refine ⟨Mu', ?_, ?_⟩
  · unfold fUC_passDay
    rw [o1, cl_s, run1, cl1_s]
  · obtain ⟨t1, t2, t3, t4, t5, t6, t7, t8, t9, t10, t11⟩ := run2
    generalize itr (gGo D nt nd 0 0) 0 nf WR = A at t4 t5 t6 t7 t8 t9 t10
    generalize itr (gGo D nt nd 1 0) 0 nf WB = B at t4 t5 t6 t7 t8 t9 t10
    have f104 : ∀ i, i < nd → 0 ≤ K 104 i ∧ K 104 i < nf := fun i hi => (hDA.2.2 i hi).2.2.1
    have nz : ∀ g t, nf ≤ g → sdl K g D t nd = 0 := fun g t hg => sdl_z nd (fun i hi q _ => by have := f104 i hi; omega)
    have zA : ∀ g, feF A g (D + 1) 0 nd = 0 := fun g => feF_0 nd (fun i hi => by rw [(t4 104 (by omega)).1]; exact (f104 i hi).1)
    have zB : ∀ g, feF B g (D + 1) 0 nd = 0 := fun g => feF_0 nd (fun i hi => by rw [(t4 104 (by omega)).2]; exact (f104 i hi).1)
    refine ⟨⟨t1, ⟨rfl, rfl, rfl, rfl, rfl⟩, fun _ _ _ _ => rfl, t4, fun g hg => ⟨fun q => by omega, fun _ => ?_⟩, fun g p hg hp => ⟨fun q => by omega, fun _ => ?_⟩, fun g hg => ?_, fun x y hx hy => ?_, fun g d hg hd hop => ?_, fun i hi => ?_, t11⟩, fun g p hg hp => ?_, ⟨b1, b2, b3, ?_, ?_, ?_⟩, ?_, fun s nr hs hnr h3 => ?_, fun j hj => ?_⟩
    · obtain ⟨y1, y2⟩ := (t5 g hg).1 hg
      rw [zA g, zB g, y1, y2]
      dsimp only
      exact ⟨by omega, by omega⟩
    · obtain ⟨y1, y2⟩ := (t6 g p hg hp).1 hg
      have := t3 g p hg hp
      rw [y1, y2]; exact ⟨this.symm, this.symm⟩
    · obtain ⟨y1, y2, y3⟩ := t7 g hg
      refine ⟨y1, y2, ?_⟩
      rw [y3, if_neg (c := g < 0) (by omega)]
      by_cases e : g < nf
      · rw [if_pos e]
      · rw [if_neg e, usm_D, nz g _ (by omega), Int.add_zero]
    · obtain ⟨y1, y2, y3⟩ := t8 x y hx hy
      refine ⟨y1, y2, ?_⟩
      rw [y3, if_neg (c := y < 0) (by omega)]
      by_cases e : y < nf
      · rw [if_pos e]
      · rw [if_neg e, hsm_D, nz y _ (by omega), Int.add_zero]
    · exact t9 g d hg (by omega) hop
    · have e : dnx K (D + 1) 0 i ↔ dnx K D nf i := by
        have := f104 i hi
        unfold dnx
        constructor
        · rintro ⟨x, y⟩; exact ⟨x, by omega⟩
        · rintro ⟨x, y⟩; exact ⟨x, by omega⟩
      exact ⟨fun q => (t10 i hi).1 (e.mp q), fun q => (t10 i hi).2 (fun z => q (e.mpr z))⟩
    · rw [t3 g p hg hp]; exact pcT_r (pSp2_r _ _) nt
    · rw [t2.1]; exact o4
    · rw [t2.1]; exact o5
    · rw [t2.1]; exact ⟨o6.2.1, o6.2.2.2.1⟩
    · unfold FLG at o7 ⊢
      rw [t2.1, t2.2.2.2.1, t2.2.2.2.2]; exact o7
    · have : Mu' (61 + s) = M1 (61 + s) := by
        match s, hs with
        | 0, _ => exact t2.2.1
        | 1, _ => exact t2.2.2.1
      rw [this]; exact k61 s nr hs hnr h3
    · rw [t2.1, o3 j hj]; exact h53 j hj
