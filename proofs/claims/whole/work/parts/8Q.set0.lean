/-! sets of parties as bits -/
theorem bvI_s (x : BitVec 32) (h : x.toNat < 2147483648) : x.toInt = (x.toNat : Int) := by
  rw [BitVec.toInt_eq_toNat_cond]
  rw [if_pos (by omega)]
theorem bvI_n (a : Nat) (_h : a < 2147483648) : (Int32.ofInt (a : Int)).toBitVec = BitVec.ofNat 32 a := by
  rw [Int32.toBitVec_ofInt, BitVec.ofInt_natCast]
theorem ia_n {a b : Nat} (ha : a < 2147483648) (hb : b < 2147483648) : ia_ (a : Int) (b : Int) = ((a &&& b : Nat) : Int) := by
  unfold ia_
  have e : (Int32.ofInt (a : Int) &&& Int32.ofInt (b : Int)).toBitVec = BitVec.ofNat 32 (a &&& b) := by
    rw [Int32.toBitVec_and, bvI_n a ha, bvI_n b hb]
    apply BitVec.eq_of_toNat_eq
    rw [BitVec.toNat_and, BitVec.toNat_ofNat, BitVec.toNat_ofNat, BitVec.toNat_ofNat]
    rw [Nat.mod_eq_of_lt (by omega), Nat.mod_eq_of_lt (by omega), Nat.mod_eq_of_lt (Nat.lt_of_le_of_lt Nat.and_le_left (by omega))]
  have t : (Int32.ofInt (a : Int) &&& Int32.ofInt (b : Int)).toInt = (Int32.ofInt (a : Int) &&& Int32.ofInt (b : Int)).toBitVec.toInt := rfl
  have le : a &&& b ≤ a := Nat.and_le_left
  rw [t, e, bvI_s _ (by rw [BitVec.toNat_ofNat, Nat.mod_eq_of_lt (by omega)]; omega), BitVec.toNat_ofNat, Nat.mod_eq_of_lt (by omega)]
theorem ix_n {a b : Nat} (ha : a < 1024) (hb : b < 1024) : ix_ (a : Int) (b : Int) = ((a ^^^ b : Nat) : Int) := by
  unfold ix_
  have le : a ^^^ b < 2 ^ 10 := Nat.xor_lt_two_pow ha hb
  have e : (Int32.ofInt (a : Int) ^^^ Int32.ofInt (b : Int)).toBitVec = BitVec.ofNat 32 (a ^^^ b) := by
    rw [Int32.toBitVec_xor, bvI_n a (by omega), bvI_n b (by omega)]
    apply BitVec.eq_of_toNat_eq
    rw [BitVec.toNat_xor, BitVec.toNat_ofNat, BitVec.toNat_ofNat, BitVec.toNat_ofNat]
    rw [Nat.mod_eq_of_lt (by omega), Nat.mod_eq_of_lt (by omega), Nat.mod_eq_of_lt (by omega)]
  have t : (Int32.ofInt (a : Int) ^^^ Int32.ofInt (b : Int)).toInt = (Int32.ofInt (a : Int) ^^^ Int32.ofInt (b : Int)).toBitVec.toInt := rfl
  rw [t, e, bvI_s _ (by rw [BitVec.toNat_ofNat, Nat.mod_eq_of_lt (by omega)]; omega), BitVec.toNat_ofNat, Nat.mod_eq_of_lt (by omega)]
/-- a without b -/
def ndX (a b : Nat) : Nat := a ^^^ (a &&& b)
theorem ian_n {a b : Nat} (ha : a < 1024) (hb : b < 1024) : ia_ (a : Int) (ix_ (b : Int) (-1)) = ((ndX a b : Nat) : Int) := by
  unfold ia_ ix_ ndX
  have lt1 : a &&& b < 2 ^ 10 := Nat.lt_of_le_of_lt Nat.and_le_left ha
  have le : a ^^^ (a &&& b) < 2 ^ 10 := Nat.xor_lt_two_pow ha lt1
  have t : ∀ x : Int32, x.toInt = x.toBitVec.toInt := fun _ => rfl
  have r : Int32.ofInt ((Int32.ofInt (b : Int) ^^^ Int32.ofInt (-1)).toInt) = Int32.ofInt (b : Int) ^^^ Int32.ofInt (-1) := Int32.ofInt_toInt _
  rw [r, t]
  have e : (Int32.ofInt (a : Int) &&& (Int32.ofInt (b : Int) ^^^ Int32.ofInt (-1))).toBitVec = BitVec.ofNat 32 (a ^^^ (a &&& b)) := by
    rw [Int32.toBitVec_and, Int32.toBitVec_xor, bvI_n a (by omega), bvI_n b (by omega)]
    have m1 : (Int32.ofInt (-1)).toBitVec = BitVec.allOnes 32 := by decide
    rw [m1]
    apply BitVec.eq_of_getLsbD_eq
    intro i hi
    rw [BitVec.getLsbD_and, BitVec.getLsbD_xor, BitVec.getLsbD_ofNat, BitVec.getLsbD_ofNat, BitVec.getLsbD_ofNat, BitVec.getLsbD_allOnes]
    simp only [hi, decide_true, Bool.true_and]
    rw [Nat.testBit_xor, Nat.testBit_and]
    cases a.testBit i <;> cases b.testBit i <;> rfl
  rw [e, bvI_s _ (by rw [BitVec.toNat_ofNat, Nat.mod_eq_of_lt (by omega)]; omega), BitVec.toNat_ofNat, Nat.mod_eq_of_lt (by omega)]
theorem sl_b {i : Nat} (h : i ≤ 10) : sl_ 1 (i : Int) = ((2 ^ i : Nat) : Int) := by
  have : ∀ i : Nat, i ≤ 10 → sl_ 1 (i : Int) = ((2 ^ i : Nat) : Int) := by decide +kernel
  exact this i h
theorem sr_b {s i : Nat} (hs : s < 1024) (hi : i < 10) : ia_ (sr_ (s : Int) (i : Int)) 1 = (if s.testBit i then 1 else 0) := by
  have : ∀ s : Nat, s < 1024 → ∀ i : Nat, i < 10 → ia_ (sr_ (s : Int) (i : Int)) 1 = (if s.testBit i then 1 else 0) := by decide +kernel
  exact this s hs i hi
theorem low_b {a : Nat} (h : a < 1024) (h0 : a ≠ 0) : ∃ k, k < 10 ∧ a.testBit k = true ∧ (∀ j, j < k → a.testBit j = false) ∧ ia_ (a : Int) (-(a : Int)) = ((2 ^ k : Nat) : Int) := by
  have : ∀ a : Nat, a < 1024 → a ≠ 0 → ∃ k, k < 10 ∧ a.testBit k = true ∧ (∀ j, j < k → a.testBit j = false) ∧ ia_ (a : Int) (-(a : Int)) = ((2 ^ k : Nat) : Int) := by decide +kernel
  exact this a h h0

theorem nd_t (a b i : Nat) : (ndX a b).testBit i = (a.testBit i && !b.testBit i) := by
  unfold ndX
  rw [Nat.testBit_xor, Nat.testBit_and]
  cases a.testBit i <;> cases b.testBit i <;> rfl
def subX (g s : Nat) : Prop := ∀ i, g.testBit i = true → s.testBit i = true
theorem sub_and {g s : Nat} (h : subX g s) : g &&& s = g := by
  apply Nat.eq_of_testBit_eq
  intro i
  rw [Nat.testBit_and]
  cases e : g.testBit i
  · rfl
  · rw [h i e]; rfl
theorem sub_le {g s : Nat} (h : subX g s) : g ≤ s := by
  rw [← sub_and h]; exact Nat.and_le_right
theorem sub_lt {g s : Nat} (h : subX g s) (n : g ≠ s) : g < s := Nat.lt_of_le_of_ne (sub_le h) n
theorem nd_sub (s g : Nat) : subX (ndX s g) s := fun i hi => by
  rw [nd_t] at hi
  cases e : s.testBit i
  · rw [e, Bool.false_and] at hi; exact absurd hi (by decide)
  · rfl
theorem sub_t {a b c : Nat} (h1 : subX a b) (h2 : subX b c) : subX a c := fun i hi => h2 i (h1 i hi)
theorem nd_nd {s t : Nat} (h : subX t s) : ndX s (ndX s t) = t := by
  apply Nat.eq_of_testBit_eq
  intro i
  rw [nd_t, nd_t]
  cases e : t.testBit i
  · cases s.testBit i <;> rfl
  · rw [h i e]; rfl
theorem nd_xor {s g : Nat} (h : subX g s) : s ^^^ g = ndX s g := by
  apply Nat.eq_of_testBit_eq
  intro i
  rw [nd_t, Nat.testBit_xor]
  cases e : g.testBit i
  · cases s.testBit i <;> rfl
  · rw [h i e]; rfl
theorem nd_ne {s g k : Nat} (h : subX g s) (hk : g.testBit k = true) : ndX s g ≠ s := fun e => by
  have := nd_t s g k
  rw [e, h k hk, hk] at this
  exact absurd this (by decide)
theorem nd_lt {s g k : Nat} (h : subX g s) (hk : g.testBit k = true) : ndX s g < s := sub_lt (nd_sub s g) (nd_ne h hk)
theorem one_t (i j : Nat) : (2 ^ i).testBit j = decide (i = j) := Nat.testBit_two_pow
theorem one_sub {s i : Nat} (h : s.testBit i = true) : subX (2 ^ i) s := fun j hj => by
  rw [one_t, decide_eq_true_iff] at hj
  rw [← hj]; exact h
theorem sub_0 (s : Nat) : subX 0 s := fun i hi => by rw [Nat.zero_testBit] at hi; exact absurd hi (by decide)
theorem sub_b {g s : Nat} {n : Nat} (h : subX g s) (hs : s < 2 ^ n) : g < 2 ^ n := Nat.lt_of_le_of_lt (sub_le h) hs
theorem bit_n {s i n : Nat} (hs : s < 2 ^ n) (h : s.testBit i = true) : i < n := by
  by_cases c : i < n
  · exact c
  · have : s.testBit i = false := Nat.testBit_lt_two_pow (Nat.lt_of_lt_of_le hs (Nat.pow_le_pow_right (by decide) (by omega)))
    rw [this] at h; exact absurd h (by decide)
theorem bit_ex {s : Nat} (h : s ≠ 0) : ∃ i, s.testBit i = true := Nat.exists_testBit_of_ne_zero h
theorem bit_le {s : Nat} (h : s ≠ 0) : ∃ k, s.testBit k = true ∧ ∀ j, j < k → s.testBit j = false := by
  obtain ⟨i, hi⟩ := bit_ex h
  have : ∀ i, s.testBit i = true → ∃ k, s.testBit k = true ∧ ∀ j, j < k → s.testBit j = false := by
    intro i
    induction i using Nat.strongRecOn with
    | ind i ih =>
      intro hi
      by_cases c : ∃ j, j < i ∧ s.testBit j = true
      · obtain ⟨j, j1, j2⟩ := c; exact ih j j1 j2
      · refine ⟨i, hi, fun j hj => ?_⟩
        cases e : s.testBit j
        · rfl
        · exact absurd ⟨j, hj, e⟩ c
  exact this i hi
/-- the sum of a set -/
def sB (b : Nat → Int) : Nat → Nat → Int
  | 0, _ => 0
  | n + 1, s => sB b n s + if s.testBit n = true then b n else 0
theorem sB_S (b : Nat → Int) (n s : Nat) : sB b (n + 1) s = sB b n s + if s.testBit n = true then b n else 0 := rfl
theorem sB_0 (b : Nat → Int) : ∀ n : Nat, sB b n 0 = 0 := by
  intro n
  induction n with
  | zero => rfl
  | succ n ih => rw [sB_S, ih, Nat.zero_testBit, if_neg (by decide)]; rfl
theorem sB_nd (b : Nat → Int) {s g : Nat} (h : subX g s) : ∀ n : Nat, sB b n (ndX s g) = sB b n s - sB b n g := by
  intro n
  induction n with
  | zero => rfl
  | succ n ih =>
    rw [sB_S, sB_S, sB_S, ih, nd_t]
    cases e : g.testBit n
    · cases f : s.testBit n
      · simp; try omega
      · simp; try omega
    · rw [h n e]; simp; try omega
theorem sB_1 (b : Nat → Int) {i : Nat} : ∀ n : Nat, sB b n (2 ^ i) = if i < n then b i else 0 := by
  intro n
  induction n with
  | zero => rw [if_neg (by omega)]; rfl
  | succ n ih =>
    rw [sB_S, ih, one_t]
    by_cases c : i = n
    · subst c; rw [if_neg (by omega), if_pos (by rw [decide_eq_true_iff]), if_pos (by omega)]; omega
    · rw [if_neg (c := decide (i = n) = true) (by rw [decide_eq_true_iff]; exact c)]
      by_cases d : i < n
      · rw [if_pos d, if_pos (by omega)]; omega
      · rw [if_neg d, if_neg (by omega)]; rfl
def zS (b : Nat → Int) (n s : Nat) : Prop := w64 (sB b n s) = 0
theorem w64_sub {x y : Int} (hx : w64 x = 0) (hy : w64 y = 0) : w64 (x - y) = 0 := by
  unfold w64 at *
  have h1 := Int.dvd_of_bmod_eq_zero hx
  have h2 := Int.dvd_of_bmod_eq_zero hy
  exact Int.bmod_eq_zero_of_dvd (Int.dvd_sub h1 h2)
theorem zS_0 (b : Nat → Int) (n : Nat) : zS b n 0 := by unfold zS; rw [sB_0]; decide
theorem zS_nd {b : Nat → Int} {n s g : Nat} (h : subX g s) (h1 : zS b n s) (h2 : zS b n g) : zS b n (ndX s g) := by
  unfold zS at *
  rw [sB_nd b h]; exact w64_sub h1 h2
/-! how many heaps: the class's count and the reference's agree -/
def MO (b : Nat → Int) (n : Nat) (mo : Nat → Int) : Prop := mo 0 = 0 ∧ ∀ s, s ≠ 0 → s < 2 ^ n → (∀ i, s.testBit i = true → mo (ndX s (2 ^ i)) ≤ mo s ∧ (zS b n s → mo (ndX s (2 ^ i)) + 1 ≤ mo s)) ∧ ∃ i, s.testBit i = true ∧ (zS b n s → mo s = mo (ndX s (2 ^ i)) + 1) ∧ (¬ zS b n s → mo s = mo (ndX s (2 ^ i)))
def BE (b : Nat → Int) (n : Nat) (be : Nat → Int) : Prop := be 0 = 0 ∧ ∀ s k, s < 2 ^ n → s.testBit k = true → (∀ j, j < k → s.testBit j = false) → (∀ g, subX g s → g.testBit k = true → zS b n g → be (ndX s g) ≠ -1 → be (ndX s g) + 1 ≤ be s) ∧ (be s = -1 ∨ ∃ g, subX g s ∧ g.testBit k = true ∧ zS b n g ∧ be (ndX s g) ≠ -1 ∧ be s = be (ndX s g) + 1)
theorem mo_mono {b : Nat → Int} {n : Nat} {mo : Nat → Int} (h : MO b n mo) : ∀ s, s < 2 ^ n → ∀ t, subX t s → mo t ≤ mo s := by
  intro s
  induction s using Nat.strongRecOn with
  | ind s ih =>
    intro hs t ht
    by_cases c : t = s
    · rw [c]; exact Int.le_refl _
    · have ne : ndX s t ≠ 0 := fun e => by
        have := nd_nd ht
        rw [e] at this
        have z : ndX s 0 = s := by
          apply Nat.eq_of_testBit_eq
          intro i
          rw [nd_t, Nat.zero_testBit]
          cases s.testBit i <;> rfl
        rw [z] at this
        exact c this.symm
      obtain ⟨i, hi⟩ := bit_ex ne
      have si : s.testBit i = true := nd_sub s t i hi
      have ti : t.testBit i = false := by
        rw [nd_t] at hi
        cases e : t.testBit i
        · rfl
        · rw [e, si] at hi; exact absurd hi (by decide)
      have s0 : s ≠ 0 := fun e => by rw [e, Nat.zero_testBit] at si; exact absurd si (by decide)
      have lt := nd_lt (one_sub si) (show (2 ^ i).testBit i = true by rw [one_t]; exact decide_eq_true rfl)
      have sb : subX t (ndX s (2 ^ i)) := fun j hj => by
        rw [nd_t, ht j hj, one_t]
        by_cases e : i = j
        · rw [e] at ti; rw [ti] at hj; exact absurd hj (by decide)
        · rw [decide_eq_false e]; rfl
      exact Int.le_trans (ih _ lt (by omega) t sb) (((h.2 s s0 hs).1 i si).1)
theorem mo_zero {b : Nat → Int} {n : Nat} {mo : Nat → Int} (h : MO b n mo) : ∀ s, s < 2 ^ n → ∃ t, subX t s ∧ zS b n t ∧ mo t = mo s := by
  intro s
  induction s using Nat.strongRecOn with
  | ind s ih =>
    intro hs
    by_cases z : zS b n s
    · exact ⟨s, fun _ hi => hi, z, rfl⟩
    · by_cases s0 : s = 0
      · subst s0; exact absurd (zS_0 b n) z
      · obtain ⟨i, i1, i2, i3⟩ := (h.2 s s0 hs).2
        have lt := nd_lt (one_sub i1) (show (2 ^ i).testBit i = true by rw [one_t]; exact decide_eq_true rfl)
        obtain ⟨t, t1, t2, t3⟩ := ih _ lt (by omega)
        exact ⟨t, sub_t t1 (nd_sub s _), t2, by rw [t3, i3 z]⟩
theorem be_sub {b : Nat → Int} {n : Nat} {be : Nat → Int} (h : BE b n be) : ∀ s, s < 2 ^ n → zS b n s → ∀ t, subX t s → t ≠ s → zS b n t → 0 ≤ be t ∧ be t + 1 ≤ be s := by
  intro s
  induction s using Nat.strongRecOn with
  | ind s ih =>
    intro hs zs t ht hne zt
    have tl := sub_lt ht hne
    have tb : t < 2 ^ n := by omega
    have s0 : s ≠ 0 := by omega
    have b0 : 0 ≤ be t := by
      by_cases c : t = 0
      · rw [c, h.1]; exact Int.le_refl 0
      · have := ih t tl tb zt 0 (sub_0 t) (fun e => c e.symm) (zS_0 b n)
        rw [h.1] at this
        omega
    refine ⟨b0, ?_⟩
    obtain ⟨k, k1, k2⟩ := bit_le s0
    obtain ⟨e1, e2⟩ := h.2 s k hs k1 k2
    by_cases kt : t.testBit k = true
    · have t0 : t ≠ 0 := fun e => by rw [e, Nat.zero_testBit] at kt; exact absurd kt (by decide)
      have tk : ∀ j, j < k → t.testBit j = false := fun j hj => by
        cases e : t.testBit j
        · rfl
        · have := ht j e; rw [k2 j hj] at this; exact absurd this (by decide)
      have b1 := ih t tl tb zt 0 (sub_0 t) (fun e => t0 e.symm) (zS_0 b n)
      rw [h.1] at b1
      obtain ⟨f1, f2⟩ := h.2 t k tb kt tk
      rcases f2 with f2 | ⟨g, g1, g2, g3, g4, g5⟩
      · omega
      · have gs := sub_t g1 ht
        have s' := nd_lt gs g2
        have sub' : subX (ndX t g) (ndX s g) := fun j hj => by
          rw [nd_t] at hj ⊢
          cases e : t.testBit j
          · rw [e, Bool.false_and] at hj; exact absurd hj (by decide)
          · rw [ht j e]; rw [e] at hj; exact hj
        have ne' : ndX t g ≠ ndX s g := fun e => hne (by
          apply Nat.eq_of_testBit_eq
          intro j
          have q : (ndX t g).testBit j = (ndX s g).testBit j := by rw [e]
          rw [nd_t, nd_t] at q
          cases e1 : g.testBit j
          · rw [e1] at q
            cases e2 : t.testBit j <;> cases e3 : s.testBit j
            · rfl
            · rw [e2, e3] at q; exact absurd q (by decide)
            · rw [e2, e3] at q; exact absurd q (by decide)
            · rfl
          · rw [g1 j e1, gs j e1])
        have a := ih _ s' (by omega) (zS_nd gs zs g3) (ndX t g) sub' ne' (zS_nd g1 zt g3)
        have := e1 g gs g2 g3 (by omega)
        omega
    · have kf : t.testBit k = false := by cases e : t.testBit k
                                          · rfl
                                          · exact absurd e kt
      have := e1 (ndX s t) (nd_sub s t) (by rw [nd_t, k1, kf]; rfl) (zS_nd ht zs zt) (by rw [nd_nd ht]; omega)
      rw [nd_nd ht] at this
      exact this
theorem be_pos {b : Nat → Int} {n : Nat} {be : Nat → Int} (h : BE b n be) {s : Nat} (hs : s < 2 ^ n) (zs : zS b n s) (s0 : s ≠ 0) : 1 ≤ be s := by
  have := be_sub h s hs zs 0 (sub_0 s) (fun e => s0 e.symm) (zS_0 b n)
  rw [h.1] at this
  omega
theorem mo_be {b : Nat → Int} {n : Nat} {mo be : Nat → Int} (hm : MO b n mo) (hb : BE b n be) : ∀ s, s < 2 ^ n → zS b n s → be s = mo s := by
  intro s
  induction s using Nat.strongRecOn with
  | ind s ih =>
    intro hs zs
    by_cases s0 : s = 0
    · rw [s0, hm.1, hb.1]
    · have p1 := be_pos hb hs zs s0
      have up : mo s ≤ be s := by
        obtain ⟨i, i1, i2, _⟩ := (hm.2 s s0 hs).2
        have lt := nd_lt (one_sub i1) (show (2 ^ i).testBit i = true by rw [one_t]; exact decide_eq_true rfl)
        obtain ⟨t, t1, t2, t3⟩ := mo_zero hm _ (show ndX s (2 ^ i) < 2 ^ n by omega)
        have ts := sub_t t1 (nd_sub s _)
        have tl : t < s := Nat.lt_of_le_of_lt (sub_le t1) lt
        have e := ih t tl (by omega) t2
        have a := be_sub hb s hs zs t ts (by omega) t2
        have := i2 zs
        omega
      have dn : be s ≤ mo s := by
        obtain ⟨k, k1, k2⟩ := bit_le s0
        rcases (hb.2 s k hs k1 k2).2 with f | ⟨g, g1, g2, g3, g4, g5⟩
        · omega
        · have lt := nd_lt g1 g2
          have e := ih _ lt (by omega) (zS_nd g1 zs g3)
          have sb : subX (ndX s g) (ndX s (2 ^ k)) := fun j hj => by
            have sj := nd_sub s g j hj
            rw [nd_t, sj, one_t]
            by_cases q : k = j
            · rw [← q, nd_t, g2, k1] at hj; exact absurd hj (by decide)
            · rw [decide_eq_false q]; rfl
          have lt2 := nd_lt (one_sub k1) (show (2 ^ k).testBit k = true by rw [one_t]; exact decide_eq_true rfl)
          have m1 := mo_mono hm _ (show ndX s (2 ^ k) < 2 ^ n by omega) _ sb
          have := ((hm.2 s s0 hs).1 k k1).2 zs
          omega
      omega
/-- the next smaller subset -/
theorem sub_next : ∀ (h g g' : Nat), g &&& h = g → g' &&& h = g' → g' < g → g' ≤ (g - 1) &&& h := by
  intro h
  induction h using Nat.strongRecOn with
  | ind h ih =>
    intro g g' e1 e2 lt
    by_cases h0 : h = 0
    · subst h0
      rw [Nat.and_zero] at e1
      omega
    · have d1 : (g &&& h) / 2 = (g / 2) &&& (h / 2) := Nat.and_div_two
      have d2 : (g' &&& h) / 2 = (g' / 2) &&& (h / 2) := Nat.and_div_two
      have d3 : ((g - 1) &&& h) / 2 = ((g - 1) / 2) &&& (h / 2) := Nat.and_div_two
      rw [e1] at d1
      rw [e2] at d2
      have b1 := Nat.and_le_left (n := g) (m := h)
      by_cases odd : g % 2 = 1
      · -- g odd: (g-1) &&& h = g - 1
        have q : (g - 1) / 2 = g / 2 := by omega
        rw [q, ← d1] at d3
        omega
      · have g2 : g / 2 ≠ 0 := by omega
        have q : (g - 1) / 2 = g / 2 - 1 := by omega
        rw [q] at d3
        have lt2 : g' / 2 < g / 2 := by omega
        have r := ih (h / 2) (by omega) (g / 2) (g' / 2) d1.symm d2.symm lt2
        rw [← d3] at r
        -- the last bit
        have m1 : ((g - 1) &&& h) % 2 = ((g - 1) % 2) &&& (h % 2) := Nat.and_mod_two_pow (n := 1)
        have m2 : (g' &&& h) % 2 = (g' % 2) &&& (h % 2) := Nat.and_mod_two_pow (n := 1)
        rw [e2] at m2
        have o1 : (g - 1) % 2 = 1 := by omega
        rw [o1] at m1
        have hb : h % 2 = 0 ∨ h % 2 = 1 := by omega
        rcases hb with hb | hb
        · rw [hb, Nat.and_zero] at m2; omega
        · rw [hb] at m1
          have : (1 &&& 1 : Nat) = 1 := by decide
          rw [this] at m1
          omega
