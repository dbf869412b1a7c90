/-! what leaves the told state alone -/
def iS (q : Nat) : Prop := q = 2 ∨ q = 6 ∨ q = 7 ∨ (9 ≤ q ∧ q ≤ 15) ∨ (25 ≤ q ∧ q ≤ 32) ∨ (34 ≤ q ∧ q ≤ 49) ∨ (53 ≤ q ∧ q ≤ 64) ∨ (82 ≤ q ∧ q ≤ 87) ∨ q = 92 ∨ q = 93 ∨ (97 ≤ q ∧ q ≤ 109) ∨ (119 ≤ q ∧ q ≤ 148) ∨ q = 154 ∨ q = 155 ∨ (211 ≤ q ∧ q ≤ 220)
theorem IT.c {M y : bz_Mm} {n nf nt nd nl now : Nat} (hI : IT M n nf nt nd nl now) (fe : ∀ q, iS q → y q = M q) (f1 : y 1 13 = M 1 13 ∧ y 1 14 = M 1 14) (f81 : ∀ j, (j = 0 ∨ j = 12 ∨ j = 19 ∨ j = 27 ∨ j = 35 ∨ j = 43 ∨ j = 61) → y 81 j = M 81 j) : IT y n nf nt nd nl now := by
  unfold iS at fe
  have us : ∀ g D', usm y g D' nd = usm M g D' nd := fun g D' => usm_e nd (fun i hi => by rw [fe 104 (by decide), fe 106 (by decide), fe 107 (by decide)]; exact ⟨rfl, rfl, fun _ _ => rfl⟩)
  have hs : ∀ w g D', hwm y w g D' nd = hwm M w g D' nd := fun w g D' => hwm_e nd (fun i hi => by rw [fe 103 (by decide), fe 104 (by decide), fe 106 (by decide), fe 107 (by decide)]; exact ⟨rfl, rfl, rfl, fun _ _ => rfl⟩)
  obtain ⟨i1, i2, ⟨i3, i3b⟩, ⟨i4, i4b⟩, ⟨i5, i5b, i5c⟩, i6, i7, i8, i9, i10, i11, i12, i13, i14⟩ := hI
  refine ⟨by rw [f1.1, f81 0 (by decide)]; exact i1, by rw [f1.2, f81 19 (by decide)]; exact i2, ⟨i3.p (fun q u v => fe q (by omega)) (fun q t u v _ => by rw [fe q (by omega)]), ?_⟩, ⟨?_, by rw [f81 27 (by decide)]; exact i4b⟩, ⟨?_, by rw [f81 35 (by decide)]; exact i5b, by rw [fe 39 (by decide), fe 105 (by decide)]; exact i5c⟩, by rw [fe 6 (by decide), fe 92 (by decide)]; exact i6, iv_la.c (fun q hq => fe q (by omega)) (f81 43 (by decide)) i7, by rw [fe 7 (by decide), fe 82 (by decide)]; exact i8, by rw [fe 82 (by decide), fe 106 (by decide), fe 107 (by decide), fe 108 (by decide), fe 109 (by decide)]; exact i9, ⟨fun w g D' hw hg => by rw [hs]; exact i10.1 w g D' hw hg, fun i hi => by
      have : hbi y nd i = hbi M nd i := by
        unfold hbi
        have e : ∀ (g D : Nat) (t : Nat → Int), sdl y g D t i = sdl M g D t i := fun g D t => sdl_c i (fun j _ => ⟨⟨by rw [fe 104 (by decide)], by rw [fe 106 (by decide)]⟩, fun _ _ => rfl⟩)
        rw [hs, e, fe 103 (by decide), fe 104 (by decide), fe 106 (by decide), fe 107 (by decide)]
      rw [this, fe 107 (by decide)]; exact i10.2 i hi⟩, fun g dd hg hd hop => ?_, by rw [fe 2 (by decide), fe 93 (by decide)]; exact i12, by rw [fe 87 (by decide), fe 86 (by decide), fe 102 (by decide)]; exact i13, ⟨fun w g hw hg => by rw [fe 43 (by decide), hs]; exact i14.1 w g hw hg, fun g hg => by rw [fe 44 (by decide), us]; exact i14.2 g hg⟩⟩
  · unfold TE at i3b ⊢
    rw [f81 12 (by decide), f81 61 (by decide), fe 83 (by decide), fe 84 (by decide), fe 85 (by decide), fe 87 (by decide)]; exact i3b
  · unfold TA at i4 ⊢
    rw [fe 25 (by decide), fe 26 (by decide), fe 27 (by decide), fe 28 (by decide), fe 29 (by decide), fe 30 (by decide), fe 31 (by decide), fe 32 (by decide), fe 97 (by decide), fe 98 (by decide), fe 99 (by decide), fe 100 (by decide), fe 101 (by decide), fe 102 (by decide)]; exact i4
  · unfold DA at i5 ⊢
    rw [fe 34 (by decide), fe 35 (by decide), fe 36 (by decide), fe 37 (by decide), fe 38 (by decide), fe 40 (by decide), fe 41 (by decide), fe 103 (by decide), fe 104 (by decide), fe 105 (by decide), fe 106 (by decide), fe 107 (by decide), fe 109 (by decide)]; exact i5
  · rw [fe 82 (by decide)] at hop
    have := i2.2.2
    rw [fe 48 (by decide), fe 49 (by decide), fe (212 + g) (by omega), fe (217 + g) (by omega)]; exact i11 g dd hg hd hop
theorem TT.c {M y : bz_Mm} {n nd now nl : Nat} (hl : iv_la M nl) (fe : ∀ q, iS q → y q = M q) (f43 : y 81 43 = M 81 43) : TT M y n nd nd now := by
  unfold iS at fe
  refine ⟨fun q hq => fe q (by omega), fun q t u v _ => by rw [fe q (by omega)], ⟨Nat.le_refl nd, fun i hi => by rw [fe 103 (by decide), fe 104 (by decide), fe 105 (by decide), fe 106 (by decide), fe 107 (by decide), fe 109 (by decide)]; exact ⟨⟨rfl, rfl, rfl, rfl⟩, rfl, rfl⟩, fun i a b => by omega⟩, fun d _ => by rw [fe 82 (by decide)], fun f d w hf _ _ => ?_, fun g d hg _ => by rw [fe (217 + g) (by omega)], fun q a b => fe q (by omega), ⟨fe 10 (by decide), fe 11 (by decide), fe 26 (by decide), fe 27 (by decide)⟩, fun a D _ h => by rw [fe 35 (by decide), fe 36 (by decide)]; exact h, fun i _ => by rw [fe 42 (by decide)]⟩
  have g : ∀ l f w, l < 6 → f < 5 → ru y l f w = ru M l f w := fun l f w hl hf => by
    unfold ru
    rw [fe (119 + 5 * l + f) (by omega), fe (119 + 5 * l + 4) (by omega)]
  have h2 := hl.2.1
  have h3 := hl.2.2.1
  unfold rv
  rw [f43, fe 154 (by decide)]
  have := lw_r (M 154) (d : Int) (M 81 43).toNat
  by_cases c : lw (M 154) (d : Int) (M 81 43).toNat = -1
  · rw [if_pos c, if_pos c]
  · rw [if_neg c, if_neg c]; exact g _ f w (by omega) (by omega)
theorem IQ.c {M y : bz_Mm} {n nf nt nd nl now : Nat} (h : IQ M n nf nt nd nl now) (fe : ∀ q, iS q → y q = M q) (f1 : y 1 13 = M 1 13 ∧ y 1 14 = M 1 14) (f17 : y 1 17 = M 1 17) (f81 : ∀ j, (j = 0 ∨ j = 12 ∨ j = 19 ∨ j = 27 ∨ j = 35 ∨ j = 43 ∨ j = 61) → y 81 j = M 81 j) : IQ y n nf nt nd nl now := by
  obtain ⟨hI, hC, h1, h2, h3, h4⟩ := h
  have hI' := hI.c fe f1 f81
  have e53 := fe 53 (by unfold iS; decide)
  exact ⟨hI', CA.tt hI hI' (TT.c hI.2.2.2.2.2.2.1 fe (f81 43 (by decide))) f17 hC, by rw [f17]; exact h1, by rw [e53, f17]; exact h2, by rw [e53]; exact h3, by rw [fe 82 (by unfold iS; decide), fe 106 (by unfold iS; decide), fe 42 (by unfold iS; decide)]; exact h4⟩
/-- the rest of the state -/
def IX (M : bz_Mm) (c nf nd nh ns : Nat) : Prop := M 1 17 ≤ c ∧ (∃ m, iv_tx M m) ∧ M 81 2 = M 1 16 ∧ by_ok (M 18) (M 19) ns ∧ (∀ j, nh ≤ j → j < 16 → M 5 j = -1) ∧ (∀ g, nf ≤ g → g < 4 → M 3 g = -1) ∧ (∀ g, g < 4 → r32 (M 96 g)) ∧ ∀ i, nd ≤ i → (M 40 i = 0 ∧ M 41 i = 0) ∧ M 107 i = 0 ∧ M 108 i = 0 ∧ M 109 i = 0
def Ia (M : bz_Mm) (c n nf nt nd nl now nh ns na : Nat) : Prop := IQ M n nf nt nd nl now ∧ IH M nf nd nh ∧ ISu M ns ∧ (IAu M nf now na ∧ M 77 3 = na) ∧ SC M n nf nt nd ns now na ∧ IX M c nf nd nh ns
def Iv (c : Nat) (M : bz_Mm) : Prop := ∃ n nf nt nd nl now nh ns na : Nat, Ia M c n nf nt nd nl now nh ns na
theorem IX.s {M : bz_Mm} {c nf nd nh ns : Nat} (h : IX M c nf nd nh ns) : IX M (c + 1) nf nd nh ns := ⟨by have := h.1; omega, h.2⟩
theorem Iv.s {M : bz_Mm} {c : Nat} (h : Iv c M) : Iv (c + 1) M := by
  obtain ⟨n, nf, nt, nd, nl, now, nh, ns, na, a, b, d, e, f, g⟩ := h
  exact ⟨n, nf, nt, nd, nl, now, nh, ns, na, a, b, d, e, f, g.s⟩
theorem iv_tx.c {M y : bz_Mm} {m : Nat} (h : iv_tx M m) (h1 : y 50 2 = M 50 2) (h2 : y 51 = M 51) (h3 : y 110 = M 110) (h4 : y 81 37 = M 81 37) : iv_tx y m := by
  unfold iv_tx at h ⊢
  rw [h1, h2, h3, h4]; exact h
/-- after a query -/
theorem IX.fr {M y : bz_Mm} {c n nf nd nh ns : Nat} (h : IX M c nf nd nh ns) (f : FR n M y) : IX y (c + 1) nf nd nh ns := by
  obtain ⟨fe, _, f81, _⟩ := f
  obtain ⟨h1, ⟨m, h2⟩, h3, h4, h5, h6, h7, h8⟩ := h
  refine ⟨by rw [fe 1 (by decide)]; omega, ⟨m, h2.c (by rw [fe 50 (by decide)]) (fe 51 (by decide)) (fe 110 (by decide)) (f81 37 (by decide))⟩, by rw [f81 2 (by decide), fe 1 (by decide)]; exact h3, by rw [fe 18 (by decide), fe 19 (by decide)]; exact h4, by rw [fe 5 (by decide)]; exact h5, by rw [fe 3 (by decide)]; exact h6, by rw [fe 96 (by decide)]; exact h7, by rw [fe 40 (by decide), fe 41 (by decide), fe 107 (by decide), fe 108 (by decide), fe 109 (by decide)]; exact h8⟩
theorem Iv.q {M y : bz_Mm} {c n nf nt nd nl now nh ns na : Nat} (h : Ia M c n nf nt nd nl now nh ns na) (hy : QY M y n nf nt nd nl now) : Iv (c + 1) y := by
  obtain ⟨a, b, d, ⟨e, e2⟩, f, g⟩ := h
  obtain ⟨q1, q2, q3⟩ := hy
  exact ⟨n, nf, nt, nd, nl, now, nh, ns, na, q1, b.fr q2, d.fr q2, ⟨e.fr q2, by rw [q3]; exact e2⟩, f.fr q2 q3, g.fr q2⟩
theorem SC.c {M y : bz_Mm} {n nf nt nd nl now ns na : Nat} (h : SC M n nf nt nd ns now na) (hI : IT M n nf nt nd nl now) (hA : IAu M nf now na) (fe : ∀ q, iS q → y q = M q) (f1 : y 1 13 = M 1 13 ∧ y 1 14 = M 1 14) (f17 : y 1 17 = M 1 17) (f81 : ∀ j, (j = 0 ∨ j = 12 ∨ j = 19 ∨ j = 27 ∨ j = 35 ∨ j = 43 ∨ j = 61) → y 81 j = M 81 j) (hs : ∀ q, 87 < q → q < 92 → y q = M q) (ha : ∀ q, 226 < q → q < 230 → y q = M q) (h77 : y 77 = M 77) : SC y n nf nt nd ns now na := by
  unfold SC at h ⊢
  rw [ex_.tt hI (hI.c fe f1 f81) (TT.c hI.2.2.2.2.2.2.1 fe (f81 43 (by decide))) hA (fun q i a b _ => by rw [hs q (by omega) (by omega)]) ha, h77, f17]
  exact h
