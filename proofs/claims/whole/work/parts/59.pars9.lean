/-! fault and take -/
theorem read_both {F n : Nat} {M Mm : bz_Mm} (hF : 700 < F) (ht : tx (M 51) (Mm 110) n) (h1 : M 50 2 = n) (h2 : Mm 81 37 = n) : ∃ Mu' Mm' : bz_Mm, fUX_read F M = some (Mu' 50 7, Mu') ∧ fM_reads F Mm = some Mm' ∧ LF (M 51) (Mm 110) n M Mm Mu' Mm' := by
  obtain ⟨M1, f1, f2, f3⟩ := fillM (F := F) (by omega) 5 F 0 (st_ Mm 81 40 (-1)) (by decide) (by omega)
  have e81 : M1 81 = st_ Mm 81 40 (-1) 81 := f2 81 (by omega)
  have lh : LH (M 51) (Mm 110) n 0 M Mm (st_ (st_ (fl M 52 0 60 (-2147483648)) 50 5 0) 50 7 (-1)) (st_ M1 81 38 0) := by
    refine ⟨⟨?_, ?_, ?_, fun a x y => ?_⟩, ⟨?_, ?_, ?_, fun q x y => ?_, fun j x y z => ?_, fun f w x y => ?_⟩, ?_, fun _ => ⟨?_, ?_, fun f w x y => ?_⟩⟩
    · rw [st_ne (by decide), st_ne (by decide), flz_o (by decide)]
    · rw [st_eq, ud_ne (by decide), st_eq, ud_ne (by decide), flz_o (by decide)]; exact h1
    · rw [st_eq, ud_eq]; omega
    · rw [st_ne x, st_ne x, flz_o y]
    · rw [st_ne (by decide), f2 110 (by omega), st_ne (by decide)]
    · rw [st_eq, ud_ne (by decide), e81, st_eq, ud_ne (by decide)]; exact h2
    · rw [st_eq, ud_ne (by decide), e81, st_eq, ud_eq]; omega
    · rw [st_ne x, f2 q (by omega), st_ne x]
    · rw [st_eq, ud_ne x, e81, st_eq, ud_ne z]
    · rw [st_ne (by omega), f3 f w (by omega) x y]; exact Or.inl rfl
    · rw [st_eq, ud_eq, st_eq, ud_ne (by decide), e81, st_eq, ud_eq]
    · rw [st_eq, ud_ne (by decide), st_eq, ud_eq]; rfl
    · rw [st_eq, ud_eq]; rfl
    · rw [st_ne (by decide), st_ne (by decide), flz_e, if_pos (by omega), st_ne (by omega), f3 f w (by omega) x y]
  obtain ⟨Mu', Mm', a1, a2, a3⟩ := sim_lines (F := F) hF ht (n + 1) F F 0 0 _ _ (by omega) (by omega) (by omega) (by have := ht.1; omega) (by have := ht.1; omega) lh
  have e0 : ((0 : Nat) : Int) = 0 := rfl
  rw [e0] at a1 f1
  refine ⟨Mu', Mm', ?_, ?_, a3⟩
  · unfold fUX_read
    rw [uJA_fill1 (by omega) (by decide), cl_s, wf_s, wf_s, a1, cl1_s]
  · unfold fM_reads
    rw [wf_s, f1, cl1_s, wf_s, a2, cl1_s]
theorem iv_tx.tx {M : bz_Mm} {n : Nat} (h : iv_tx M n) : tx (M 51) (M 110) n := ⟨h.2.2.1, h.2.2.2⟩
/-- class reads, then the reference on what is left -/
theorem read_two {F n : Nat} {M : bz_Mm} (hF : 700 < F) (h : iv_tx M n) : ∃ Mu Mm : bz_Mm, fUX_read F M = some (Mu 50 7, Mu) ∧ fM_reads F Mu = some Mm ∧ LF (M 51) (M 110) n M Mu Mu Mm := by
  obtain ⟨Mu, Mm, a1, a2, a3⟩ := read_both (M := M) (Mm := M) hF h.tx h.1 h.2.1
  have f1 := a3.1.2.2 110 (by decide) (by decide)
  have f2 := a3.1.2.2 81 (by decide) (by decide)
  obtain ⟨Mu2, Mm2, b1, b2, b3⟩ := read_both (M := M) (Mm := Mu) hF (by rw [f1]; exact h.tx) h.1 (by rw [f2]; exact h.2.1)
  rw [a1] at b1
  have e : Mu = Mu2 := (Prod.mk.inj (Option.some.inj b1)).2
  subst e
  rw [f1] at b3
  exact ⟨Mu, Mm2, a1, b2, b3⟩
theorem eq_fault {F n : Nat} {M : bz_Mm} (hF : 700 < F) (h : iv_tx M n) : ∃ (x : Int) (Mu Mm : bz_Mm), fU_fault F M = some (x, Mu) ∧ fM_fault F Mu = some (x, Mm) ∧ LF (M 51) (M 110) n M Mu Mu Mm := by
  obtain ⟨Mu, Mm, a1, a2, a3⟩ := read_two hF h
  refine ⟨Mu 50 7, Mu, Mm, ?_, ?_, a3⟩
  · unfold fU_fault; rw [a1, cl2_s]
  · unfold fM_fault; rw [a2, cl_s, a3.2.2.1]
def pk (M : bz_Mm) (f w : Nat) : Int := if M 52 (f * 12 + w) = -2147483648 then (if M 52 (48 + w) = -2147483648 then bz_wo.getD w 0 else M 52 (48 + w)) else M 52 (f * 12 + w)
theorem pk_c {M M' : bz_Mm} (h : M' 52 = M 52) (f w : Nat) : pk M' f w = pk M f w := by unfold pk; rw [h]
theorem addU {F l : Nat} {now : Int} (hF : 100 < F) (hl : l < 6) : ∀ (m fuel f : Nat) (M : bz_Mm), (∀ j, j < 60 → r32 (M 52 j)) → f + m = 4 → m < fuel → ∃ M' : bz_Mm, UL_add_52_L19 F fuel (l : Int) now (f : Int) M = some M' ∧ (∀ q, q ≠ 47 → M' q = M q) ∧ (∀ g w, f ≤ g → g < 4 → w < 12 → M' 47 ((l * 4 + g) * 12 + w) = pk M g w) ∧ ∀ j, j < (l * 4 + f) * 12 → M' 47 j = M 47 j := by
  intro m
  induction m with
  | zero =>
    intro fuel f M hr h1 h2
    obtain ⟨fuel, rfl⟩ : ∃ j, fuel = j + 1 := ⟨fuel - 1, by omega⟩
    rw [UL_add_52_L19, w32_id (x := (f : Int)) (by omega) (by omega), if_neg (by omega)]
    exact ⟨M, rfl, fun _ _ => rfl, fun g w h3 h4 => by omega, fun _ _ => rfl⟩
  | succ m ih =>
    intro fuel f M hr h1 h2
    obtain ⟨fuel, rfl⟩ : ∃ j, fuel = j + 1 := ⟨fuel - 1, by omega⟩
    have inner : ∀ (m fuel i : Nat) (M : bz_Mm), (∀ j, j < 60 → r32 (M 52 j)) → i + m = 12 → m < fuel → ∃ M' : bz_Mm, UL_add_52_L28 F fuel (f : Int) (l : Int) now (i : Int) M = some M' ∧ (∀ q, q ≠ 47 → M' q = M q) ∧ (∀ w, i ≤ w → w < 12 → M' 47 ((l * 4 + f) * 12 + w) = pk M f w) ∧ ∀ j, j < (l * 4 + f) * 12 + i → M' 47 j = M 47 j := by
      intro m
      induction m with
      | zero =>
        intro fuel i M hr h1 h2
        obtain ⟨fuel, rfl⟩ : ∃ j, fuel = j + 1 := ⟨fuel - 1, by omega⟩
        rw [UL_add_52_L28, w32_id (x := (i : Int)) (by omega) (by omega), if_neg (by omega)]
        exact ⟨M, rfl, fun _ _ => rfl, fun w h3 h4 => by omega, fun _ _ => rfl⟩
      | succ m ih =>
        intro fuel i M hr h1 h2
        obtain ⟨fuel, rfl⟩ : ∃ j, fuel = j + 1 := ⟨fuel - 1, by omega⟩
        have r1 := hr (f * 12 + i) (by omega)
        have r2 := hr (48 + i) (by omega)
        have e1 : (f : Int) * 12 + (i : Int) = ((f * 12 + i : Nat) : Int) := by omega
        have e2 : (48 : Int) + (i : Int) = ((48 + i : Nat) : Int) := by omega
        have e3 : ((l : Int) * 4 + (f : Int)) * 12 + (i : Int) = (((l * 4 + f) * 12 + i : Nat) : Int) := by omega
        have e4 : (i : Int) + 1 = ((i + 1 : Nat) : Int) := by omega
        have pv : (cl1_ (if w32 (M 52 (f * 12 + i)) = -2147483648 then rd_ M 52 ((48 + i : Nat) : Int) 60 fun x3 => some x3 else some (M 52 (f * 12 + i))) fun l6 => cl1_ (if w32 l6 = -2147483648 then rw_ (i : Int) fun x5 => some x5 else some l6) fun l6 => wa_ M 47 (((l * 4 + f) * 12 + i : Nat) : Int) 288 l6 fun m6 => UL_add_52_L28 F fuel (f : Int) (l : Int) now ((i + 1 : Nat) : Int) m6) = UL_add_52_L28 F fuel (f : Int) (l : Int) now ((i + 1 : Nat) : Int) (st_ M 47 ((l * 4 + f) * 12 + i) (pk M f i)) := by
          rw [rd_s (by omega) (by decide), r32_w r1]
          unfold pk
          by_cases c1 : M 52 (f * 12 + i) = -2147483648
          · rw [if_pos c1, if_pos c1, cl1_s, r32_w r2]
            by_cases c2 : M 52 (48 + i) = -2147483648
            · rw [if_pos c2, if_pos c2, rw_i (by omega) (by omega), cl1_s, wa_s (by omega) (by decide), Int.toNat_natCast]
            · rw [if_neg c2, if_neg c2, cl1_s, wa_s (by omega) (by decide)]
          · rw [if_neg c1, if_neg c1, cl1_s, r32_w r1, if_neg c1, cl1_s, wa_s (by omega) (by decide)]
        rw [UL_add_52_L28, w32_id (x := (i : Int)) (by omega) (by omega), if_pos (by omega), e1, rd_s (by omega) (by decide), e2, e3, e4, pv]
        obtain ⟨M', a1, a2, a3, a4⟩ := ih fuel (i + 1) (st_ M 47 ((l * 4 + f) * 12 + i) (pk M f i)) (by rw [st_ne (by decide)]; exact hr) (by omega) (by omega)
        refine ⟨M', a1, fun q hq => by rw [a2 q hq, st_ne hq], fun w h3 h4 => ?_, fun j hj => ?_⟩
        · by_cases c : w = i
          · subst c
            rw [a4 _ (by omega), st_eq, ud_eq]
          · rw [a3 w (by omega) h4, pk_c (st_ne (by decide))]
        · rw [a4 j (by omega), st_eq, ud_ne (by omega)]
    obtain ⟨M1, b1, b2, b3, b4⟩ := inner 12 F 0 M hr (by omega) (by omega)
    rw [show ((0 : Nat) : Int) = 0 from rfl] at b1
    obtain ⟨M', a1, a2, a3, a4⟩ := ih fuel (f + 1) M1 (by rw [b2 52 (by decide)]; exact hr) (by omega) (by omega)
    have e4 : (f : Int) + 1 = ((f + 1 : Nat) : Int) := by omega
    rw [UL_add_52_L19, w32_id (x := (f : Int)) (by omega) (by omega), if_pos (by omega), b1, cl1_s, e4]
    refine ⟨M', a1, fun q hq => by rw [a2 q hq, b2 q hq], fun g w h3 h4 h5 => ?_, fun j hj => ?_⟩
    · by_cases c : g = f
      · subst c
        rw [a4 _ (by omega)]; exact b3 w (by omega) h5
      · rw [a3 g w (by omega) h4 h5, pk_c (b2 52 (by decide))]
    · rw [a4 j (by omega), b4 j (by omega)]
theorem takeM {F l : Nat} (hF : 100 < F) (hl : l < 6) : ∀ (m fuel f : Nat) (M : bz_Mm), M 81 43 = l → f + m = 5 → m < fuel → ∃ M' : bz_Mm, M_take_L42 F fuel (f : Int) M = some M' ∧ (∀ q, (q < 119 + 5 * l + f ∨ 119 + 5 * l + 4 < q) → M' q = M q) ∧ ∀ g w, f ≤ g → g < 5 → w < 12 → M' (119 + 5 * l + g) w = M (149 + g) w := by
  intro m
  induction m with
  | zero =>
    intro fuel f M h43 h1 h2
    obtain ⟨fuel, rfl⟩ : ∃ j, fuel = j + 1 := ⟨fuel - 1, by omega⟩
    rw [M_take_L42, w32_id (x := (f : Int)) (by omega) (by omega), if_pos (by omega)]
    exact ⟨M, rfl, fun _ _ => rfl, fun g w h3 h4 => by omega⟩
  | succ m ih =>
    intro fuel f M h43 h1 h2
    obtain ⟨fuel, rfl⟩ : ∃ j, fuel = j + 1 := ⟨fuel - 1, by omega⟩
    have inner : ∀ (m fuel i : Nat) (M : bz_Mm), M 81 43 = l → i + m = 12 → m < fuel → ∃ M' : bz_Mm, M_take_L49 F fuel (f : Int) (i : Int) M = some M' ∧ (∀ q, q ≠ 119 + 5 * l + f → M' q = M q) ∧ (∀ w, i ≤ w → w < 12 → M' (119 + 5 * l + f) w = M (149 + f) w) ∧ ∀ w, w < i → M' (119 + 5 * l + f) w = M (119 + 5 * l + f) w := by
      intro m
      induction m with
      | zero =>
        intro fuel i M h43 h1 h2
        obtain ⟨fuel, rfl⟩ : ∃ j, fuel = j + 1 := ⟨fuel - 1, by omega⟩
        rw [M_take_L49, w32_id (x := (i : Int)) (by omega) (by omega), if_neg (by omega)]
        exact ⟨M, rfl, fun _ _ => rfl, fun w h3 h4 => by omega, fun _ _ => rfl⟩
      | succ m ih =>
        intro fuel i M h43 h1 h2
        obtain ⟨fuel, rfl⟩ : ∃ j, fuel = j + 1 := ⟨fuel - 1, by omega⟩
        have e4 : (i : Int) + 1 = ((i + 1 : Nat) : Int) := by omega
        have e6 : 119 + 5 * (6 : Int).toNat + (f : Int).toNat = 149 + f := by
          have : (6 : Int).toNat = 6 := rfl
          rw [this]; omega
        have e7 : 119 + 5 * (l : Int).toNat + (f : Int).toNat = 119 + 5 * l + f := by omega
        rw [M_take_L49, w32_id (x := (i : Int)) (by omega) (by omega), if_pos (by omega), h43, ra_i (by omega) (by omega) (by decide), ra_i (by omega) (by omega) (by decide), ra_i (by decide) (by decide) (by decide), ra_i (by omega) (by omega) (by decide), e6, e7, rd_s (by omega) (by decide), wa_s (by omega) (by decide), e4]
        obtain ⟨M', a1, a2, a3, a4⟩ := ih fuel (i + 1) (st_ M (119 + 5 * l + f) i (M (149 + f) i)) (by rw [st_ne (by omega)]; exact h43) (by omega) (by omega)
        refine ⟨M', a1, fun q hq => by rw [a2 q hq, st_ne hq], fun w h3 h4 => ?_, fun w hw => ?_⟩
        · by_cases c : w = i
          · subst c
            rw [a4 _ (by omega), st_eq, ud_eq]
          · rw [a3 w (by omega) h4, st_ne (by omega)]
        · rw [a4 w (by omega), st_eq, ud_ne (by omega)]
    obtain ⟨M1, b1, b2, b3, b4⟩ := inner 12 F 0 M h43 (by omega) (by omega)
    rw [show ((0 : Nat) : Int) = 0 from rfl] at b1
    obtain ⟨M', a1, a2, a3⟩ := ih fuel (f + 1) M1 (by rw [b2 81 (by omega)]; exact h43) (by omega) (by omega)
    have e4 : (f : Int) + 1 = ((f + 1 : Nat) : Int) := by omega
    rw [M_take_L42, w32_id (x := (f : Int)) (by omega) (by omega), if_neg (by omega), b1, cl1_s, e4]
    refine ⟨M', a1, fun q hq => by rw [a2 q (by omega), b2 q (by omega)], fun g w h3 h4 h5 => ?_⟩
    by_cases c : g = f
    · subst c
      rw [a2 _ (by omega)]; exact b3 w (by omega) h5
    · rw [a3 g w (by omega) h4 h5, b2 _ (by omega)]
