/-! fills; the whole text -/
def fl (M : bz_Mm) (r i n : Nat) (v : Int) : bz_Mm := fun b => if b = r then (fun j => if i ≤ j ∧ j < n then v else M r j) else M b
theorem flz_o {M : bz_Mm} {r i n : Nat} {v : Int} {b : Nat} (h : b ≠ r) : fl M r i n v b = M b := if_neg h
theorem flz_e {M : bz_Mm} {r i n : Nat} {v : Int} (j : Nat) : fl M r i n v r j = if i ≤ j ∧ j < n then v else M r j := by
  unfold fl; rw [if_pos rfl]
theorem flz_0 (M : bz_Mm) (r n : Nat) (v : Int) : fl M r n n v = M := by
  funext b j
  unfold fl
  by_cases h : b = r
  · rw [if_pos h, if_neg (by omega), h]
  · rw [if_neg h]
theorem flz_1 {M : bz_Mm} {r i n : Nat} {v : Int} (h : i < n) : fl (st_ M r i v) r (i + 1) n v = fl M r i n v := by
  funext b j
  unfold fl
  by_cases hb : b = r
  · rw [if_pos hb, if_pos hb, st_eq]
    by_cases c : i + 1 ≤ j ∧ j < n
    · rw [if_pos c, if_pos (by omega)]
    · rw [if_neg c]
      by_cases e : j = i
      · rw [e, ud_eq, if_pos (by omega)]
      · rw [ud_ne e, if_neg (by omega)]
  · rw [if_neg hb, if_neg hb, st_ne hb]
theorem uJA_fill1 {F r n : Nat} {M : bz_Mm} {v : Int} (hF : n < F) (hn : n ≤ 2147483647) : fJA_fill1 F M r n v = some (fl M r 0 n v) := by
  have key : ∀ (m fuel i : Nat) (M : bz_Mm), i + m = n → m < fuel → JA_fill1_L5 F fuel r n n v (i : Int) M = some (fl M r i n v) := by
    intro m
    induction m with
    | zero =>
      intro fuel i M h1 h2
      obtain ⟨fuel, rfl⟩ : ∃ j, fuel = j + 1 := ⟨fuel - 1, by omega⟩
      have e : i = n := by omega
      subst e
      rw [JA_fill1_L5, if_neg (by omega), flz_0]
    | succ m ih =>
      intro fuel i M h1 h2
      obtain ⟨fuel, rfl⟩ : ∃ j, fuel = j + 1 := ⟨fuel - 1, by omega⟩
      have e : (i : Int) + 1 = ((i + 1 : Nat) : Int) := by omega
      rw [JA_fill1_L5, w32_id (x := (i : Int)) (by omega) (by omega), w32_id (x := (n : Int)) (by omega) (by omega), if_pos (by omega), wa_s (by omega) hn, e, ih fuel (i + 1) _ (by omega) (by omega), flz_1 (by omega)]
  unfold fJA_fill1
  have k : JA_fill1_L5 F F r n n v 0 M = _ := key n F 0 M (by omega) hF
  rw [k, cl1_s]
theorem fillM {F : Nat} (hF : 601 < F) : ∀ (m fuel f : Nat) (M : bz_Mm), f + m = 5 → m < fuel → ∃ M' : bz_Mm, M_reads_L7 F fuel (f : Int) M = some M' ∧ (∀ q, (q < 149 + f ∨ 153 < q) → M' q = M q) ∧ ∀ g w, f ≤ g → g < 5 → w < 12 → M' (149 + g) w = -2147483648 := by
  intro m
  induction m with
  | zero =>
    intro fuel f M h1 h2
    obtain ⟨fuel, rfl⟩ : ∃ j, fuel = j + 1 := ⟨fuel - 1, by omega⟩
    rw [M_reads_L7, w32_id (x := (f : Int)) (by omega) (by omega), if_pos (by omega)]
    exact ⟨M, rfl, fun _ _ => rfl, fun g w h3 h4 => by omega⟩
  | succ m ih =>
    intro fuel f M h1 h2
    obtain ⟨fuel, rfl⟩ : ∃ j, fuel = j + 1 := ⟨fuel - 1, by omega⟩
    have inner : ∀ (m fuel i : Nat) (M : bz_Mm), i + m = 12 → m < fuel → M_reads_L14 F fuel (f : Int) (i : Int) M = some (fl M (149 + f) i 12 (-2147483648)) := by
      intro m
      induction m with
      | zero =>
        intro fuel i M h1 h2
        obtain ⟨fuel, rfl⟩ : ∃ j, fuel = j + 1 := ⟨fuel - 1, by omega⟩
        have e : i = 12 := by omega
        subst e
        rw [M_reads_L14, if_neg (by decide), flz_0]
      | succ m ih =>
        intro fuel i M h1 h2
        obtain ⟨fuel, rfl⟩ : ∃ j, fuel = j + 1 := ⟨fuel - 1, by omega⟩
        have e : (i : Int) + 1 = ((i + 1 : Nat) : Int) := by omega
        have e6 : 119 + 5 * (6 : Int).toNat + (f : Int).toNat = 149 + f := by
          have : (6 : Int).toNat = 6 := rfl
          rw [this]; omega
        rw [M_reads_L14, w32_id (x := (i : Int)) (by omega) (by omega), if_pos (by omega), ra_i (by decide) (by decide) (by decide), ra_i (by omega) (by omega) (by decide), e6, wa_s (by omega) (by decide), e, ih fuel (i + 1) _ (by omega) (by omega), flz_1 (by omega)]
    have k : M_reads_L14 F F (f : Int) 0 M = _ := inner 12 F 0 M (by omega) (by omega)
    have e : (f : Int) + 1 = ((f + 1 : Nat) : Int) := by omega
    obtain ⟨M', a1, a2, a3⟩ := ih fuel (f + 1) (fl M (149 + f) 0 12 (-2147483648)) (by omega) (by omega)
    rw [M_reads_L7, w32_id (x := (f : Int)) (by omega) (by omega), if_neg (by omega), k, cl1_s, e, a1]
    refine ⟨M', rfl, fun q hq => ?_, fun g w h3 h4 h5 => ?_⟩
    · rw [a2 q (by omega), flz_o (by omega)]
    · by_cases c : g = f
      · subst c
        rw [a2 (149 + g) (by omega), flz_e, if_pos (by omega)]
      · exact a3 g w (by omega) h4 h5
def pNN (x : Int) : Bool := decide (x ≠ 10)
theorem pNN_t {x : Int} : pNN x = true ↔ x ≠ 10 := by unfold pNN; exact decide_eq_true_iff
theorem lineEnd_M {F n : Nat} {T S : Nat → Int} (ht : tx T S n) : ∀ (m fuel i : Nat) (M : bz_Mm), M 110 = S → M 81 37 = n → M 81 39 = i → i + m = n → m < fuel → M_reads_L78 F fuel M = some (st_ M 81 39 ((rn pNN T i m : Nat) : Int)) := by
  have h6 := ht.1
  intro m
  induction m with
  | zero =>
    intro fuel i M hS h37 h39 h1 h2
    obtain ⟨fuel, rfl⟩ : ∃ j, fuel = j + 1 := ⟨fuel - 1, by omega⟩
    rw [M_reads_L78, h37, h39, w32_id (x := (i : Int)) (by omega) (by omega), w32_id (x := (n : Int)) (by omega) (by omega), if_neg (by omega)]
    have e : ((rn pNN T i 0 : Nat) : Int) = M 81 39 := by rw [h39]; rfl
    rw [e, st_self]
  | succ m ih =>
    intro fuel i M hS h37 h39 h1 h2
    obtain ⟨fuel, rfl⟩ : ∃ j, fuel = j + 1 := ⟨fuel - 1, by omega⟩
    obtain ⟨b1, b2⟩ := ht.2 i (by omega)
    obtain ⟨d1, d2, d3, d4, d5⟩ := sb_r b1
    have e : (i : Int) + 1 = ((i + 1 : Nat) : Int) := by omega
    rw [M_reads_L78, h37, h39, w32_id (x := (i : Int)) (by omega) (by omega), w32_id (x := (n : Int)) (by omega) (by omega), if_pos (by omega), rd_s (by omega) (by decide), hS, b2, w32_id (x := sb (T i)) (by omega) (by omega), wf_s, e, rn_S]
    by_cases c : T i = 10
    · rw [if_pos ((d3 10 (by decide)).mpr c), if_neg (fun q => pNN_t.mp q c), ← h39, st_self]
    · rw [if_neg (fun q => c ((d3 10 (by decide)).mp q)), if_pos (pNN_t.mpr c), ih fuel (i + 1) (st_ M 81 39 ((i + 1 : Nat) : Int)) (by rw [st_ne (by decide)]; exact hS) (by rw [st_eq, ud_ne (by decide)]; exact h37) (by rw [st_eq, ud_eq]) (by omega) (by omega), st_st]
/-- between lines; p is where the next one begins -/
def LH (T S : Nat → Int) (n p : Nat) (BU BM Mu Mm : bz_Mm) : Prop := (Mu 51 = T ∧ Mu 50 2 = n ∧ (-1 ≤ Mu 50 7 ∧ Mu 50 7 ≤ 601) ∧ ∀ a, a ≠ 50 → a ≠ 52 → Mu a = BU a) ∧ (Mm 110 = S ∧ Mm 81 37 = n ∧ (-1 ≤ Mm 81 40 ∧ Mm 81 40 ≤ 601) ∧ (∀ q, q ≠ 81 → (q < 149 ∨ 153 < q) → Mm q = BM q) ∧ (∀ j, j ≠ 38 → j ≠ 39 → j ≠ 40 → Mm 81 j = BM 81 j) ∧ ∀ f w, f < 5 → w < 12 → vok w (Mm (149 + f) w)) ∧ Mu 50 7 = Mm 81 40 ∧ (Mu 50 7 = -1 → Mu 50 5 = p ∧ Mm 81 38 = p ∧ rle Mu Mm)
/-- after all -/
def LF (T S : Nat → Int) (n : Nat) (BU BM Mu Mm : bz_Mm) : Prop := (Mu 51 = T ∧ Mu 50 2 = n ∧ ∀ a, a ≠ 50 → a ≠ 52 → Mu a = BU a) ∧ (Mm 110 = S ∧ Mm 81 37 = n ∧ (-1 ≤ Mm 81 40 ∧ Mm 81 40 ≤ 601) ∧ (∀ q, q ≠ 81 → (q < 149 ∨ 153 < q) → Mm q = BM q) ∧ (∀ j, j ≠ 38 → j ≠ 39 → j ≠ 40 → Mm 81 j = BM 81 j) ∧ ∀ f w, f < 5 → w < 12 → vok w (Mm (149 + f) w)) ∧ Mu 50 7 = Mm 81 40 ∧ (Mu 50 7 = -1 → rle Mu Mm)
theorem LH.fin {T S : Nat → Int} {n p : Nat} {BU BM Mu Mm : bz_Mm} (h : LH T S n p BU BM Mu Mm) : LF T S n BU BM Mu Mm := ⟨⟨h.1.1, h.1.2.1, h.1.2.2.2⟩, h.2.1, h.2.2.1, fun q => (h.2.2.2 q).2.2⟩
theorem sim_lines {F n : Nat} {T S : Nat → Int} {BU BM : bz_Mm} (hF : 700 < F) (ht : tx T S n) : ∀ (m fu fm p l : Nat) (Mu Mm : bz_Mm), n + 1 ≤ p + m → p ≤ n + 1 → l ≤ p → m < fu → m < fm → LH T S n p BU BM Mu Mm → ∃ Mu' Mm' : bz_Mm, UX_read_L21 F fu (l : Int) Mu = some Mu' ∧ M_reads_L51 F fm Mm = some Mm' ∧ LF T S n BU BM Mu' Mm' := by
  have h6 := ht.1
  intro m
  induction m with
  | zero =>
    intro fu fm p l Mu Mm h1 h2 h3 h4 h5 h
    obtain ⟨fu, rfl⟩ : ∃ j, fu = j + 1 := ⟨fu - 1, by omega⟩
    obtain ⟨fm, rfl⟩ : ∃ j, fm = j + 1 := ⟨fm - 1, by omega⟩
    refine ⟨Mu, Mm, ?_, ?_, h.fin⟩
    · rw [UX_read_L21]
      by_cases c : Mu 50 7 = -1
      · rw [(h.2.2.2 c).1, h.1.2.1, w32_id (x := (n : Int)) (by omega) (by omega), w32_id (x := (p : Int)) (by omega) (by omega), if_pos (c := (n : Int) < (p : Int)) (by omega)]
        split <;> rfl
      · rw [if_neg (c := w32 (Mu 50 7) = -1) (by rw [w32_f h.1.2.2.1]; exact c)]
        repeat' split
        all_goals rfl
    · rw [M_reads_L51]
      by_cases c : Mm 81 40 = -1
      · have c2 : Mu 50 7 = -1 := by rw [h.2.2.1]; exact c
        rw [(h.2.2.2 c2).2.1, h.2.1.2.1, w32_id (x := (n : Int)) (by omega) (by omega), w32_id (x := (p : Int)) (by omega) (by omega), if_neg (c := (p : Int) < (n : Int)) (by omega)]
      · rw [if_neg (c := w32 (Mm 81 40) = -1) (by rw [w32_f h.2.1.2.2.1]; exact c)]
        split <;> rfl
  | succ m ih =>
    intro fu fm p l Mu Mm h1 h2 h3 h4 h5 h
    obtain ⟨fu, rfl⟩ : ∃ j, fu = j + 1 := ⟨fu - 1, by omega⟩
    obtain ⟨fm, rfl⟩ : ∃ j, fm = j + 1 := ⟨fm - 1, by omega⟩
    by_cases c : Mu 50 7 = -1
    · have hh := h
      obtain ⟨⟨u1, u2, u3, u4⟩, ⟨m1, m2, m3, m4, m5, m6⟩, hf, hk⟩ := h
      obtain ⟨k1, k2, k3⟩ := hk c
      have c2 : Mm 81 40 = -1 := by rw [← hf]; exact c
      by_cases pn : p = n + 1
      · refine ⟨Mu, Mm, ?_, ?_, hh.fin⟩
        · rw [UX_read_L21, k1, u2, w32_id (x := (n : Int)) (by omega) (by omega), w32_id (x := (p : Int)) (by omega) (by omega), if_pos (c := (n : Int) < (p : Int)) (by omega)]
          split <;> rfl
        · rw [M_reads_L51, k2, m2, w32_id (x := (n : Int)) (by omega) (by omega), w32_id (x := (p : Int)) (by omega) (by omega), if_neg (c := (p : Int) < (n : Int)) (by omega)]
      · rw [UX_read_L21, M_reads_L51, k1, u2, k2, m2, c, c2, w32_id (x := (n : Int)) (by omega) (by omega), w32_id (x := (p : Int)) (by omega) (by omega), w32_id (x := (l : Int)) (by omega) (by omega), if_neg (c := (n : Int) < (l : Int)) (by omega), if_neg (c := (n : Int) < (p : Int)) (by omega), if_pos (show w32 (-1) = -1 by decide)]
        have el : (l : Int) + 1 = ((l + 1 : Nat) : Int) := by omega
        by_cases pl : p < n
        · rw [if_pos (c := (p : Int) < (n : Int)) (by omega), if_pos (show w32 (-1) = -1 by decide), wf_s]
          have le := lineEnd_M (F := F) ht (n - p) F p (st_ Mm 81 39 (p : Int)) (by rw [st_ne (by decide)]; exact m1) (by rw [st_eq, ud_ne (by decide)]; exact m2) (by rw [st_eq, ud_eq]) (by omega) (by omega)
          rw [le, cl1_s, st_st]
          have rr := rn_r (P := pNN) (T := T) (n - p) p
          have hl : ln T n p (rn pNN T p (n - p)) := by
            refine ⟨by omega, by omega, fun q => ?_, fun j a b => pNN_t.mp (rn_all (n - p) p j a b)⟩
            have := rn_st (P := pNN) (T := T) (n - p) p (by omega)
            have g : ¬ pNN (T (rn pNN T p (n - p))) = true := by rw [this]; decide
            exact Classical.not_not.mp (fun t => g (pNN_t.mpr t))
          generalize rn pNN T p (n - p) = L at hl rr ⊢
          have gg : GG T S n p L BU BM Mu (st_ Mm 81 39 (L : Int)) := by
            refine ⟨⟨u1, u2, ⟨p, by omega, k1⟩, u3, u4⟩, ⟨by rw [st_ne (by decide)]; exact m1, by rw [st_eq, ud_ne (by decide)]; exact m2, by rw [st_eq, ud_eq], ⟨p, by omega, by rw [st_eq, ud_ne (by decide)]; exact k2⟩, by rw [st_eq, ud_ne (by decide)]; exact m3, fun q x y => by rw [st_ne x]; exact m4 q x y, fun j x y z => by rw [st_eq, ud_ne y]; exact m5 j x y z, fun f w x y => by rw [st_ne (by omega)]; exact m6 f w x y⟩, by rw [st_eq, ud_ne (by decide)]; exact hf, fun _ => ⟨p, p, by omega, by omega, by omega, by omega, k1, by rw [st_eq, ud_ne (by decide)]; exact k2, rfl, fun f w x y => by rw [st_ne (by omega)]; exact k3 f w x y⟩⟩
          obtain ⟨Mu', Mm', b1, b2, b3⟩ := sim_line (F := F) (by omega) ht hl gg c
          obtain ⟨⟨v1, v2, v3, v4⟩, ⟨w1, w2, w3, w4, w5, w6, w7⟩, vf, vk⟩ := b3
          rw [b1, b2, cl_s, cl_s, wf_s, el, w3]
          refine ih fu fm (L + 1) (l + 1) Mu' _ (by omega) (by omega) (by omega) (by omega) (by omega) ⟨⟨v1, v2, v3, v4⟩, ⟨by rw [st_ne (by decide)]; exact w1, by rw [st_eq, ud_ne (by decide)]; exact w2, by rw [st_eq, ud_ne (by decide)]; exact w4, fun q x y => by rw [st_ne x]; exact w5 q x y, fun j x y z => by rw [st_eq, ud_ne x]; exact w6 j x y z, fun f w x y => by rw [st_ne (by omega)]; exact w7 f w x y⟩, by rw [st_eq, ud_ne (by decide)]; exact vf, fun q => ?_⟩
          obtain ⟨z1, z2⟩ := vk q
          refine ⟨by rw [z1]; omega, by rw [st_eq, ud_eq]; omega, fun f w x y => ?_⟩
          rw [st_ne (by omega)]; exact z2 f w x y
        · have pn2 : p = n := by omega
          subst pn2
          rw [if_neg (c := (p : Int) < (p : Int)) (by omega)]
          have hs : skp T p p = p := by unfold skp; rw [Nat.sub_self]; rfl
          have hk0 : kd T p p = 0 := by unfold kd; rw [if_neg (by omega)]
          obtain ⟨b', n1, n2, n3, n4, n5⟩ := GU.nx (F := F) (BU := BU) (Mu := Mu) (by omega) ht ⟨u1, u2, ⟨p, Nat.le_refl p, k1⟩, u3, u4⟩
          have eb : b' = p := by omega
          subst eb
          obtain ⟨x, x1, x2⟩ := uUX_isWord (F := F) (w := 0) (by omega) (by decide) ht n4.1 nm_4 n5 nm_3 nm_5
          rw [hs] at x2
          have nw : ¬ wd T b' b' 0 := fun q => by have := wd_kd (by decide) (by omega) q; omega
          have rl : fUX_readLine F Mu = some (st_ (nm Mu T b' b') 50 5 ((b' : Int) + 1)) := by
            unfold fUX_readLine
            rw [n3, cl_s, x1, cl_s, if_pos (x2.mpr nw), nm_3, hs, hk0, if_pos w32_0, wf_s, nm_4, hs]
          rw [rl, cl_s, el]
          have stop : UX_read_L21 F fu ((l + 1 : Nat) : Int) (st_ (nm Mu T b' b') 50 5 ((b' : Int) + 1)) = some (st_ (nm Mu T b' b') 50 5 ((b' : Int) + 1)) := by
            obtain ⟨fu, rfl⟩ : ∃ j, fu = j + 1 := ⟨fu - 1, by omega⟩
            rw [UX_read_L21]
            have e5 : st_ (nm Mu T b' b') 50 5 ((b' : Int) + 1) 50 5 = (b' : Int) + 1 := by rw [st_eq, ud_eq]
            have e2 : st_ (nm Mu T b' b') 50 5 ((b' : Int) + 1) 50 2 = (b' : Int) := by rw [st_eq, ud_ne (by decide), nm_2]; exact u2
            rw [e5, e2, w32_id (x := (b' : Int) + 1) (by omega) (by omega), w32_id (x := (b' : Int)) (by omega) (by omega), if_pos (c := (b' : Int) < (b' : Int) + 1) (by omega)]
            split <;> rfl
          rw [stop]
          refine ⟨_, _, rfl, rfl, ⟨by rw [st_ne (by decide), nm_o (by decide)]; exact u1, by rw [st_eq, ud_ne (by decide), nm_2]; exact u2, fun a x y => by rw [st_ne x, nm_o x]; exact u4 a x y⟩, ⟨m1, m2, m3, m4, m5, m6⟩, by rw [st_eq, ud_ne (by decide), nm_7]; exact hf, fun _ f w x y => ?_⟩
          rw [st_ne (by decide), nm_o (by decide)]; exact k3 f w x y
    · refine ⟨Mu, Mm, ?_, ?_, h.fin⟩
      · rw [UX_read_L21, if_neg (c := w32 (Mu 50 7) = -1) (by rw [w32_f h.1.2.2.1]; exact c)]
        repeat' split
        all_goals rfl
      · have c2 : ¬ Mm 81 40 = -1 := by rw [← h.2.2.1]; exact c
        rw [M_reads_L51, if_neg (c := w32 (Mm 81 40) = -1) (by rw [w32_f h.2.1.2.2.1]; exact c2)]
        split <;> rfl
