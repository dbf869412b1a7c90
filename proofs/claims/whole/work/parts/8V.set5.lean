/-! heap by heap, both sides -/
def PLs (b : Nat → Int) (n : Nat) : List Nat → List (Nat × Nat × Int)
  | [] => []
  | h :: t => pyI b h n 0 none 0 ++ PLs b n t
theorem PLs_a (b : Nat → Int) (n g : Nat) : ∀ hs : List Nat, PLs b n (hs ++ [g]) = PLs b n hs ++ pyI b g n 0 none 0 := by
  intro hs
  induction hs with
  | nil => show pyI b g n 0 none 0 ++ [] = [] ++ _; rw [List.append_nil]; rfl
  | cons h t ih => show pyI b h n 0 none 0 ++ PLs b n (t ++ [g]) = (pyI b h n 0 none 0 ++ PLs b n t) ++ _; rw [ih, List.append_assoc]
theorem cnB_nd {s g : Nat} (h : subX g s) : ∀ m i : Nat, cnB (ndX s g) m i + cnB g m i = cnB s m i := by
  intro m
  induction m with
  | zero => intro i; rfl
  | succ m ih =>
    intro i
    rw [cnB_S, cnB_S, cnB_S, ← ih (i + 1), nd_t]
    cases e : g.testBit i
    · cases f : s.testBit i <;> simp <;> omega
    · rw [h i e]; simp; omega
theorem cnB_p {s k : Nat} (h : s.testBit k = true) : ∀ m i : Nat, i ≤ k → k < i + m → 1 ≤ cnB s m i := by
  intro m
  induction m with
  | zero => intro i a b; omega
  | succ m ih =>
    intro i a b
    rw [cnB_S]
    by_cases e : i = k
    · rw [e, if_pos h]; omega
    · have := ih (i + 1) (by omega) (by omega); omega
theorem cnB_0 : ∀ m i : Nat, cnB 0 m i = 0 := by
  intro m
  induction m with
  | zero => intro i; rfl
  | succ m ih => intro i; rw [cnB_S, ih, Nat.zero_testBit, if_neg (by decide)]
theorem cnB_full : ∀ m i n : Nat, i + m = n → cnB (2 ^ n - 1) m i = m := by
  intro m
  induction m with
  | zero => intro i n _; rfl
  | succ m ih =>
    intro i n h
    rw [cnB_S, ih (i + 1) n (by omega), Nat.testBit_two_pow_sub_one, decide_eq_true (show i < n by omega), if_pos rfl]; omega
theorem arr_both {F n : Nat} {b : Nat → Int} {X0 Y0 : bz_Mm} (hF : 1100 < F) (hn : n ≤ 10) (h8 : X0 69 8 = n) (hb : ∀ i, i < n → X0 74 i = b i ∧ -100000000000000000 ≤ b i ∧ b i ≤ 100000000000000000) (h75 : ∀ t, t < 2 ^ n → X0 75 t = sB b n t) (h76 : MOp b n (2 ^ n) (X0 76)) (h233 : ∀ t, t < 2 ^ n → Y0 233 t = sB b n t) (h232 : BEp b n (2 ^ n) (Y0 232)) : ∀ (s : Nat) (hs : List Nat) (fu fm : Nat) (X Y : bz_Mm), s < 2 ^ n → zS b n s → cnB s n 0 < fu → cnB s n 0 < fm → (∀ q, q ≠ 69 → q ≠ 70 → q ≠ 71 → q ≠ 72 → X q = X0 q) → X 69 8 = n → ENC X (PLs b n hs) → (∀ q, q ≠ 81 → q ≠ 234 → Y q = Y0 q) → (∀ j, j ≠ 78 → Y 81 j = Y0 81 j) → Y 81 78 = hs.length → (∀ j h : Nat, hs[j]? = some h → Y 234 j = (h : Int) ∧ h < 2 ^ n) → (PLs b n hs).length + hs.length + cnB s n 0 = n → ∃ (hs' : List Nat) (X' Y' : bz_Mm), UG_arrange_68_L30 F fu (hs.length : Int) (s : Int) X = some X' ∧ M_picks_L14 F fm (s : Int) Y = some Y' ∧ (∀ q, q ≠ 69 → q ≠ 70 → q ≠ 71 → q ≠ 72 → X' q = X0 q) ∧ ENC X' (PLs b n hs') ∧ (∀ q, q ≠ 81 → q ≠ 234 → Y' q = Y0 q) ∧ (∀ j, j ≠ 78 → Y' 81 j = Y0 81 j) ∧ Y' 81 78 = hs'.length ∧ (∀ j h : Nat, hs'[j]? = some h → Y' 234 j = (h : Int) ∧ h < 2 ^ n) ∧ (PLs b n hs').length + hs'.length = n := by
  have pn := p10 hn
  intro s
  induction s using Nat.strongRecOn with
  | ind s ih =>
    intro hs fu fm X Y e1 e2 e3 e4 e5 e6 e7 e8 e9 e10 e11 e12
    obtain ⟨fu, rfl⟩ : ∃ j, fu = j + 1 := ⟨fu - 1, by omega⟩
    obtain ⟨fm, rfl⟩ : ∃ j, fm = j + 1 := ⟨fm - 1, by omega⟩
    rw [UG_arrange_68_L30, M_picks_L14, w32_n (show s ≤ 2147483647 by omega)]
    by_cases s0 : s = 0
    · refine ⟨hs, X, Y, ?_, ?_, e5, e7, e8, e9, e10, e11, ?_⟩
      · rw [if_pos (c := (s : Int) = 0) (by omega)]
        split <;> rfl
      · rw [if_pos (by omega)]
      · rw [s0, cnB_0] at e12; exact e12
    · obtain ⟨g, k, p1, p2, p3, p4, p5, p6⟩ := heap_both (F := F) (n := n) (s := s) (X := X) (Y := Y) (b := b) hF hn (by rw [e5 75 (by decide) (by decide) (by decide) (by decide)]; exact h75) (by rw [e5 76 (by decide) (by decide) (by decide) (by decide)]; exact h76) (by rw [e8 233 (by decide) (by decide)]; exact h233) (by rw [e8 232 (by decide) (by decide)]; exact h232) e1 s0 e2
      have gl := sub_le p4
      have gb : g < 2 ^ n := by omega
      have kn := bit_n gb p5
      have lt := nd_lt p4 p5
      have c1 := cnB_nd p4 n 0
      have c2 := cnB_p p5 n 0 (by omega) (by omega)
      have pl := (py_len b (h := g) n 0 0).2
      rw [if_neg (by omega)] at pl
      have hl : hs.length < 10 := by omega
      obtain ⟨X1, q1, q2, q3, q4⟩ := u_pay (F := F) (n := n) (h := g) (b := b) (X0 := X0) hF hn gb h8 hb n F 0 none 0 (PLs b n hs) X (by omega) (by omega) (fun a ha => by simp at ha) (by omega) e5 e6 (by omega) e7
      rw [show lsI none = -1 from rfl, show ((0 : Nat) : Int) = 0 from rfl, show -(0 : Int) = 0 from rfl] at q1
      rw [← PLs_a] at q4
      have nd : ia_ (s : Int) (ix_ (g : Int) (-1)) = ((ndX s g : Nat) : Int) := ian_n (by omega) (by omega)
      have len1 : (hs.length : Int) + 1 = (((hs ++ [g]).length : Nat) : Int) := by rw [List.length_append]; rfl
      obtain ⟨hs', X', Y', r1, r2, r3⟩ := ih (ndX s g) lt (hs ++ [g]) fu fm X1 (st_ (st_ Y 234 hs.length (g : Int)) 81 78 ((hs.length : Int) + 1)) (by omega) (zS_nd p4 e2 p6) (by omega) (by omega) q2 q3 q4 (fun q w1 w2 => by rw [st_ne w1, st_ne w2]; exact e8 q w1 w2) (fun j hj => by rw [st_eq, ud_ne hj, st_ne (by decide)]; exact e9 j hj) (by rw [st_eq, ud_eq]; exact len1) (fun j h hj => by
        rw [st_ne (show (234 : Nat) ≠ 81 by decide), st_eq]
        by_cases q : j < hs.length
        · rw [List.getElem?_append_left q] at hj
          rw [ud_ne (by omega)]; exact e11 j h hj
        · rw [List.getElem?_append_right (by omega)] at hj
          by_cases q2 : j = hs.length
          · rw [q2, Nat.sub_self] at hj
            have : g = h := Option.some.inj hj
            rw [q2, ud_eq, ← this]; exact ⟨rfl, gb⟩
          · rw [List.getElem?_eq_none (by show 1 ≤ j - hs.length; omega)] at hj
            exact absurd hj (by simp)) (by rw [PLs_a, List.length_append, List.length_append]; show (PLs b n hs).length + (pyI b g n 0 none 0).length + (hs.length + 1) + _ = n; omega)
      refine ⟨hs', X', Y', ?_, ?_, r3⟩
      · rw [w32_n (show hs.length ≤ 2147483647 by omega), if_pos (c := (hs.length : Int) < 10) (by omega), if_neg (by omega), p1, cl_s]
        unfold fUG_payWithin
        rw [q1, cl1_s, cl_s, lt_x, nd, len1]; exact r1
      · rw [if_neg (by omega), lt_x, p2, p3, cl1_s, e10, wa_s (by omega) (by decide), st_ne (show (81 : Nat) ≠ 234 by decide), e10, wf_s, lt_x, nd]; exact r2
/-! the reference looks a payment up -/
def lsS (Y : bz_Mm) (last : Option Nat) : Int := match last with
  | none => -1
  | some a => Y 231 a
theorem r_pay52 {F n h l k : Nat} {b : Nat → Int} {Y : bz_Mm} {what : Int} (hn : n ≤ 10) (hl : l < 10) (hh : h < 2 ^ n) (h74 : Y 81 74 = n) (h234 : Y 234 l = h) (hk : k ≤ 2147483647) (hb : ∀ i, i < n → (0 ≤ Y 231 i ∧ Y 231 i < 22) ∧ Y 230 (Y 231 i).toNat = b i) : ∀ (m fuel i : Nat) (last : Option Nat) (sum : Int) (cnt : Nat), i + m = n → m < fuel → (∀ a, last = some a → a < n) → cnt ≤ k → M_payment_L52 F fuel Y (l : Int) (k : Int) what (i : Int) (lsS Y last) sum (cnt : Int) = some (match (pyI b h m i last sum)[k - cnt]? with
    | some e => .inl (fM_paid (Y 231 e.1) (Y 231 e.2.1) e.2.2 what, Y)
    | none => .inr ((cnt + (pyI b h m i last sum).length : Nat) : Int)) := by
  have pn := p10 hn
  intro m
  induction m with
  | zero =>
    intro fuel i last sum cnt e1 e2 e3 e4
    obtain ⟨fuel, rfl⟩ : ∃ j, fuel = j + 1 := ⟨fuel - 1, by omega⟩
    rw [M_payment_L52, h74, w32_n (show i ≤ 2147483647 by omega), w32_n (show n ≤ 2147483647 by omega), if_neg (by omega)]
    rfl
  | succ m ih =>
    intro fuel i last sum cnt e1 e2 e3 e4
    obtain ⟨fuel, rfl⟩ : ∃ j, fuel = j + 1 := ⟨fuel - 1, by omega⟩
    have e : (i : Int) + 1 = ((i + 1 : Nat) : Int) := by omega
    obtain ⟨b1, b2⟩ := hb i (by omega)
    rw [M_payment_L52, h74, w32_n (show i ≤ 2147483647 by omega), w32_n (show n ≤ 2147483647 by omega), if_pos (by omega), rd_s hl (by decide), h234, sr_b (by omega) (by omega), e]
    by_cases c : h.testBit i = true
    · rw [if_pos c, w32_1p, if_neg (by decide)]
      match last, e3 with
      | none, e3 =>
        rw [show lsS Y none = -1 from rfl, show w32 (-1) = -1 from by decide, if_pos rfl, rd_s (by omega) (by decide), rd_i b1.1 (by omega) (by decide), b2, lt_x, rd_s (by omega) (by decide), py_n b sum c]
        exact ih fuel (i + 1) (some i) _ cnt (by omega) (by omega) (fun a ha => by have := Option.some.inj ha; omega) e4
      | some a, e3 =>
        have an := e3 a rfl
        have ra := (hb a an).1
        rw [show lsS Y (some a) = Y 231 a from rfl, w32_id (x := Y 231 a) (by omega) (by omega), if_neg (by omega), w32_n (show cnt ≤ 2147483647 by omega), w32_n hk, py_s b sum c]
        by_cases q : cnt = k
        · rw [if_pos (by omega), rd_s (by omega) (by decide), q, Nat.sub_self]
          rfl
        · rw [if_neg (by omega), rd_s (by omega) (by decide), rd_i b1.1 (by omega) (by decide), b2, lt_x, rd_s (by omega) (by decide), show (cnt : Int) + 1 = ((cnt + 1 : Nat) : Int) by omega]
          have r := ih fuel (i + 1) (some i) (sum + b i) (cnt + 1) (by omega) (by omega) (fun a ha => by have := Option.some.inj ha; omega) (by omega)
          rw [show lsS Y (some i) = Y 231 i from rfl] at r
          rw [r]
          have ek : k - cnt = (k - (cnt + 1)) + 1 := by omega
          rw [ek, List.getElem?_cons_succ, List.length_cons, show cnt + 1 + (pyI b h m (i + 1) (some i) (sum + b i)).length = cnt + ((pyI b h m (i + 1) (some i) (sum + b i)).length + 1) by omega]
    · rw [if_neg c, w32_0, if_pos rfl, py_f b last sum c]
      exact ih fuel (i + 1) last sum cnt (by omega) (by omega) e3 e4
theorem r_pay34 {F n k : Nat} {b : Nat → Int} {Y : bz_Mm} {what : Int} (hF : 1100 < F) (hn : n ≤ 10) (h74 : Y 81 74 = n) (hk : k ≤ 2147483647) (hb : ∀ i, i < n → (0 ≤ Y 231 i ∧ Y 231 i < 22) ∧ Y 230 (Y 231 i).toNat = b i) {hs : List Nat} (h78 : Y 81 78 = hs.length) (hl : hs.length ≤ 10) (h234 : ∀ j h : Nat, hs[j]? = some h → Y 234 j = (h : Int) ∧ h < 2 ^ n) : ∀ (t : List Nat) (j fuel cnt : Nat), j ≤ hs.length → hs.drop j = t → t.length < fuel → cnt ≤ k → M_payment_L34 F fuel Y (k : Int) what (j : Int) (cnt : Int) = some (match (PLs b n t)[k - cnt]? with
    | some e => .inl (fM_paid (Y 231 e.1) (Y 231 e.2.1) e.2.2 what, Y)
    | none => .inr 0) := by
  intro t
  induction t with
  | nil =>
    intro j fuel cnt e0 e1 e2 e3
    obtain ⟨fuel, rfl⟩ : ∃ q, fuel = q + 1 := ⟨fuel - 1, by omega⟩
    have jl : hs.length ≤ j := List.drop_eq_nil_iff.mp e1
    rw [M_payment_L34, h78, w32_n (show j ≤ 2147483647 by omega), w32_n (show hs.length ≤ 2147483647 by omega), if_neg (by omega)]
    rfl
  | cons h t ih =>
    intro j fuel cnt e0 e1 e2 e3
    obtain ⟨fuel, rfl⟩ : ∃ q, fuel = q + 1 := ⟨fuel - 1, by omega⟩
    have jl : j < hs.length := by
      by_cases c : j < hs.length
      · exact c
      · rw [List.drop_eq_nil_iff.mpr (by omega)] at e1; exact absurd e1 (by simp)
    have hj : hs[j]? = some h := by
      have : (hs.drop j)[0]? = some h := by rw [e1]; rfl
      rw [List.getElem?_drop, Nat.add_zero] at this
      exact this
    have dt : hs.drop (j + 1) = t := by
      rw [← List.drop_drop, e1]; rfl
    obtain ⟨v1, v2⟩ := h234 j h hj
    have p := r_pay52 (F := F) (n := n) (h := h) (l := j) (k := k) (b := b) (Y := Y) (what := what) hn (by omega) v2 h74 v1 hk hb n F 0 none 0 cnt (by omega) (by omega) (fun a ha => by simp at ha) e3
    rw [show lsS Y none = -1 from rfl, show ((0 : Nat) : Int) = 0 from rfl] at p
    rw [M_payment_L34, h78, w32_n (show j ≤ 2147483647 by omega), w32_n (show hs.length ≤ 2147483647 by omega), if_pos (by omega), p]
    rw [show PLs b n (h :: t) = pyI b h n 0 none 0 ++ PLs b n t from rfl]
    by_cases c : k - cnt < (pyI b h n 0 none 0).length
    · rw [List.getElem?_append_left c]
      have : ∃ e, (pyI b h n 0 none 0)[k - cnt]? = some e := ⟨_, List.getElem?_eq_getElem c⟩
      obtain ⟨e, he⟩ := this
      rw [he]
      rfl
    · have no : (pyI b h n 0 none 0)[k - cnt]? = none := List.getElem?_eq_none (by omega)
      rw [List.getElem?_append_right (by omega), no]
      show M_payment_L34 F fuel Y (k : Int) what ((j : Int) + 1) ((cnt + (pyI b h n 0 none 0).length : Nat) : Int) = _
      rw [show (j : Int) + 1 = ((j + 1 : Nat) : Int) by omega, ih (j + 1) fuel _ (by omega) dt (by rw [List.length_cons] at e2; omega) (by omega), show k - (cnt + (pyI b h n 0 none 0).length) = k - cnt - (pyI b h n 0 none 0).length by omega]
