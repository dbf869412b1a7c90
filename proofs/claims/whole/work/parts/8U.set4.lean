/-! who is party to the settlement -/
def PRL (U0 y : bz_Mm) (c p : Nat) (XU XM : bz_Mm) : Prop := (XU 69 8 = c ∧ XM 81 74 = c ∧ c ≤ 10) ∧ ((∀ q, q ≠ 69 → q ≠ 73 → q ≠ 74 → XU q = U0 q) ∧ ∀ j, j ≠ 8 → XU 69 j = U0 69 j) ∧ ((∀ q, q ≠ 81 → q ≠ 231 → XM q = y q) ∧ ∀ j, j ≠ 74 → XM 81 j = y 81 j) ∧ (∀ i, i < c → ∃ q : Nat, q < 22 ∧ XM 231 i = q ∧ XU 73 i = (nmC q : Int) ∧ XU 74 i = y 230 q) ∧ w64 (sumr (y 230) 0 p 0 - sumr (XU 74) 0 c 0) = 0
theorem w64_add {x y : Int} (hx : w64 x = 0) (hy : w64 y = 0) : w64 (x + y) = 0 := by
  have h0 : w64 (0 - y) = 0 := w64_sub w64_z hy
  have := w64_sub hx h0
  rw [show x - (0 - y) = x + y by omega] at this
  exact this
theorem prl_seg {F : Nat} {U0 y : bz_Mm} (hy : ∀ q, q < 22 → U0 68 (nmC q) = y 230 q) : ∀ (m p j c fu fm : Nat) (XU XM : bz_Mm), (∀ i, i < m → nmC (p + i) = j + i) → p + m ≤ 22 → PRL U0 y c p XU XM → (∃ A B : bz_Mm, UG_findParties_68_L7 F (fu + m) (j : Int) XU = some (.inl (0, A)) ∧ M_settles_L22 F (fm + m) (p : Int) XM = some (.inl (0, B)) ∧ (∀ q, q ≠ 69 → q ≠ 73 → q ≠ 74 → A q = U0 q) ∧ (∀ q, q ≠ 81 → q ≠ 231 → B q = y q) ∧ ∀ j, j ≠ 74 → B 81 j = y 81 j) ∨ (∃ (c' : Nat) (XU' XM' : bz_Mm), UG_findParties_68_L7 F (fu + m) (j : Int) XU = UG_findParties_68_L7 F fu ((j + m : Nat) : Int) XU' ∧ M_settles_L22 F (fm + m) (p : Int) XM = M_settles_L22 F fm ((p + m : Nat) : Int) XM' ∧ PRL U0 y c' (p + m) XU' XM') := by
  intro m
  induction m with
  | zero => intro p j c fu fm XU XM _ _ h; exact Or.inr ⟨c, XU, XM, rfl, rfl, h⟩
  | succ m ih =>
    intro p j c fu fm XU XM hj hp h
    have h0 := h
    obtain ⟨⟨a1, a2, a3⟩, ⟨b1, b2⟩, ⟨c1, c2⟩, d1, d2⟩ := h
    have ej := hj 0 (by omega)
    rw [Nat.add_zero, Nat.add_zero] at ej
    have jl : j < 42 := by rw [← ej]; unfold nmC; repeat' split
                           all_goals omega
    have xu : XU 68 j = y 230 p := by rw [b1 68 (by decide) (by decide) (by decide), ← ej]; exact hy p (by omega)
    have eU : (j : Int) + 1 = ((j + 1 : Nat) : Int) := by omega
    have eM : (p : Int) + 1 = ((p + 1 : Nat) : Int) := by omega
    have nx := ih (p + 1) (j + 1)
    rw [show fu + (m + 1) = (fu + m) + 1 by omega, show fm + (m + 1) = (fm + m) + 1 by omega, UG_findParties_68_L7, M_settles_L22, w32_n (show j ≤ 2147483647 by omega), w32_n (show p ≤ 2147483647 by omega), if_pos (c := (j : Int) < 42) (by omega), if_pos (c := (p : Int) < 22) (by omega), rd_s jl (by decide), rd_s (by omega) (by decide), xu, c1 230 (by decide) (by decide), eU, eM, show j + (m + 1) = (j + 1) + m by omega, show p + (m + 1) = (p + 1) + m by omega]
    have hj' : ∀ i, i < m → nmC (p + 1 + i) = j + 1 + i := fun i hi => by
      have := hj (i + 1) (by omega)
      rw [show p + 1 + i = p + (i + 1) by omega, this]; omega
    have sp : sumr (y 230) 0 (p + 1) 0 = sumr (y 230) 0 p 0 + y 230 p := by rw [sumr_R, Nat.zero_add]
    by_cases z : w64 (y 230 p) = 0
    · rw [if_pos z, if_pos z]
      refine nx c fu fm XU XM hj' (by omega) ⟨⟨a1, a2, a3⟩, ⟨b1, b2⟩, ⟨c1, c2⟩, d1, ?_⟩
      rw [sp, show sumr (y 230) 0 p 0 + y 230 p - sumr (XU 74) 0 c 0 = (sumr (y 230) 0 p 0 - sumr (XU 74) 0 c 0) + y 230 p by omega]
      exact w64_add d2 z
    · rw [if_neg z, if_neg z, a1, a2, w32_n (show c ≤ 2147483647 by omega)]
      by_cases f : c = 10
      · rw [if_neg (c := (c : Int) < 10) (by omega), if_pos (c := (c : Int) = 10) (by omega)]
        exact Or.inl ⟨XU, XM, rfl, rfl, b1, c1, c2⟩
      · rw [if_pos (c := (c : Int) < 10) (by omega), if_neg (c := (c : Int) = 10) (by omega), wa_s (by omega) (by decide), rd_s jl (by decide), st_ne (show (68 : Nat) ≠ 73 by decide), xu, st_ne (show (69 : Nat) ≠ 73 by decide), a1, wa_s (by omega) (by decide), st_ne (show (69 : Nat) ≠ 74 by decide), st_ne (show (69 : Nat) ≠ 73 by decide), a1, wf_s, wa_s (by omega) (by decide), st_ne (show (81 : Nat) ≠ 231 by decide), a2, wf_s]
        have x74 : st_ (st_ (st_ XU 73 c (j : Int)) 74 c (y 230 p)) 69 8 ((c : Int) + 1) 74 = ud (XU 74) c (y 230 p) := by rw [st_ne (by decide), st_eq, st_ne (by decide)]
        have x73 : st_ (st_ (st_ XU 73 c (j : Int)) 74 c (y 230 p)) 69 8 ((c : Int) + 1) 73 = ud (XU 73) c (j : Int) := by rw [st_ne (by decide), st_ne (by decide), st_eq]
        have x69 : st_ (st_ (st_ XU 73 c (j : Int)) 74 c (y 230 p)) 69 8 ((c : Int) + 1) 69 = ud (XU 69) 8 ((c : Int) + 1) := by rw [st_eq, st_ne (by decide), st_ne (by decide)]
        have y231 : st_ (st_ XM 231 c (p : Int)) 81 74 ((c : Int) + 1) 231 = ud (XM 231) c (p : Int) := by rw [st_ne (by decide), st_eq]
        have y81 : st_ (st_ XM 231 c (p : Int)) 81 74 ((c : Int) + 1) 81 = ud (XM 81) 74 ((c : Int) + 1) := by rw [st_eq, st_ne (by decide)]
        refine nx (c + 1) fu fm _ _ hj' (by omega) ⟨⟨by rw [x69, ud_eq]; omega, by rw [y81, ud_eq]; omega, by omega⟩, ⟨fun q w1 w2 w3 => by rw [st_ne w1, st_ne w3, st_ne w2]; exact b1 q w1 w2 w3, fun q hq => by rw [x69, ud_ne hq]; exact b2 q hq⟩, ⟨fun q w1 w2 => by rw [st_ne w1, st_ne w2]; exact c1 q w1 w2, fun q hq => by rw [y81, ud_ne hq]; exact c2 q hq⟩, fun i hi => ?_, ?_⟩
        · rw [x73, x74, y231]
          by_cases e : i = c
          · subst e; rw [ud_eq, ud_eq, ud_eq]; exact ⟨p, by omega, rfl, by rw [ej], rfl⟩
          · rw [ud_ne e, ud_ne e, ud_ne e]; exact d1 i (by omega)
        · have s2 : sumr (st_ (st_ (st_ XU 73 c (j : Int)) 74 c (y 230 p)) 69 8 ((c : Int) + 1) 74) 0 (c + 1) 0 = sumr (XU 74) 0 c 0 + y 230 p := by
            rw [sumr_R, Nat.zero_add, x74, ud_eq]
            congr 1
            exact sumr_c c 0 0 (fun k hk _ => by rw [ud_ne (by omega)])
          rw [sp, s2, show sumr (y 230) 0 p 0 + y 230 p - (sumr (XU 74) 0 c 0 + y 230 p) = sumr (y 230) 0 p 0 - sumr (XU 74) 0 c 0 by omega]
          exact d2
theorem prl_skip {F : Nat} : ∀ (m j fu : Nat) (XU : bz_Mm), j + m ≤ 42 → (∀ i, j ≤ i → i < j + m → XU 68 i = 0) → UG_findParties_68_L7 F (fu + m) (j : Int) XU = UG_findParties_68_L7 F fu ((j + m : Nat) : Int) XU := by
  intro m
  induction m with
  | zero => intro j fu XU _ _; rfl
  | succ m ih =>
    intro j fu XU h1 h2
    rw [show fu + (m + 1) = (fu + m) + 1 by omega, UG_findParties_68_L7, w32_n (show j ≤ 2147483647 by omega), if_pos (by omega), rd_s (by omega) (by decide), h2 j (by omega) (by omega), w64_z, if_pos rfl, show (j : Int) + 1 = ((j + 1 : Nat) : Int) by omega, ih (j + 1) fu XU (by omega) (fun i a b => h2 i (by omega) (by omega)), show j + (m + 1) = j + 1 + m by omega]
theorem find_both {F : Nat} {m1 y : bz_Mm} (hF : 1100 < F) (hy : ∀ q, q < 22 → m1 68 (nmC q) = y 230 q) (hz : ∀ j, j < 42 → (∀ q, q < 22 → j ≠ nmC q) → m1 68 j = 0) : (∃ A B : bz_Mm, fUG_findParties_68 F m1 = some (0, A) ∧ M_settles_L22 F F 0 (st_ y 81 74 0) = some (.inl (0, B)) ∧ (∀ q, q ≠ 69 → q ≠ 73 → q ≠ 74 → A q = m1 q) ∧ (∀ q, q ≠ 81 → q ≠ 231 → B q = y q) ∧ ∀ j, j ≠ 74 → B 81 j = y 81 j) ∨ (∃ (c : Nat) (A B : bz_Mm), fUG_findParties_68 F m1 = some (1, A) ∧ M_settles_L22 F F 0 (st_ y 81 74 0) = some (.inr B) ∧ PRL m1 y c 22 A B) := by
  have h0 : PRL m1 y 0 0 (st_ m1 69 8 0) (st_ y 81 74 0) := ⟨⟨by rw [st_eq, ud_eq]; rfl, by rw [st_eq, ud_eq]; rfl, by omega⟩, ⟨fun q w1 w2 w3 => st_ne w1, fun j hj => by rw [st_eq, ud_ne hj]⟩, ⟨fun q w1 w2 => st_ne w1, fun j hj => by rw [st_eq, ud_ne hj]⟩, fun i hi => by omega, by show w64 (0 - 0) = 0; decide⟩
  have nm1 : ∀ i, i < 16 → nmC (0 + i) = 0 + i := fun i hi => by unfold nmC; rw [if_pos (by omega)]
  have nm2 : ∀ i, i < 4 → nmC (16 + i) = 20 + i := fun i hi => by unfold nmC; rw [if_neg (by omega), if_pos (by omega)]; omega
  have nm3 : ∀ i, i < 2 → nmC (20 + i) = 40 + i := fun i hi => by unfold nmC; rw [if_neg (by omega), if_neg (by omega)]; omega
  have gap : ∀ j, (16 ≤ j ∧ j < 20) ∨ (24 ≤ j ∧ j < 40) → m1 68 j = 0 := fun j hj => hz j (by omega) (fun q hq e => by
    unfold nmC at e
    split at e
    · omega
    · split at e <;> omega)
  unfold fUG_findParties_68
  rw [wf_s]
  obtain ⟨f, hf⟩ : ∃ f, F = (((f + 1) + 2 + 16) + 4 + 4) + 16 := ⟨F - 43, by omega⟩
  obtain ⟨g, hg⟩ : ∃ g, F = (((g + 1) + 2) + 4) + 16 := ⟨F - 23, by omega⟩
  have s1 := prl_seg (F := F) hy 16 0 0 0 (((f + 1) + 2 + 16) + 4 + 4) (((g + 1) + 2) + 4) _ _ nm1 (by omega) h0
  rw [← hf, ← hg, show ((0 : Nat) : Int) = 0 from rfl] at s1
  rcases s1 with ⟨A, B, t1, t2, t3⟩ | ⟨c1, U1, V1, t1, t2, t3⟩
  · left; exact ⟨A, B, by rw [t1, cs1_l], t2, t3⟩
  have g1 := prl_skip (F := F) 4 16 (((f + 1) + 2 + 16) + 4) U1 (by omega) (fun i a b => by rw [t3.2.1.1 68 (by decide) (by decide) (by decide)]; exact gap i (by omega))
  have s2 := prl_seg (F := F) hy 4 16 20 c1 ((f + 1) + 2 + 16) ((g + 1) + 2) U1 V1 nm2 (by omega) t3
  rcases s2 with ⟨A, B, v1, v2, v3⟩ | ⟨c2, U2, V2, v1, v2, v3⟩
  · left; exact ⟨A, B, by rw [t1, g1, v1, cs1_l], by rw [t2, v2], v3⟩
  have g2 := prl_skip (F := F) 16 24 ((f + 1) + 2) U2 (by omega) (fun i a b => by rw [v3.2.1.1 68 (by decide) (by decide) (by decide)]; exact gap i (by omega))
  have s3 := prl_seg (F := F) hy 2 20 40 c2 (f + 1) (g + 1) U2 V2 nm3 (by omega) v3
  rcases s3 with ⟨A, B, w1, w2, w3⟩ | ⟨c3, U3, V3, w1, w2, w3⟩
  · left; exact ⟨A, B, by rw [t1, g1, v1, g2, w1, cs1_l], by rw [t2, v2, w2], w3⟩
  right
  refine ⟨c3, U3, V3, ?_, ?_, w3⟩
  · rw [t1, g1, v1, g2, w1, UG_findParties_68_L7, show w32 ((40 + 2 : Nat) : Int) = 42 from by decide, if_neg (by decide), cs1_r]
  · rw [t2, v2, w2, M_settles_L22, show w32 ((20 + 2 : Nat) : Int) = 22 from by decide, if_neg (by decide)]
