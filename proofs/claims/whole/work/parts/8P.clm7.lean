/-! balance -/
theorem party_it {M : bz_Mm} {a : Int} {n nf nt nd nl nh now : Nat} (h1 : r32 a) (hI : IT M n nf nt nd nl now) (hH : IH M nf nd nh) : ∃ v : Int, (cl1_ (if w32 a = 40 then some (20 : Int) else (if w32 a = 41 then some 21 else some (fM_placeOf M a))) (fun v2 => some v2) = some v) ∧ ((w32 (fUS_isParty M a) = 0) ↔ v = -1) ∧ (v = -1 ∨ ∃ q : Nat, v = q ∧ q < 22 ∧ a = (nmC q : Int)) := by
  have nf4 := hI.2.1.2.2
  have nh16 := hH.1.2.2
  have pm := uM_placeOf (M := M) h1 (by rw [hI.2.1.2.1]; omega) (by rw [hH.1.2.1]; omega)
  rw [hI.2.1.2.1, hH.1.2.1] at pm
  have hh := uUS_isHolder (M := M) h1 (by rw [hH.1.1]; omega)
  rw [hH.1.1] at hh
  unfold fUS_isParty
  rw [r32_w h1]
  by_cases c1 : a = 40
  · rw [if_pos c1, if_pos c1, cl1_s]
    refine ⟨20, rfl, ?_, Or.inr ⟨20, rfl, by omega, by rw [c1]; rfl⟩⟩
    exact ⟨fun q => absurd q (by decide), fun q => absurd q (by decide)⟩
  rw [if_neg c1, if_neg c1]
  by_cases c2 : a = 41
  · rw [if_pos c2, if_pos c2, cl1_s]
    refine ⟨21, rfl, ?_, Or.inr ⟨21, rfl, by omega, by rw [c2]; rfl⟩⟩
    exact ⟨fun q => absurd q (by decide), fun q => absurd q (by decide)⟩
  rw [if_neg c2, if_neg c2, cl1_s, pm]
  unfold plc
  by_cases c3 : 0 ≤ a ∧ a < (nh : Int)
  · rw [if_pos c3, if_neg (fun q => hh.mp q c3)]
    refine ⟨a, rfl, ?_, Or.inr ⟨a.toNat, by omega, by omega, ?_⟩⟩
    · exact ⟨fun q => absurd q (by decide), fun q => by omega⟩
    · unfold nmC; rw [if_pos (by omega)]; omega
  rw [if_neg c3, if_pos (hh.mpr c3)]
  by_cases c4 : 20 ≤ a ∧ a - 20 < (nf : Int)
  · have fi := (fund_it (a1 := a - 20) ⟨by omega, by omega⟩ hI).1
    rw [if_pos c4, if_neg (by omega), if_neg (fun q => fi.mp q (by omega))]
    refine ⟨16 + a - 20, rfl, ?_, Or.inr ⟨(a - 4).toNat, by omega, by omega, ?_⟩⟩
    · exact ⟨fun q => absurd q (by decide), fun q => by omega⟩
    · unfold nmC; rw [if_neg (by omega), if_pos (by omega)]; omega
  · rw [if_neg c4]
    refine ⟨-1, rfl, ?_, Or.inl rfl⟩
    refine ⟨fun _ => rfl, fun _ => ?_⟩
    by_cases c5 : a < 20
    · rw [if_pos c5]; decide
    · have fi := (fund_it (a1 := a - 20) ⟨by omega, by have := h1.2; omega⟩ hI).1
      rw [if_neg c5, if_pos (fi.mpr (by omega))]; decide
theorem eq_balance {F : Nat} {M : bz_Mm} {a1 a2 : Int} {n nf nt nd nl nh now : Nat} (hF : 500 < F) (h1 : r32 a1) (h2 : r32 a2) (h : IQ M n nf nt nd nl now) (hH : IH M nf nd nh) : ∃ x y, fU_balance F M a1 a2 = some x ∧ fM_balance F x.2 a1 a2 = some y ∧ w32 x.1 = w32 y.1 ∧ QY M y.2 n nf nt nd nl now := by
  have hI := h.1
  obtain ⟨fU, fM⟩ := fund_it h1 hI
  obtain ⟨v, v1, v2, v3⟩ := party_it h2 hI hH
  have ref : ∀ Z : bz_Mm, ∀ v : Int, (cl1_ (if w32 a2 = 40 then some (20 : Int) else (if w32 a2 = 41 then some 21 else some (fM_placeOf Z a2))) (fun v2 => some v2) = some v) → fM_balance F Z a1 a2 = (if w32 (fM_isFund Z a1) = 0 then some (-2147483648, Z) else if w32 v = -1 then some (-2147483648, Z) else cl_ (fM_balances F Z a1) fun m3 => rd_ m3 230 v 22 fun x4 => some (fM_told x4, m3)) := fun Z v hv => by
    unfold fM_balance
    by_cases c1 : w32 a2 = 40
    · rw [if_pos c1, cl1_s] at hv
      rw [if_pos c1, cl1_s, ← Option.some.inj hv]
    · rw [if_neg c1] at hv ⊢
      by_cases c2 : w32 a2 = 41
      · rw [if_pos c2, cl1_s] at hv
        rw [if_pos c2, cl1_s, ← Option.some.inj hv]
      · rw [if_neg c2, cl1_s] at hv
        rw [if_neg c2, cl1_s, ← Option.some.inj hv]
  unfold fU_balance
  by_cases c : 0 ≤ a1 ∧ a1 < (nf : Int)
  · rw [if_neg (fun q => fU.mp q c)]
    by_cases c2 : v = -1
    · rw [if_pos (v2.mpr c2)]
      refine ⟨_, (-2147483648, M), rfl, ?_, rfl, QY.r h⟩
      rw [ref M v v1, if_neg (fun q => fM.mp q c), if_pos (by rw [c2]; decide)]
    · obtain ⟨g, rfl⟩ : ∃ g : Nat, a1 = g := ⟨a1.toNat, by omega⟩
      obtain ⟨m1, b1, b2, _⟩ := bal_both (g := g) hF h hH (by omega)
      obtain ⟨qm, y, b3, b4, b5, _⟩ := b2 m1 (fun _ _ => rfl)
      obtain ⟨w, w1, w2, w3⟩ := party_it h2 qm.1.1 (hH.fr qm.2.1)
      rcases v3 with t | ⟨q, q1, q2, q3⟩
      · exact absurd t c2
      · rcases w3 with t | ⟨q', q1', q2', q3'⟩
        · exfalso
          -- the same party
          have e1 : w32 (fUS_isParty m1 a2) = w32 (fUS_isParty M a2) := by
            unfold fUS_isParty fUS_isHolder fUS_isFund
            rw [qm.2.1.1 1 (by decide)]
          exact c2 (v2.mp (by rw [← e1]; exact w2.mpr t))
        · have eq : q' = q := nmC_i q2' q2 (by omega)
          have nq : nmC q < 42 := by unfold nmC; repeat' split
                                     all_goals omega
          rw [if_neg (fun z => c2 (v2.mp z)), b1, cl_s, q3, rd_s nq (by decide)]
          refine ⟨_, (fM_told (y 230 q), y), rfl, ?_, ?_, b4⟩
          · dsimp only
            rw [← q3, ref m1 w w1, if_neg (fun z => (fund_it h1 qm.1.1).2.mp z c), q1', eq, w32_n (show q ≤ 2147483647 by omega), if_neg (by omega), b3, cl_s, rd_s q2 (by decide)]
          · dsimp only
            rw [told_eq, (b5 q q2).1]
  · rw [if_pos (fU.mpr c)]
    refine ⟨_, (-2147483648, M), rfl, ?_, rfl, QY.r h⟩
    rw [ref M v v1, if_pos (fM.mpr c)]
