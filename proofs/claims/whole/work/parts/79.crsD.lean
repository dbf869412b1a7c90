/-! all of the reference's walk; the class's walk when it is made anew -/
theorem RT.k {nl nt nd : Nat} {k : Int} {M X : bz_Mm} (hI : RT nl nt nd M) (hk : r32 k) (h : ∀ q, q ≠ 81 → (q < 158 ∨ (187 < q ∧ q ≠ 221)) → X q = M q) (h81 : X 81 = ud (M 81) 61 k) : RT nl nt nd X := by
  obtain ⟨a1, a2, a3, a4, a5, a6, a7, a8, a9⟩ := hI
  have e : ∀ j, j ≠ 61 → X 81 j = M 81 j := fun j hj => by rw [h81, ud_ne hj]
  refine ⟨by rw [e 19 (by decide)]; exact a1, by rw [e 27 (by decide)]; exact a2, by rw [e 35 (by decide)]; exact a3, by rw [h81, ud_eq]; exact hk, ?_, ?_, ?_, iv_la.c (fun q hq => h q (by omega) (by omega)) (e 43 (by decide)) a8, ?_⟩
  · rw [h 97 (by decide) (by decide), h 98 (by decide) (by decide), h 99 (by decide) (by decide), h 102 (by decide) (by decide)]; exact a5
  · rw [h 103 (by decide) (by decide), h 104 (by decide) (by decide), h 105 (by decide) (by decide), h 106 (by decide) (by decide)]; exact a6
  · rw [h 92 (by decide) (by decide)]; exact a7
  · rw [h 82 (by decide) (by decide)]; exact a9
theorem r_through {F n nl nt nd nf how N : Nat} {k : Int} {M : bz_Mm} (hF : 500 < F) (hk : r32 k) (hN : N ≤ 260) (hh : how < 3) (hI : RT nl nt nd M) (hT : TE n M) (hnf : M 81 19 = nf) : ∃ X, fM_knows F M k = some X ∧ KN M X k n ∧ (∀ q, q ≠ 81 → (q < 158 ∨ (187 < q ∧ q ≠ 221)) → X q = M q) ∧ X 81 = ud (M 81) 61 k ∧ RT nl nt nd X ∧ fM_through F M ((N : Int) - 1) k (how : Int) = some (itr (gDay how (N - 1) nf nt nd) 0 N (sBeg nd X)) := by
  obtain ⟨X, a1, a2, a3, a4⟩ := r_knows hF hk hT
  have hX := hI.k hk a3 a4
  obtain ⟨b1, b2⟩ := r_begins (F := F) (by omega) hX
  refine ⟨X, a1, a2, a3, a4, hX, ?_⟩
  have hnfX : sBeg nd X 81 19 = nf := by rw [sBeg_o (by decide), a4, ud_ne (by decide)]; exact hnf
  unfold fM_through
  rw [a1, cl_s, b1, cl_s]
  by_cases c : N = 0
  · subst c
    obtain ⟨F', rfl⟩ : ∃ j, F = j + 1 := ⟨F - 1, by omega⟩
    rw [M_through_L12, if_pos (by decide), cl1_s]
    rfl
  · have e : (N : Int) - 1 = ((N - 1 : Nat) : Int) := by omega
    have t := (r_thr (F := F) (how := how) (last := N - 1) (nf := nf) (by omega) (by omega) hh N F 0 (sBeg nd X) b2 hnfX (by omega) (by omega)).1
    rw [show ((0 : Nat) : Int) = 0 from rfl] at t
    rw [e, t, cl1_s]
/-- how far a walk goes -/
def lastN (now k : Int) : Nat := if k < now then (k + 1).toNat else now.toNat
theorem lastN_U {M : bz_Mm} {k : Int} (h0 : 0 ≤ M 1 13 ∧ M 1 13 ≤ 260) (hk : 0 ≤ k ∧ k ≤ 260) : fUS_lastOver M k = ((lastN (M 1 13) k : Nat) : Int) - 1 := by
  unfold fUS_lastOver lastN
  rw [uJM_min0 ⟨by omega, by omega⟩ ⟨by omega, by omega⟩]
  repeat' split
  all_goals omega
theorem walk_new {F : Nat} {K M : bz_Mm} {k : Int} {n nf nt nd nl T L : Nat} (hF : 500 < F) (hT : T ≤ 260) (hS : STc K M k n nf nt nd nl T) (hc : ∀ g, g < nf → M 2 g = w32 (K 93 g)) (h0 : 0 ≤ M 1 13 ∧ M 1 13 ≤ 260) (hk : 0 ≤ k ∧ k ≤ 260) (hN : lastN (M 1 13) k ≤ T) (hw : ¬ (w32 (M 53 17) = w32 k ∧ w32 (M 53 18) = w32 (M 1 17))) : ∃ Ms Mu, fUC_start F M = some Ms ∧ fUC_walkTo F M k = some (st_ (st_ Mu 53 17 k) 53 18 (M 1 17)) ∧ (∀ q, (q < 53 ∨ q = 56 ∨ q = 57 ∨ 62 < q) → Ms q = M q) ∧ (∀ j, (j < 11 ∨ j = 15 ∨ 17 < j) → Ms 53 j = M 53 j) ∧ STc K Ms k n nf nt nd nl T ∧ SD K Ms k n nf nt nd (lastN (M 1 13) k) Mu (itr (gDay 0 L nf nt nd) 0 (lastN (M 1 13) k) (sBeg nd K)) (itr (gDay 2 L nf nt nd) 0 (lastN (M 1 13) k) (sBeg nd K)) := by
  obtain ⟨Ms, a1, a2, a3, a4, a5, a6⟩ := sd_start (F := F) (by omega) hS hc
  have m1 : Ms 1 = M 1 := a2 1 (by decide)
  have ln : fUS_lastOver Ms k = ((lastN (M 1 13) k : Nat) : Int) - 1 := by rw [lastN_U (by rw [m1]; exact h0) hk, m1]
  obtain ⟨Mu, b1, b2, b3⟩ := walk_L (F := F) (L := L) hF hN hT a5 (lastN (M 1 13) k) F 0 Ms _ _ (by omega) (by omega) a6
  have mu1 : Mu 1 = M 1 := by rw [b3.1.1 1 (by decide) (by decide), m1]
  rw [show ((0 : Nat) : Int) = 0 from rfl] at b1 b2
  refine ⟨Ms, Mu, a1, ?_, a2, a3, a5, b3⟩
  unfold fUC_walkTo
  have e1 : st_ Mu 53 17 k 1 17 = M 1 17 := by rw [st_ne (by decide), mu1]
  by_cases c1 : w32 (M 53 17) = w32 k
  · rw [if_pos c1, if_neg (fun q => hw ⟨c1, q⟩), a1, cl_s, lt_x, ln, b2, cl1_s, wf_s, wf_s, e1]
  · rw [if_neg c1, a1, cl_s, lt_x, ln, b1, cl1_s, wf_s, wf_s, e1]
