/-! parties, gains, rules -/
theorem wd_one {T : Nat → Int} {n s : Nat} : (wd T n s 0 → ¬ wd T n s 1) ∧ (wd T n s 0 → ¬ wd T n s 2) ∧ (wd T n s 1 → ¬ wd T n s 2) := by
  have l0 : sn_ 0 = 4 := by decide +kernel
  have l1 : sn_ 1 = 5 := by decide +kernel
  have l2 : sn_ 2 = 4 := by decide +kernel
  have c0 : ch_ 0 ((0 : Nat) : Int) = 102 := by decide +kernel
  have c2 : ch_ 2 ((0 : Nat) : Int) = 112 := by decide +kernel
  refine ⟨fun a b => ?_, fun a b => ?_, fun a b => ?_⟩
  · have h1 := a.1; have h2 := b.1; omega
  · have h1 := a.2; have h2 := b.2
    rw [l0, wm_S, c0] at h1
    rw [l2, wm_S, c2] at h2
    by_cases q : T (s + 0) = 102
    · rw [if_neg (by omega)] at h2; exact absurd h2 (by decide)
    · rw [if_neg q] at h1; exact absurd h1 (by decide)
  · have h1 := a.1; have h2 := b.1; omega
theorem cl_inv {α β : Type} {f : Option β} {k : β → Option α} {r : α} (h : cl_ f k = some r) : ∃ x, f = some x ∧ k x = some r := by
  cases f with
  | none => cases h
  | some x => exact ⟨x, rfl, h⟩
section PR
variable {F n l0 L : Nat} {T S : Nat → Int} {BU BM Mu Mm : bz_Mm}
theorem party_L (hF : 601 < F) (ht : tx T S n) (hl : ln T n l0 L) {s : Nat} (h : CC T S n l0 L BU BM Mu Mm s) : ∀ (m fuel k : Nat), k + m = 3 → m < fuel → (∀ j, j < k → ¬ wd T n s j) → (∃ j : Nat, j < 3 ∧ wd T n s j ∧ M_party_L16 F fuel Mm (k : Int) = some (.inl ((j : Int), st_ Mm 81 38 (te T n s : Int)))) ∨ ((∀ j, j < 3 → ¬ wd T n s j) ∧ M_party_L16 F fuel Mm (k : Int) = some (.inr 0)) := by
  obtain ⟨hu, hm, c1, c2, c3, c4, c5, c6, c7, c8, c9, c10, c11⟩ := h
  intro m
  induction m with
  | zero =>
    intro fuel k h1 h2 h3
    obtain ⟨fuel, rfl⟩ : ∃ j, fuel = j + 1 := ⟨fuel - 1, by omega⟩
    right
    refine ⟨fun j hj => h3 j (by omega), ?_⟩
    rw [M_party_L16, w32_id (x := (k : Int)) (by omega) (by omega), if_neg (by omega)]
  | succ m ih =>
    intro fuel k h1 h2 h3
    obtain ⟨fuel, rfl⟩ : ∃ j, fuel = j + 1 := ⟨fuel - 1, by omega⟩
    obtain ⟨y, y1, y2⟩ := uM_isWord (F := F) (w := k) (by omega) (by omega) ht hl hm.1 hm.2.2.1 c9 c4
    have e : (k : Int) + 1 = ((k + 1 : Nat) : Int) := by omega
    rw [M_party_L16, w32_id (x := (k : Int)) (by omega) (by omega), if_pos (by omega), ra_i (by omega) (by omega) (by decide), Int.toNat_natCast, y1, cl_s]
    by_cases c : wd T n s k
    · have hk := wd_kd (w := k) (by omega) (by have := hl.2.1; omega) c
      rw [if_neg (fun q => y2.mp q c), uM_wordEnd (by omega) ht hl.2.1 hm.1 hm.2.2.1 c9 c4, cl_s, wf_s]
      left
      have e : te T n s = rn pLe T s (L - s) := by
        rw [hl.c (by decide) c4]
        unfold te
        rw [if_neg (by omega), if_pos hk]
      rw [← e]
      exact ⟨k, by omega, c, rfl⟩
    · rw [if_pos (y2.mpr c), e]
      exact ih fuel (k + 1) (by omega) (by omega) (fun j hj => by
        by_cases g : j = k
        · rw [g]; exact c
        · exact h3 j (by omega))
theorem op_P (hF : 601 < F) (ht : tx T S n) (hl : ln T n l0 L) (h : GG T S n l0 L BU BM Mu Mm) : ∃ (x y : Int) (Mu' Mm' : bz_Mm), fUX_wantParty F Mu = some (x, Mu') ∧ fM_party F Mm = some (y, Mm') ∧ GG T S n l0 L BU BM Mu' Mm' ∧ (0 ≤ x ∧ x ≤ 2) ∧ (0 ≤ y ∧ y ≤ 2) ∧ (Mu' 50 7 = -1 → x = y) := by
  unfold fUX_wantParty fM_party
  obtain ⟨o1, o2, o3⟩ := wd_one (T := T) (n := n) (s := 0)
  by_cases h0 : Mu 50 7 = -1
  · obtain ⟨Mu', Mm', s, a1, a2, hc⟩ := h.to hF ht hl h0
    obtain ⟨o1, o2, o3⟩ := wd_one (T := T) (n := n) (s := s)
    have hc0 := hc
    obtain ⟨x1, p1, q1⟩ := hc.w hF ht hl (w := 1) (by decide)
    obtain ⟨x2, p2, q2⟩ := hc.w hF ht hl (w := 2) (by decide)
    obtain ⟨x0, p0, q0⟩ := hc.w hF ht hl (w := 0) (by decide)
    have pl := party_L hF ht hl hc 3 F 0 rfl (by omega) (fun j hj => absurd hj (by omega))
    have e0 : ((0 : Nat) : Int) = 0 := rfl
    rw [e0] at pl
    obtain ⟨hu, hm, c1, c2, c3, c4, c5, c6, c7, c8, c9, c10, c11⟩ := hc
    rw [a1, a2, cl_s, cl_s, if_pos (show w32 (Mm' 81 40) = -1 by rw [c2]; decide), p1, cl_s, p2, cl_s, p0, cl_s]
    rcases pl with ⟨j, j1, j2, j3⟩ | ⟨j1, j2⟩
    · rw [j3, cs1_l]
      match j, j1, j2 with
      | 0, _, j2 =>
        rw [if_pos (q1.mpr (o1 j2)), if_pos (q2.mpr (o2 j2)), want_1 (fun q => q0.mp q j2), cl_s]
        exact ⟨0, 0, _, _, rfl, rfl, hc0.go ht hl, by decide, by decide, fun _ => rfl⟩
      | 1, _, j2 =>
        rw [if_neg (fun q => q1.mp q j2)]
        exact ⟨1, 1, _, _, rfl, rfl, hc0.go ht hl, by decide, by decide, fun _ => rfl⟩
      | 2, _, j2 =>
        rw [if_pos (q1.mpr (fun q => o3 q j2)), if_neg (fun q => q2.mp q j2)]
        exact ⟨2, 2, _, _, rfl, rfl, hc0.go ht hl, by decide, by decide, fun _ => rfl⟩
    · rw [j2, cs1_r, if_pos (q1.mpr (j1 1 (by decide))), if_pos (q2.mpr (j1 2 (by decide))), want_0 (q0.mpr (j1 0 (by decide))) c1, cl_s, fails_0 c2, cl_s, c6, c9]
      exact ⟨0, 0, _, _, rfl, rfl, hc0.fa ht hl, by decide, by decide, fun _ => rfl⟩
  · obtain ⟨hu, hm, hf, hkk⟩ := h
    obtain ⟨b, u1, u2, u3, u4, u5⟩ := hu.nx hF ht
    obtain ⟨a, m1, m2, m3, m4⟩ := hm.sk hF ht hl.2.1
    have g1 : ¬ nm Mu T n b 50 7 = -1 := by rw [nm_7]; exact h0
    obtain ⟨x1, p1, q1⟩ := uUX_isWord (F := F) (w := 1) (by omega) (by decide) ht u4.1 nm_4 u5 nm_3 nm_5
    obtain ⟨x2, p2, q2⟩ := uUX_isWord (F := F) (w := 2) (by omega) (by decide) ht u4.1 nm_4 u5 nm_3 nm_5
    obtain ⟨x0, p0, q0⟩ := uUX_isWord (F := F) (w := 0) (by omega) (by decide) ht u4.1 nm_4 u5 nm_3 nm_5
    have e1 : st_ Mm 81 38 ((rn pSp T a (L - a) : Nat) : Int) 81 40 = Mm 81 40 := by rw [st_eq, ud_ne (by decide)]
    have gg : GG T S n l0 L BU BM (nm Mu T n b) (st_ Mm 81 38 ((rn pSp T a (L - a) : Nat) : Int)) := ⟨u4, m4, by rw [nm_7, e1]; exact hf, fun q => absurd q g1⟩
    rw [u3, m3, cl_s, cl_s, if_neg (show ¬ w32 (st_ Mm 81 38 ((rn pSp T a (L - a) : Nat) : Int) 81 40) = -1 by rw [e1, ← hf, w32_f hu.2.2.2.1]; exact h0), p1, cl_s, p2, cl_s, p0, cl_s, want_f u4.2.2.2.1 g1, cl_s]
    by_cases c1 : w32 x1 = 0
    · rw [if_pos c1]
      by_cases c2 : w32 x2 = 0
      · rw [if_pos c2]
        exact ⟨0, 0, _, _, rfl, rfl, gg, by decide, by decide, fun q => absurd q g1⟩
      · rw [if_neg c2]
        exact ⟨2, 0, _, _, rfl, rfl, gg, by decide, by decide, fun q => absurd q g1⟩
    · rw [if_neg c1]
      exact ⟨1, 0, _, _, rfl, rfl, gg, by decide, by decide, fun q => absurd q g1⟩
/-- a want of a word at the token that is read already, and the reference's word that skips first -/
theorem op_W0 (hF : 601 < F) (ht : tx T S n) (hl : ln T n l0 L) {s w : Nat} (hw : w < 18) (h : CC T S n l0 L BU BM Mu Mm s) : ∃ (x : Int) (Mu' Mm' : bz_Mm), fUX_isWord F Mu w = some x ∧ fUX_want F Mu x = some Mu' ∧ fM_word F Mm w = some Mm' ∧ GG T S n l0 L BU BM Mu' Mm' := by
  have hc0 := h
  obtain ⟨x, x1, x2⟩ := h.w hF ht hl hw
  obtain ⟨hu, hm, c1, c2, c3, c4, c5, c6, c7, c8, c9, c10, c11⟩ := h
  have hn := ht.1
  have hLn := hl.2.1
  have sk : fM_skips F Mm = some Mm := by
    rw [uM_skips hF ht hl.2.1 hm.1 hm.2.2.1 c9 (by omega), hl.c (P := pSp) (by decide) c4]
    have e : rn pSp T s (n - s) = s := c11
    rw [e, ← c9, st_self]
  obtain ⟨y, y1, y2⟩ := uM_isWord (F := F) (by omega) hw ht hl hm.1 hm.2.2.1 c9 c4
  unfold fM_word
  rw [sk, cl_s, if_pos (by rw [c2]; decide), y1, cl_s]
  by_cases c : wd T n s w
  · have hk := wd_kd hw (by omega) c
    rw [if_neg (fun q => y2.mp q c), uM_wordEnd (by omega) ht hl.2.1 hm.1 hm.2.2.1 c9 c4, cl_s, wf_s]
    have e : te T n s = rn pLe T s (L - s) := by
      rw [hl.c (by decide) c4]
      unfold te
      rw [if_neg (by omega), if_pos hk]
    rw [← e]
    exact ⟨x, _, _, x1, want_1 (fun q => x2.mp q c), rfl, hc0.go ht hl⟩
  · rw [if_pos (y2.mpr c), fails_0 c2, cl_s, c9]
    refine ⟨x, _, _, x1, want_0 (x2.mpr c) c1, rfl, ?_⟩
    rw [c6]
    exact hc0.fa ht hl
theorem rl_num {w : Nat} {y k : Int} (h : 0 ≤ y ∧ y ≤ k) (hk : k ≤ [5000, 1000, 10000, 24, 5000, 100000, 2, 100000, 300, 2, 90, 60].getD w 0) : rl_ok w y := by
  refine ⟨by omega, ?_⟩
  split <;> omega
theorem sim_gains (hF : 601 < F) (ht : tx T S n) (hl : ln T n l0 L) {f : Nat} (hf : f < 5) (h : GG T S n l0 L BU BM Mu Mm) (h0 : Mu 50 7 = -1) : ∃ (x : Int) (Mu' Mm' : bz_Mm), fUX_wantGains F Mu = some (x, Mu') ∧ fM_gains F Mm (f : Int) = some Mm' ∧ GG T S n l0 L BU BM (st_ Mu' 52 (f * 12 + 7) x) Mm' := by
  obtain ⟨Mu1, Mm1, s, a1, a2, hc⟩ := h.to hF ht hl h0
  obtain ⟨x, x1, x2⟩ := hc.w hF ht hl (w := 16) (by decide)
  unfold fUX_wantGains fM_gains
  rw [a1, a2, cl_s, cl_s, x1, cl_s]
  have i7 : ((7 : Nat) : Int) = 7 := rfl
  by_cases c : wd T n s 16
  · obtain ⟨Mm2, t1, t2⟩ := takes_y hF ht hl (by decide) hc c
    rw [t1, cl2_s, if_neg (fun q => x2.mp q c), if_neg (by decide)]
    obtain ⟨Mm3, s1, s2⟩ := op_S (F := F) (f := f) (w := 7) (x := -1) (y := -1) hf (by decide) (by unfold rl_ok; decide) t2 (fun _ => rfl)
    rw [i7] at s1
    rw [s1, cl_s]
    exact ⟨_, _, _, rfl, rfl, s2⟩
  · rw [takes_n hF ht hl (by decide) hc c, cl2_s, if_pos (x2.mpr c), if_pos (by decide)]
    obtain ⟨y, Mu2, Mm2, b1, b2, b3, b4⟩ := op_W0 hF ht hl (w := 17) (by decide) hc
    obtain ⟨Mu3, Mm3, d1, d2, d3⟩ := op_W hF ht hl (w := 8) (by decide) b4
    obtain ⟨u, v, Mu4, Mm4, e1, e2, e3, e4, e5, e6⟩ := op_N hF ht hl (k := 100000) (by decide) d3
    obtain ⟨Mm5, s1, s2⟩ := op_S (F := F) (f := f) (w := 7) (x := u) (y := v) hf (by decide) (rl_num e5 (by decide)) e3 e6
    rw [i7] at s1
    rw [b1, cl_s, b2, cl_s, b3, cl_s, d2, cl_s, e2, cl2_s, s1, cl_s]
    unfold fUX_wantWord at d1
    have d4 : (cl_ (fUX_next F Mu2) fun m5 => cl_ (fUX_isWord F m5 8) fun x6 => cl_ (fUX_want F m5 x6) fun m7 => cl2_ (fUX_wantNumber F m7 100000) fun x9 m8 => some (x9, m8)) = some (u, Mu4) := by
      obtain ⟨m1, z1, z2⟩ := cl_inv d1
      obtain ⟨y1, z3, z4⟩ := cl_inv z2
      obtain ⟨m2, z5, z6⟩ := cl_inv z4
      cases z6
      rw [z1, cl_s, z3, cl_s, z5, cl_s, e1, cl2_s]
    rw [d4]
    exact ⟨_, _, _, rfl, rfl, s2⟩
theorem wa52 {α : Type} {f w : Nat} {a1 W x : Int} {M : bz_Mm} {k : bz_Mm → Option α} (hW : W = (w : Int)) (ha : a1 = ((f * 12 : Nat) : Int)) (hf : f < 5) (hw : w < 12) : wa_ M 52 (a1 + W) 60 x k = k (st_ M 52 (f * 12 + w) x) := by
  rw [wa_i (by omega) (by omega) (by decide)]
  congr 2
  omega
end PR
