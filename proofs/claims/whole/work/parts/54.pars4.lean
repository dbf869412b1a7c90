/-! numbers, parties, and where they are put -/
theorem nw_cut {T : Nat → Int} {n L : Nat} (hL : L < n → T L = 10) (hn : L ≤ n) : ∀ (m i : Nat) (v : Int), i + m = L → nw T i (n - i) v = nw T i m v := by
  intro m
  induction m with
  | zero =>
    intro i v h
    have e : i = L := by omega
    subst e
    by_cases c : i < n
    · have e : n - i = (n - i - 1) + 1 := by omega
      rw [e, nw_S, if_neg (by rw [hL c]; decide)]; rfl
    · have : n - i = 0 := by omega
      rw [this]
  | succ m ih =>
    intro i v h
    have e : n - i = (n - (i + 1)) + 1 := by omega
    rw [e, nw_S, nw_S]
    split
    · exact ih (i + 1) _ (by omega)
    · rfl
section PQ
variable {F n l0 L : Nat} {T S : Nat → Int} {BU BM Mu Mm : bz_Mm}
theorem op_N (hF : 601 < F) (ht : tx T S n) (hl : ln T n l0 L) {k : Int} (hk : 0 ≤ k ∧ k ≤ 100000) (h : GG T S n l0 L BU BM Mu Mm) : ∃ (x y : Int) (Mu' Mm' : bz_Mm), fUX_wantNumber F Mu k = some (x, Mu') ∧ fM_number F Mm k = some (y, Mm') ∧ GG T S n l0 L BU BM Mu' Mm' ∧ (0 ≤ x ∧ x ≤ k) ∧ (0 ≤ y ∧ y ≤ k) ∧ (Mu' 50 7 = -1 → x = y) := by
  have wk : w32 k = k := w32_id (by omega) (by omega)
  unfold fUX_wantNumber fM_number
  by_cases h0 : Mu 50 7 = -1
  · obtain ⟨Mu', Mm', s, a1, a2, hc⟩ := h.to hF ht hl h0
    have hc0 := hc
    obtain ⟨hu, hm, c1, c2, c3, c4, c5, c6, c7, c8, c9, c10, c11⟩ := hc
    have hLn := hl.2.1
    have hn := ht.1
    have kr := kd_r T n s
    have nr := nv_r (T := T) (n := n) (s := s)
    obtain ⟨g1, g2⟩ := nu_nw (T := T) (n - s) s 0 0 (by omega) (by decide)
    have cut := nw_cut (T := T) hl.2.2.1 hLn (L - s) s 0 (by omega)
    have cutr := hl.c (P := pDi) (i := s) (by decide) c4
    have rr := hl.r (P := pDi) (i := s) (by decide) c4
    rw [a1, a2, cl_s, cl_s, if_pos (show w32 (Mm' 81 40) = -1 by rw [c2]; decide), lt_x, c9, uM_digits ht hLn hm.1 hm.2.2.1 (L - s) F s 0 (by omega) (by omega) (by omega), cl2_s, ← cut, cutr, c5, c8, w32_id (x := kd T n s) (by omega) (by omega), w32_id (x := nv T n s) (by omega) (by omega), wk, w32_id (x := ((rn pDi T s (n - s) : Nat) : Int)) (by omega) (by omega), w32_id (x := (s : Int)) (by omega) (by omega), r64_w (x := k) ⟨by omega, by omega⟩, r64_w (x := nw T s (n - s) 0) ⟨by omega, by omega⟩]
    have bad : ∀ v : Int, w32 v = 0 → ∃ (x : Int) (Mu1 : bz_Mm), (cl_ (fUX_want F Mu' v) fun m4 => if w32 v = 0 then some ((0 : Int), m4) else some (m4 50 6, m4)) = some (x, Mu1) ∧ x = 0 ∧ Mu1 = st_ Mu' 50 7 (s : Int) := fun v hv => by
      rw [want_0 hv c1, cl_s, if_pos hv, c6]
      exact ⟨_, _, rfl, rfl, rfl⟩
    have badm : (cl_ (fM_fails F Mm') fun m4 => some ((0 : Int), m4)) = some (0, st_ Mm' 81 40 (s : Int)) := by
      rw [fails_0 c2, cl_s, c9]
    by_cases c : kd T n s = 2
    · have sL : s < L := by
        have := kd_0 hl c3 c4
        omega
      have pd := (kd_2 (T := T) (n := n) (i := s) (by omega)).mp c
      have gt : s < rn pDi T s (n - s) := by
        have e : n - s = (n - (s + 1)) + 1 := by omega
        rw [e, rn_S, if_pos pd]
        have := rn_r (P := pDi) (T := T) (n - (s + 1)) (s + 1)
        omega
      have nve : nv T n s = nu T s (n - s) 0 := by unfold nv; rw [if_pos c]
      rw [nve] at nr ⊢
      rw [g2] at nr ⊢
      rw [if_pos c, if_neg (show ¬ ((rn pDi T s (n - s) : Nat) : Int) = (s : Int) by omega)]
      by_cases c0 : k < nw T s (n - s) 0
      · rw [if_pos (show k < if 1000000 < nw T s (n - s) 0 then 1000000 else nw T s (n - s) 0 by split <;> omega), if_pos c0, cl1_s]
        obtain ⟨x, M1, b1, b2, b3⟩ := bad 0 w32_0
        rw [b1, badm]
        refine ⟨x, 0, M1, _, rfl, rfl, ?_, by omega, by omega, fun _ => b2⟩
        rw [b3]; exact hc0.fa ht hl
      · rw [if_neg (show ¬ k < if 1000000 < nw T s (n - s) 0 then 1000000 else nw T s (n - s) 0 by split <;> omega), if_neg c0, cl1_s, want_1 (by decide), cl_s, if_neg (by decide), wf_s, c8, nve, g2, if_neg (show ¬ 1000000 < nw T s (n - s) 0 by omega)]
        refine ⟨_, _, _, _, rfl, rfl, ?_, by omega, by omega, fun _ => rfl⟩
        have e : te T n s = rn pDi T s (n - s) := by
          unfold te; rw [if_neg (by omega), if_neg (by omega), if_pos c]
        rw [← e]; exact hc0.go ht hl
    · have eq : rn pDi T s (n - s) = s := by
        by_cases sn : s < n
        · exact rn_n (Bool.eq_false_iff.mpr (fun q => c ((kd_2 (T := T) (n := n) (i := s) sn).mpr q)))
        · have : n - s = 0 := by omega
          rw [this]; rfl
      rw [if_neg c, eq, if_pos rfl, cl1_s]
      obtain ⟨x, M1, b1, b2, b3⟩ := bad 0 w32_0
      rw [b1, badm]
      refine ⟨x, 0, M1, _, rfl, rfl, ?_, by omega, by omega, fun _ => b2⟩
      rw [b3]; exact hc0.fa ht hl
  · obtain ⟨hu, hm, hf, hkk⟩ := h
    obtain ⟨b, u1, u2, u3, u4, u5⟩ := hu.nx hF ht
    obtain ⟨a, m1, m2, m3, m4⟩ := hm.sk hF ht hl.2.1
    have g1 : ¬ nm Mu T n b 50 7 = -1 := by rw [nm_7]; exact h0
    have kr := kd_r T n (skp T n b)
    have nr := nv_r (T := T) (n := n) (s := skp T n b)
    have e1 : st_ Mm 81 38 ((rn pSp T a (L - a) : Nat) : Int) 81 40 = Mm 81 40 := by rw [st_eq, ud_ne (by decide)]
    rw [u3, m3, cl_s, cl_s, if_neg (show ¬ w32 (st_ Mm 81 38 ((rn pSp T a (L - a) : Nat) : Int) 81 40) = -1 by rw [e1, ← hf, w32_f hu.2.2.2.1]; exact h0), nm_3, nm_6, wk, w32_id (x := kd T n (skp T n b)) (by omega) (by omega), w32_id (x := nv T n (skp T n b)) (by omega) (by omega)]
    have fin : ∀ v : Int, (∃ x, (cl_ (fUX_want F (nm Mu T n b) v) fun m4 => if w32 v = 0 then some ((0 : Int), m4) else some (m4 50 6, m4)) = some (x, nm Mu T n b) ∧ (x = 0 ∨ (¬ w32 v = 0 ∧ x = nv T n (skp T n b)))) := fun v => by
      rw [want_f u4.2.2.2.1 g1, cl_s]
      by_cases hv : w32 v = 0
      · rw [if_pos hv]; exact ⟨0, rfl, Or.inl rfl⟩
      · rw [if_neg hv, nm_6]; exact ⟨_, rfl, Or.inr ⟨hv, rfl⟩⟩
    have gg : GG T S n l0 L BU BM (nm Mu T n b) (st_ Mm 81 38 ((rn pSp T a (L - a) : Nat) : Int)) := ⟨u4, m4, by rw [nm_7, e1]; exact hf, fun q => absurd q g1⟩
    by_cases c : kd T n (skp T n b) = 2 ∧ ¬ k < nv T n (skp T n b)
    · rw [if_pos c.1, if_neg c.2, cl1_s]
      obtain ⟨x, x1, x2⟩ := fin 1
      rw [x1]
      refine ⟨x, 0, _, _, rfl, rfl, gg, by omega, by omega, fun q => absurd q g1⟩
    · have e : (if kd T n (skp T n b) = 2 then if k < nv T n (skp T n b) then some (0 : Int) else some 1 else some 0) = some 0 := by
        by_cases q : kd T n (skp T n b) = 2
        · rw [if_pos q, if_pos (Classical.not_not.mp (fun t => c ⟨q, t⟩))]
        · rw [if_neg q]
      rw [e, cl1_s]
      obtain ⟨x, x1, x2⟩ := fin 0
      rw [x1]
      refine ⟨x, 0, _, _, rfl, rfl, gg, ?_, by omega, fun q => absurd q g1⟩
      rcases x2 with q | q
      · omega
      · exact absurd w32_0 q.1
/-- a value goes to its place -/
theorem op_S {f w : Nat} {x y : Int} (hf : f < 5) (hw : w < 12) (hy : rl_ok w y) (h : GG T S n l0 L BU BM Mu Mm) (hxy : Mu 50 7 = -1 → x = y) : ∃ Mm' : bz_Mm, fM_sets F Mm (f : Int) (w : Int) y = some Mm' ∧ GG T S n l0 L BU BM (st_ Mu 52 (f * 12 + w) x) Mm' := by
  obtain ⟨hu, hm, hff, hk⟩ := h
  obtain ⟨u1, u2, ⟨b, u3, u4⟩, u5, u6⟩ := hu
  obtain ⟨m1, m2, m3, ⟨a, m4, m5⟩, m6, m7, m8, m9⟩ := hm
  have gu : GU T n BU (st_ Mu 52 (f * 12 + w) x) := ⟨by rw [st_ne (by decide)]; exact u1, by rw [st_ne (by decide)]; exact u2, ⟨b, u3, by rw [st_ne (by decide)]; exact u4⟩, by rw [st_ne (by decide)]; exact u5, fun q c d => by rw [st_ne d]; exact u6 q c d⟩
  unfold fM_sets
  by_cases h0 : Mm 81 40 = -1
  · rw [if_pos (by rw [h0]; decide), ra_i (by decide) (by decide) (by decide), ra_i (by omega) (by omega) (by decide), wa_i (by omega) (by omega) (by decide)]
    have e1 : 119 + 5 * (6 : Int).toNat + (f : Int).toNat = 149 + f := by
      have : (6 : Int).toNat = 6 := rfl
      rw [this]; omega
    rw [e1, Int.toNat_natCast]
    refine ⟨_, rfl, gu, ⟨?_, ?_, ?_, ⟨a, m4, ?_⟩, ?_, fun q c d => ?_, fun j c d e => ?_, fun f2 w2 c d => ?_⟩, ?_, fun q => ?_⟩
    · rw [st_ne (by omega)]; exact m1
    · rw [st_ne (by omega)]; exact m2
    · rw [st_ne (by omega)]; exact m3
    · rw [st_ne (by omega)]; exact m5
    · rw [st_ne (by omega)]; exact m6
    · rw [st_ne (by omega)]; exact m7 q c d
    · rw [st_ne (by omega)]; exact m8 j c d e
    · by_cases g : f2 = f
      · subst g
        rw [st_eq]
        by_cases g2 : w2 = w
        · subst g2; rw [ud_eq]; exact Or.inr hy
        · rw [ud_ne g2]; exact m9 _ w2 c d
      · rw [st_ne (by omega)]; exact m9 f2 w2 c d
    · rw [st_ne (by decide), st_ne (by omega)]; exact hff
    · rw [st_ne (by decide)] at q
      obtain ⟨b', a', k1, k2, k3, k4, k5, k6, k7, k8⟩ := hk q
      refine ⟨b', a', k1, k2, k3, k4, by rw [st_ne (by decide)]; exact k5, by rw [st_ne (by omega)]; exact k6, k7, fun f2 w2 c d => ?_⟩
      rw [st_eq]
      by_cases g : f2 = f
      · subst g
        rw [st_eq]
        by_cases g2 : w2 = w
        · subst g2; rw [ud_eq, ud_eq]; exact hxy q
        · rw [ud_ne (by omega), ud_ne g2]; exact k8 _ w2 c d
      · rw [ud_ne (by omega), st_ne (by omega)]; exact k8 f2 w2 c d
  · rw [if_neg (by rw [w32_f m6]; exact h0)]
    exact ⟨_, rfl, gu, ⟨m1, m2, m3, ⟨a, m4, m5⟩, m6, m7, m8, m9⟩, by rw [st_ne (by decide)]; exact hff, fun q => absurd (by rw [st_ne (by decide)] at q; rw [← hff]; exact q) h0⟩
theorem takes_n (hF : 601 < F) (ht : tx T S n) (hl : ln T n l0 L) {s w : Nat} (hw : w < 18) (h : CC T S n l0 L BU BM Mu Mm s) (c : ¬ wd T n s w) : fM_takes F Mm w = some (0, Mm) := by
  obtain ⟨hu, hm, c1, c2, c3, c4, c5, c6, c7, c8, c9, c10, c11⟩ := h
  obtain ⟨y, y1, y2⟩ := uM_isWord (F := F) (by omega) hw ht hl hm.1 hm.2.2.1 c9 c4
  unfold fM_takes
  rw [y1, cl_s, if_pos (y2.mpr c)]
theorem takes_y (hF : 601 < F) (ht : tx T S n) (hl : ln T n l0 L) {s w : Nat} (hw : w < 18) (h : CC T S n l0 L BU BM Mu Mm s) (c : wd T n s w) : ∃ Mm', fM_takes F Mm w = some (1, Mm') ∧ GG T S n l0 L BU BM Mu Mm' := by
  have h0 := h
  obtain ⟨hu, hm, c1, c2, c3, c4, c5, c6, c7, c8, c9, c10, c11⟩ := h
  obtain ⟨y, y1, y2⟩ := uM_isWord (F := F) (by omega) hw ht hl hm.1 hm.2.2.1 c9 c4
  have hk := wd_kd hw (by have := hl.2.1; omega) c
  unfold fM_takes
  rw [y1, cl_s, if_neg (fun q => y2.mp q c), uM_wordEnd (by omega) ht hl.2.1 hm.1 hm.2.2.1 c9 c4, cl_s, wf_s]
  refine ⟨_, rfl, ?_⟩
  have e : te T n s = rn pLe T s (L - s) := by
    rw [hl.c (by decide) c4]
    unfold te
    rw [if_neg (by omega), if_pos hk]
  rw [← e]
  exact h0.go ht hl
theorem CC.w (hF : 601 < F) (ht : tx T S n) (hl : ln T n l0 L) {s w : Nat} (hw : w < 18) (h : CC T S n l0 L BU BM Mu Mm s) : ∃ x : Int, fUX_isWord F Mu w = some x ∧ (w32 x = 0 ↔ ¬ wd T n s w) := by
  obtain ⟨hu, hm, c1, c2, c3, c4, c5, c6, c7, c8, c9, c10, c11⟩ := h
  exact uUX_isWord (F := F) (by omega) hw ht hu.1 c6 (by have := hl.2.1; omega) c5 c7
end PQ
