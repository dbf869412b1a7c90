/-! class and reference side by side -/
def vok (w : Nat) (x : Int) : Prop := x = -2147483648 ∨ rl_ok w x
def GU (T : Nat → Int) (n : Nat) (B M : bz_Mm) : Prop := M 51 = T ∧ M 50 2 = n ∧ (∃ b : Nat, b ≤ n ∧ M 50 5 = b) ∧ (-1 ≤ M 50 7 ∧ M 50 7 ≤ 601) ∧ ∀ a, a ≠ 50 → a ≠ 52 → M a = B a
def GM (S : Nat → Int) (n L : Nat) (B M : bz_Mm) : Prop := M 110 = S ∧ M 81 37 = n ∧ M 81 39 = L ∧ (∃ a : Nat, a ≤ 600 ∧ M 81 38 = a) ∧ (-1 ≤ M 81 40 ∧ M 81 40 ≤ 601) ∧ (∀ q, q ≠ 81 → (q < 149 ∨ 153 < q) → M q = B q) ∧ (∀ j, j ≠ 38 → j ≠ 39 → j ≠ 40 → M 81 j = B 81 j) ∧ ∀ f w, f < 5 → w < 12 → vok w (M (149 + f) w)
def rle (Mu Mm : bz_Mm) : Prop := ∀ f w, f < 5 → w < 12 → Mu 52 (f * 12 + w) = Mm (149 + f) w
def lk (T : Nat → Int) (n l0 L : Nat) (Mu Mm : bz_Mm) : Prop := ∃ b a : Nat, l0 ≤ b ∧ b ≤ L ∧ l0 ≤ a ∧ a ≤ L ∧ Mu 50 5 = b ∧ Mm 81 38 = a ∧ skp T n b = skp T n a ∧ rle Mu Mm
def GG (T S : Nat → Int) (n l0 L : Nat) (BU BM Mu Mm : bz_Mm) : Prop := GU T n BU Mu ∧ GM S n L BM Mm ∧ Mu 50 7 = Mm 81 40 ∧ (Mu 50 7 = -1 → lk T n l0 L Mu Mm)
def CC (T S : Nat → Int) (n l0 L : Nat) (BU BM Mu Mm : bz_Mm) (s : Nat) : Prop := GU T n BU Mu ∧ GM S n L BM Mm ∧ Mu 50 7 = -1 ∧ Mm 81 40 = -1 ∧ l0 ≤ s ∧ s ≤ L ∧ Mu 50 3 = kd T n s ∧ Mu 50 4 = s ∧ Mu 50 5 = te T n s ∧ Mu 50 6 = nv T n s ∧ Mm 81 38 = s ∧ rle Mu Mm ∧ skp T n s = s
theorem nm_o {M : bz_Mm} {T : Nat → Int} {n b a : Nat} (h : a ≠ 50) : nm M T n b a = M a := if_neg h
theorem nm_2 {M : bz_Mm} {T : Nat → Int} {n b : Nat} : nm M T n b 50 2 = M 50 2 := rfl
theorem nm_3 {M : bz_Mm} {T : Nat → Int} {n b : Nat} : nm M T n b 50 3 = kd T n (skp T n b) := rfl
theorem nm_4 {M : bz_Mm} {T : Nat → Int} {n b : Nat} : nm M T n b 50 4 = (skp T n b : Int) := rfl
theorem nm_5 {M : bz_Mm} {T : Nat → Int} {n b : Nat} : nm M T n b 50 5 = (te T n (skp T n b) : Int) := rfl
theorem nm_6 {M : bz_Mm} {T : Nat → Int} {n b : Nat} : nm M T n b 50 6 = nv T n (skp T n b) := rfl
theorem nm_7 {M : bz_Mm} {T : Nat → Int} {n b : Nat} : nm M T n b 50 7 = M 50 7 := rfl
theorem skp_r {T : Nat → Int} {n b : Nat} (h : b ≤ n) : b ≤ skp T n b ∧ skp T n b ≤ n := by
  have := rn_r (P := pSp) (T := T) (n - b) b
  unfold skp; omega
theorem skp_2 {T : Nat → Int} {n b : Nat} (h : b ≤ n) : skp T n (skp T n b) = skp T n b := by
  have hr := skp_r (T := T) h
  by_cases c : skp T n b < n
  · have : pSp (T (skp T n b)) = false := rn_st (n - b) b (by unfold skp at c; omega)
    show rn pSp T (skp T n b) _ = _
    exact rn_n this
  · have e : n - skp T n b = 0 := by omega
    show rn pSp T (skp T n b) (n - skp T n b) = _
    rw [e]; rfl
theorem te_r {T : Nat → Int} {n s : Nat} (h : s ≤ n) : s ≤ te T n s ∧ te T n s ≤ n := by
  have h1 := rn_r (P := pLe) (T := T) (n - s) s
  have h2 := rn_r (P := pDi) (T := T) (n - s) s
  unfold te
  by_cases c : s < n
  · repeat' split
    all_goals omega
  · have : kd T n s = 0 := by unfold kd; rw [if_neg c]
    rw [this]
    repeat' split
    all_goals omega
theorem te_L {T : Nat → Int} {n l0 L s : Nat} (hl : ln T n l0 L) (h0 : l0 ≤ s) (h : s ≤ L) : s ≤ te T n s ∧ te T n s ≤ L := by
  have h1 := hl.r (P := pLe) (i := s) (by decide) h
  have h2 := hl.r (P := pDi) (i := s) (by decide) h
  have h3 := kd_0 hl h0 h
  unfold te
  repeat' split
  all_goals omega
theorem nv_r {T : Nat → Int} {n s : Nat} : 0 ≤ nv T n s ∧ nv T n s ≤ 1000000 := by
  have := (nu_nw (T := T) (n - s) s 0 0 (by omega) (by decide)).2
  have g := (nu_nw (T := T) (n - s) s 0 0 (by omega) (by decide)).1
  unfold nv
  split
  · rw [this]; split <;> omega
  · omega
section PP
variable {F n l0 L : Nat} {T S : Nat → Int} {BU BM Mu Mm : bz_Mm}
theorem GU.nx (hF : 601 < F) (ht : tx T S n) (h : GU T n BU Mu) : ∃ b : Nat, b ≤ n ∧ Mu 50 5 = b ∧ fUX_next F Mu = some (nm Mu T n b) ∧ GU T n BU (nm Mu T n b) ∧ skp T n b ≤ n := by
  obtain ⟨h1, h2, ⟨b, h3, h4⟩, h5, h6⟩ := h
  have hs := skp_r (T := T) h3
  have he := te_r (T := T) hs.2
  refine ⟨b, h3, h4, uUX_next (by omega) ht h1 h2 h4 h3, ⟨by rw [nm_o (by decide)]; exact h1, by rw [nm_2]; exact h2, ⟨_, he.2, nm_5⟩, by rw [nm_7]; exact h5, fun a x y => by rw [nm_o x]; exact h6 a x y⟩, hs.2⟩
theorem GM.sk (hF : 601 < F) (ht : tx T S n) (hL : L ≤ n) (h : GM S n L BM Mm) : ∃ a : Nat, a ≤ 600 ∧ Mm 81 38 = a ∧ fM_skips F Mm = some (st_ Mm 81 38 ((rn pSp T a (L - a) : Nat) : Int)) ∧ GM S n L BM (st_ Mm 81 38 ((rn pSp T a (L - a) : Nat) : Int)) := by
  obtain ⟨h1, h2, h3, ⟨a, h4, h5⟩, h6, h7, h8, h9⟩ := h
  have hr := rn_r (P := pSp) (T := T) (L - a) a
  have hn := ht.1
  refine ⟨a, h4, h5, uM_skips hF ht hL h1 h3 h5 (by omega), ?_, ?_, ?_, ⟨_, ?_, by rw [st_eq, ud_eq]⟩, ?_, fun q x y => ?_, fun j x y z => ?_, fun f w x y => ?_⟩
  · rw [st_ne (by decide)]; exact h1
  · rw [st_eq, ud_ne (by decide)]; exact h2
  · rw [st_eq, ud_ne (by decide)]; exact h3
  · omega
  · rw [st_eq, ud_ne (by decide)]; exact h6
  · rw [st_ne x]; exact h7 q x y
  · rw [st_eq, ud_ne x]; exact h8 j x y z
  · rw [st_ne (by omega)]; exact h9 f w x y
theorem GM.at (h : GM S n L BM Mm) {e : Nat} (he : e ≤ 600) : GM S n L BM (st_ Mm 81 38 (e : Int)) := by
  obtain ⟨h1, h2, h3, ⟨a, h4, h5⟩, h6, h7, h8, h9⟩ := h
  refine ⟨?_, ?_, ?_, ⟨_, he, by rw [st_eq, ud_eq]⟩, ?_, fun q x y => ?_, fun j x y z => ?_, fun f w x y => ?_⟩
  · rw [st_ne (by decide)]; exact h1
  · rw [st_eq, ud_ne (by decide)]; exact h2
  · rw [st_eq, ud_ne (by decide)]; exact h3
  · rw [st_eq, ud_ne (by decide)]; exact h6
  · rw [st_ne x]; exact h7 q x y
  · rw [st_eq, ud_ne x]; exact h8 j x y z
  · rw [st_ne (by omega)]; exact h9 f w x y
theorem GM.fa (h : GM S n L BM Mm) {e : Nat} (he : e ≤ 601) : GM S n L BM (st_ Mm 81 40 (e : Int)) := by
  obtain ⟨h1, h2, h3, ⟨a, h4, h5⟩, h6, h7, h8, h9⟩ := h
  refine ⟨?_, ?_, ?_, ⟨a, h4, by rw [st_eq, ud_ne (by decide)]; exact h5⟩, ?_, fun q x y => ?_, fun j x y z => ?_, fun f w x y => ?_⟩
  · rw [st_ne (by decide)]; exact h1
  · rw [st_eq, ud_ne (by decide)]; exact h2
  · rw [st_eq, ud_ne (by decide)]; exact h3
  · rw [st_eq, ud_eq]; omega
  · rw [st_ne x]; exact h7 q x y
  · rw [st_eq, ud_ne z]; exact h8 j x y z
  · rw [st_ne (by omega)]; exact h9 f w x y
theorem GU.fa (h : GU T n BU Mu) {e : Nat} (he : e ≤ 601) : GU T n BU (st_ Mu 50 7 (e : Int)) := by
  obtain ⟨h1, h2, ⟨b, h3, h4⟩, h5, h6⟩ := h
  exact ⟨by rw [st_ne (by decide)]; exact h1, by rw [st_eq, ud_ne (by decide)]; exact h2, ⟨b, h3, by rw [st_eq, ud_ne (by decide)]; exact h4⟩, by rw [st_eq, ud_eq]; omega, fun a x y => by rw [st_ne x]; exact h6 a x y⟩
/-- from between tokens to the next one -/
theorem GG.to (hF : 601 < F) (ht : tx T S n) (hl : ln T n l0 L) (h : GG T S n l0 L BU BM Mu Mm) (h0 : Mu 50 7 = -1) : ∃ (Mu' Mm' : bz_Mm) (s : Nat), fUX_next F Mu = some Mu' ∧ fM_skips F Mm = some Mm' ∧ CC T S n l0 L BU BM Mu' Mm' s := by
  obtain ⟨hu, hm, hf, hk⟩ := h
  obtain ⟨b, a, k1, k2, k3, k4, k5, k6, k7, k8⟩ := hk h0
  obtain ⟨b', u1, u2, u3, u4, u5⟩ := hu.nx hF ht
  obtain ⟨a', m1, m2, m3, m4⟩ := hm.sk hF ht hl.2.1
  have eb : b' = b := by omega
  have ea : a' = a := by omega
  subst eb ea
  have hc := hl.c (P := pSp) (i := a') (by decide) k4
  have hr := hl.r (P := pSp) (i := a') (by decide) k4
  rw [hc] at m3 m4
  have e1 : rn pSp T a' (n - a') = skp T n b' := by rw [k7]; rfl
  rw [e1] at m3 m4 hr
  refine ⟨_, _, skp T n b', u3, m3, u4, m4, by rw [nm_7]; exact h0, by rw [st_eq, ud_ne (by decide), ← hf]; exact h0, by omega, hr.2, nm_3, nm_4, nm_5, nm_6, by rw [st_eq, ud_eq], ?_, skp_2 u1⟩
  intro f w x y
  rw [nm_o (by decide), st_ne (by omega)]
  exact k8 f w x y
/-- a fault at the token that stands there -/
theorem CC.fa (ht : tx T S n) (hl : ln T n l0 L) {s : Nat} (h : CC T S n l0 L BU BM Mu Mm s) : GG T S n l0 L BU BM (st_ Mu 50 7 (s : Int)) (st_ Mm 81 40 (s : Int)) := by
  obtain ⟨hu, hm, c1, c2, c3, c4, c5, c6, c7, c8, c9, c10, c11⟩ := h
  have h1 := ht.1
  have h2 := hl.2.1
  refine ⟨hu.fa (by omega), hm.fa (by omega), by rw [st_eq, ud_eq, st_eq, ud_eq], fun q => ?_⟩
  rw [st_eq, ud_eq] at q
  omega
/-- the token is taken -/
theorem CC.go (ht : tx T S n) (hl : ln T n l0 L) {s : Nat} (h : CC T S n l0 L BU BM Mu Mm s) : GG T S n l0 L BU BM Mu (st_ Mm 81 38 (te T n s : Int)) := by
  obtain ⟨hu, hm, c1, c2, c3, c4, c5, c6, c7, c8, c9, c10, c11⟩ := h
  have h1 := ht.1
  have h2 := hl.2.1
  have h3 := te_L hl c3 c4
  refine ⟨hu, hm.at (by omega), by rw [st_eq, ud_ne (by decide), c1, c2], fun _ => ⟨te T n s, te T n s, by omega, h3.2, by omega, h3.2, c7, by rw [st_eq, ud_eq], rfl, fun f w x y => ?_⟩⟩
  rw [st_ne (by omega)]
  exact c10 f w x y
theorem want_0 {x : Int} (hx : w32 x = 0) (h : Mu 50 7 = -1) : fUX_want F Mu x = some (st_ Mu 50 7 (Mu 50 4)) := by
  unfold fUX_want
  rw [if_pos hx, h, if_pos (by decide), wf_s]
theorem want_1 {x : Int} (hx : ¬ w32 x = 0) : fUX_want F Mu x = some Mu := by
  unfold fUX_want
  rw [if_neg hx]
theorem want_f {x : Int} (h : -1 ≤ Mu 50 7 ∧ Mu 50 7 ≤ 601) (h2 : ¬ Mu 50 7 = -1) : fUX_want F Mu x = some Mu := by
  unfold fUX_want
  rw [w32_id (x := Mu 50 7) (by omega) (by omega), if_neg h2]
  split <;> rfl
theorem fails_0 (h : Mm 81 40 = -1) : fM_fails F Mm = some (st_ Mm 81 40 (Mm 81 38)) := by
  unfold fM_fails
  rw [h, if_pos (by decide), wf_s]
theorem w32_f {x : Int} (h : -1 ≤ x ∧ x ≤ 601) : w32 x = -1 ↔ x = -1 := by
  rw [w32_id (by omega) (by omega)]
/-! a word that must stand there -/
theorem op_W (hF : 601 < F) (ht : tx T S n) (hl : ln T n l0 L) {w : Nat} (hw : w < 18) (h : GG T S n l0 L BU BM Mu Mm) : ∃ Mu' Mm' : bz_Mm, fUX_wantWord F Mu w = some Mu' ∧ fM_word F Mm w = some Mm' ∧ GG T S n l0 L BU BM Mu' Mm' := by
  unfold fUX_wantWord fM_word
  by_cases h0 : Mu 50 7 = -1
  · obtain ⟨Mu', Mm', s, a1, a2, hc⟩ := h.to hF ht hl h0
    have hc0 := hc
    obtain ⟨hu, hm, c1, c2, c3, c4, c5, c6, c7, c8, c9, c10, c11⟩ := hc
    obtain ⟨x, x1, x2⟩ := uUX_isWord (F := F) (by omega) hw ht hu.1 c6 (by have := hl.2.1; omega) c5 c7
    obtain ⟨y, y1, y2⟩ := uM_isWord (F := F) (by omega) hw ht hl hm.1 hm.2.2.1 c9 c4
    rw [a1, a2, cl_s, cl_s, x1, cl_s, if_pos (by rw [c2]; decide), y1, cl_s]
    by_cases c : wd T n s w
    · have hk := wd_kd hw (by have := hl.2.1; omega) c
      rw [want_1 (fun q => x2.mp q c), cl_s, if_neg (fun q => y2.mp q c), uM_wordEnd (by omega) ht hl.2.1 hm.1 hm.2.2.1 c9 c4, cl_s, wf_s]
      refine ⟨_, _, rfl, rfl, ?_⟩
      have e : te T n s = rn pLe T s (L - s) := by
        rw [hl.c (by decide) c4]
        unfold te
        rw [if_neg (by omega), if_pos hk]
      rw [← e]
      exact hc0.go ht hl
    · rw [want_0 (x2.mpr c) c1, cl_s, if_pos (y2.mpr c), fails_0 c2, cl_s, c6, c9]
      exact ⟨_, _, rfl, rfl, hc0.fa ht hl⟩
  · obtain ⟨hu, hm, hf, hk⟩ := h
    obtain ⟨b, u1, u2, u3, u4, u5⟩ := hu.nx hF ht
    obtain ⟨a, m1, m2, m3, m4⟩ := hm.sk hF ht hl.2.1
    have g1 : ¬ nm Mu T n b 50 7 = -1 := by rw [nm_7]; exact h0
    obtain ⟨x, x1, x2⟩ := uUX_isWord (F := F) (by omega) hw ht u4.1 nm_4 u5 nm_3 nm_5
    rw [u3, m3, cl_s, cl_s, x1, cl_s, want_f u4.2.2.2.1 g1, cl_s]
    have e1 : st_ Mm 81 38 ((rn pSp T a (L - a) : Nat) : Int) 81 40 = Mm 81 40 := by rw [st_eq, ud_ne (by decide)]
    rw [if_neg (by rw [e1, ← hf, w32_f hu.2.2.2.1]; exact h0)]
    exact ⟨_, _, rfl, rfl, u4, m4, by rw [nm_7, e1]; exact hf, fun q => absurd q g1⟩
end PP
