/-! a line -/
/-- after a line -/
def LNE (T S : Nat → Int) (n L : Nat) (BU BM Mu Mm : bz_Mm) : Prop := (Mu 51 = T ∧ Mu 50 2 = n ∧ (-1 ≤ Mu 50 7 ∧ Mu 50 7 ≤ 601) ∧ ∀ a, a ≠ 50 → a ≠ 52 → Mu a = BU a) ∧ (Mm 110 = S ∧ Mm 81 37 = n ∧ Mm 81 39 = L ∧ (-1 ≤ Mm 81 40 ∧ Mm 81 40 ≤ 601) ∧ (∀ q, q ≠ 81 → (q < 149 ∨ 153 < q) → Mm q = BM q) ∧ (∀ j, j ≠ 38 → j ≠ 39 → j ≠ 40 → Mm 81 j = BM 81 j) ∧ ∀ f w, f < 5 → w < 12 → vok w (Mm (149 + f) w)) ∧ Mu 50 7 = Mm 81 40 ∧ (Mu 50 7 = -1 → Mu 50 5 = (L : Int) + 1 ∧ rle Mu Mm)
section PT
variable {F n l0 L : Nat} {T S : Nat → Int} {BU BM Mu Mm : bz_Mm}
theorem LNE.of (hu : GU T n BU Mu) (hm : GM S n L BM Mm) (hf : Mu 50 7 = Mm 81 40) {e : Int} (hk : Mu 50 7 = -1 → e = (L : Int) + 1 ∧ rle Mu Mm) : LNE T S n L BU BM (st_ Mu 50 5 e) Mm := by
  obtain ⟨u1, u2, ⟨b, u3, u4⟩, u5, u6⟩ := hu
  obtain ⟨m1, m2, m3, ⟨a, m4, m5⟩, m6, m7, m8, m9⟩ := hm
  refine ⟨⟨by rw [st_ne (by decide)]; exact u1, by rw [st_eq, ud_ne (by decide)]; exact u2, by rw [st_eq, ud_ne (by decide)]; exact u5, fun a x y => by rw [st_ne x]; exact u6 a x y⟩, ⟨m1, m2, m3, m6, m7, m8, m9⟩, by rw [st_eq, ud_ne (by decide)]; exact hf, fun q => ?_⟩
  rw [st_eq, ud_ne (by decide)] at q
  obtain ⟨k1, k2⟩ := hk q
  refine ⟨by rw [st_eq, ud_eq]; exact k1, fun f w x y => ?_⟩
  rw [st_ne (by decide)]; exact k2 f w x y
theorem LNE.fa (hu : GU T n BU Mu) (hm : GM S n L BM Mm) (hf : Mu 50 7 = Mm 81 40) (hn : ¬ Mu 50 7 = -1) {e : Int} : LNE T S n L BU BM Mu (st_ Mm 81 38 e) := by
  obtain ⟨u1, u2, ⟨b, u3, u4⟩, u5, u6⟩ := hu
  obtain ⟨m1, m2, m3, ⟨a, m4, m5⟩, m6, m7, m8, m9⟩ := hm
  exact ⟨⟨u1, u2, u5, u6⟩, ⟨by rw [st_ne (by decide)]; exact m1, by rw [st_eq, ud_ne (by decide)]; exact m2, by rw [st_eq, ud_ne (by decide)]; exact m3, by rw [st_eq, ud_ne (by decide)]; exact m6, fun q x y => by rw [st_ne x]; exact m7 q x y, fun j x y z => by rw [st_eq, ud_ne x]; exact m8 j x y z, fun f w x y => by rw [st_ne (by omega)]; exact m9 f w x y⟩, by rw [st_eq, ud_ne (by decide)]; exact hf, fun q => absurd q hn⟩
theorem sim_end (hF : 601 < F) (ht : tx T S n) (hl : ln T n l0 L) (h : GG T S n l0 L BU BM Mu Mm) : ∃ Mu' Mm' : bz_Mm, (cl_ (fUX_next F Mu) fun m4 => cl1_ (if w32 (m4 50 3) = 0 then (some (1 : Int)) else (some (0))) fun v6 => cl_ (fUX_want F m4 v6) fun m7 => wf_ m7 50 5 ((m7 50 4) + 1) fun m8 => some m8) = some Mu' ∧ (cl_ (fM_skips F Mm) fun m17 => if w32 (m17 81 38) < w32 (m17 81 39) then (cl_ (fM_fails F m17) fun m18 => some m18) else (some m17)) = some Mm' ∧ LNE T S n L BU BM Mu' Mm' := by
  have hn := ht.1
  have hLn := hl.2.1
  by_cases h0 : Mu 50 7 = -1
  · obtain ⟨Mu', Mm', s, a1, a2, hc⟩ := h.to hF ht hl h0
    have hc0 := hc
    obtain ⟨hu, hm, c1, c2, c3, c4, c5, c6, c7, c8, c9, c10, c11⟩ := hc
    have k0 := kd_0 hl c3 c4
    have kr := kd_r T n s
    rw [a1, a2, cl_s, cl_s, c5, w32_id (x := kd T n s) (by omega) (by omega), c9, hm.2.2.1, w32_id (x := (s : Int)) (by omega) (by omega), w32_id (x := (L : Int)) (by omega) (by omega)]
    by_cases c : s = L
    · rw [if_pos (k0.mpr c), cl1_s, want_1 (by decide), cl_s, wf_s, if_neg (by omega), c6]
      exact ⟨_, _, rfl, rfl, LNE.of hu hm (by rw [c1, c2]) (fun _ => ⟨by rw [c], c10⟩)⟩
    · rw [if_neg (fun q => c (k0.mp q)), cl1_s, want_0 w32_0 c1, cl_s, wf_s, if_pos (by omega), fails_0 c2, cl_s, c6, c9]
      obtain ⟨g1, g2, g3, g4⟩ := hc0.fa ht hl
      refine ⟨_, _, rfl, rfl, LNE.of g1 g2 g3 (fun q => ?_)⟩
      rw [st_eq, ud_eq] at q
      omega
  · obtain ⟨hu, hm, hf, hkk⟩ := h
    obtain ⟨b, u1, u2, u3, u4, u5⟩ := hu.nx hF ht
    obtain ⟨a, m1, m2, m3, m4⟩ := hm.sk hF ht hl.2.1
    have g1 : ¬ nm Mu T n b 50 7 = -1 := by rw [nm_7]; exact h0
    have e1 : st_ Mm 81 38 ((rn pSp T a (L - a) : Nat) : Int) 81 40 = Mm 81 40 := by rw [st_eq, ud_ne (by decide)]
    have ff : fM_fails F (st_ Mm 81 38 ((rn pSp T a (L - a) : Nat) : Int)) = some (st_ Mm 81 38 ((rn pSp T a (L - a) : Nat) : Int)) := by
      unfold fM_fails
      rw [if_neg (by rw [e1, ← hf, w32_f hu.2.2.2.1]; exact h0)]
    have hv : ∃ v : Int, (if w32 (nm Mu T n b 50 3) = 0 then some (1 : Int) else some 0) = some v := by
      by_cases q : w32 (nm Mu T n b 50 3) = 0
      · exact ⟨1, if_pos q⟩
      · exact ⟨0, if_neg q⟩
    obtain ⟨v, hv⟩ := hv
    rw [u3, m3, cl_s, cl_s, hv, cl1_s, want_f u4.2.2.2.1 g1, cl_s, wf_s, ff, cl_s]
    refine ⟨_, st_ Mm 81 38 ((rn pSp T a (L - a) : Nat) : Int), rfl, ?_, LNE.of u4 m4 (by rw [nm_7, e1]; exact hf) (fun q => absurd q g1)⟩
    split <;> rfl
theorem sim_line (hF : 601 < F) (ht : tx T S n) (hl : ln T n l0 L) (h : GG T S n l0 L BU BM Mu Mm) (h0 : Mu 50 7 = -1) : ∃ Mu' Mm' : bz_Mm, fUX_readLine F Mu = some Mu' ∧ fM_line F Mm = some Mm' ∧ LNE T S n L BU BM Mu' Mm' := by
  have hn := ht.1
  have hLn := hl.2.1
  obtain ⟨Mu1, Mm1, s, a1, a2, hc⟩ := h.to hF ht hl h0
  have hc0 := hc
  obtain ⟨x, x1, x2⟩ := hc.w hF ht hl (w := 0) (by decide)
  obtain ⟨hu, hm, c1, c2, c3, c4, c5, c6, c7, c8, c9, c10, c11⟩ := hc
  have k0 := kd_0 hl c3 c4
  have kr := kd_r T n s
  unfold fUX_readLine fM_line
  rw [a1, a2, cl_s, cl_s, x1, cl_s, c5, w32_id (x := kd T n s) (by omega) (by omega), c9, hm.2.2.1, w32_id (x := (s : Int)) (by omega) (by omega), w32_id (x := (L : Int)) (by omega) (by omega)]
  by_cases c : s = L
  · have nw : ¬ wd T n s 0 := fun q => by have := wd_kd (by decide) (by omega) q; have := k0.mpr c; omega
    rw [if_pos (x2.mpr nw), if_pos (k0.mpr c), if_pos (by omega), wf_s, c6]
    exact ⟨_, _, rfl, rfl, LNE.of hu hm (by rw [c1, c2]) (fun _ => ⟨by rw [c], c10⟩)⟩
  · have kn : ¬ kd T n s = 0 := fun q => c (k0.mp q)
    rw [if_neg (c := (s : Int) = (L : Int)) (by omega), if_neg kn]
    by_cases cw : wd T n s 0
    · obtain ⟨V, t1, t2⟩ := takes_y hF ht hl (by decide) hc0 cw
      rw [if_neg (fun q => x2.mp q cw), t1, cl2_s, if_neg (show ¬ w32 1 = 0 by decide)]
      obtain ⟨xu, xm, U2, V2, n1, n2, n3, n4, n5, n6⟩ := op_N hF ht hl (k := 3) (by decide) t2
      rw [n1, n2, cl2_s, cl2_s]
      by_cases hf2 : U2 50 7 = -1
      · obtain ⟨U3, V3, s3, b1, b2, hd⟩ := n3.to hF ht hl hf2
        have hd0 := hd
        obtain ⟨du, dm, d1, d2, d3, d4, d5, d6, d7, d8, d9, d10, d11⟩ := hd
        have k3 := kd_0 hl d3 d4
        have kr3 := kd_r T n s3
        have exy := n6 hf2
        rw [b1, b2, cl_s, cl_s, d5, w32_id (x := kd T n s3) (by omega) (by omega), d2, if_pos (show w32 (-1) = -1 by decide), d9, dm.2.2.1, w32_id (x := (s3 : Int)) (by omega) (by omega), w32_id (x := (L : Int)) (by omega) (by omega)]
        by_cases ck : kd T n s3 = 3
        · have s3L : s3 < L := by
            by_cases q : s3 = L
            · have := k3.mpr q; omega
            · omega
          have t58 : T s3 = 58 := by
            unfold kd at ck
            rw [if_pos (by omega)] at ck
            revert ck
            repeat' split
            all_goals first | (intro; omega) | (intro; assumption)
          obtain ⟨y1, y2⟩ := ht.2 s3 (by omega)
          have sb58 : sb (T s3) = 58 := by rw [t58]; rfl
          have ete : te T n s3 = s3 + 1 := by unfold te; rw [if_pos ck]
          rw [if_pos ck, cl1_s, want_1 (by decide), cl_s, if_neg (by omega), rd_s (by omega) (by decide), dm.1, y2, sb58, if_pos (by decide), cl1_s, wf_s]
          have gg := hd0.go ht hl
          rw [ete] at gg
          have e5 : ((s3 + 1 : Nat) : Int) = (s3 : Int) + 1 := by omega
          rw [e5] at gg
          obtain ⟨U4, V4, s4, f1, f2, he⟩ := gg.to hF ht hl d1
          obtain ⟨xf, hxf⟩ : ∃ q : Nat, xu = q := ⟨xu.toNat, by omega⟩
          obtain ⟨U5, V5, r1, r2, r3⟩ := sim_rule hF ht hl (f := xf) (a := xu * 12) (by omega) (by omega) he
          obtain ⟨U6, V6, q1, q2, q3⟩ := sim_end hF ht hl r3
          rw [d9, f1, f2, cl_s, cl_s, cl2_s, he.2.2.1, he.2.2.2.1, if_pos (show w32 (-1) = -1 by decide), if_pos (show w32 (-1) = -1 by decide), r1, cl_s, ← exy, hxf, r2, cl_s, q1, q2]
          exact ⟨_, _, rfl, rfl, q3⟩
        · obtain ⟨g1, g2, g3, g4⟩ := hd0.fa ht hl
          have gn : ¬ st_ U3 50 7 (s3 : Int) 50 7 = -1 := by rw [st_eq, ud_eq]; omega
          obtain ⟨b', u1, u2, u3, u4, u5⟩ := g1.nx hF ht
          have un : ¬ nm (st_ U3 50 7 (s3 : Int)) T n b' 50 7 = -1 := by rw [nm_7]; exact gn
          have refF : (if (s3 : Int) = (L : Int) then cl_ (fM_fails F V3) fun m9 => some m9 else rd_ V3 110 (s3 : Int) 600 fun x10 => if w32 x10 = 58 then some V3 else cl_ (fM_fails F V3) fun m11 => some m11) = some (st_ V3 81 40 (s3 : Int)) := by
            rw [fails_0 d2, cl_s, d9]
            by_cases q : s3 = L
            · rw [if_pos (by omega)]
            · obtain ⟨y1, y2⟩ := ht.2 s3 (by omega)
              obtain ⟨z1, z2, z3, z4, z5⟩ := sb_r y1
              rw [if_neg (by omega), rd_s (by omega) (by decide), dm.1, y2, w32_id (x := sb (T s3)) (by omega) (by omega), if_neg]
              intro t
              have t58 := (z3 58 (by decide)).mp t
              apply ck
              unfold kd
              rw [if_pos (by omega), if_neg (by omega), if_neg (by omega), if_neg (by omega), if_pos t58]
          rw [if_neg ck, cl1_s, want_0 w32_0 d1, cl_s, d6, u3, cl_s, if_neg (by rw [w32_f u4.2.2.2.1]; exact un), refF, cl1_s, wf_s]
          have e40 : st_ V3 81 40 (s3 : Int) 81 38 = s3 := by rw [st_eq, ud_ne (by decide)]; exact d9
          have e5 : ((s3 : Int) + 1) = ((s3 + 1 : Nat) : Int) := by omega
          have sk : fM_skips F (st_ (st_ V3 81 40 (s3 : Int)) 81 38 ((s3 + 1 : Nat) : Int)) = some (st_ (st_ (st_ V3 81 40 (s3 : Int)) 81 38 ((s3 + 1 : Nat) : Int)) 81 38 ((rn pSp T (s3 + 1) (L - (s3 + 1)) : Nat) : Int)) := uM_skips hF ht hLn (by rw [st_ne (by decide), st_ne (by decide)]; exact dm.1) (by rw [st_eq, ud_ne (by decide), st_eq, ud_ne (by decide)]; exact dm.2.2.1) (by rw [st_eq, ud_eq]) (by omega)
          rw [e40, e5, sk, cl_s, cl2_s, st_st]
          have e6 : st_ (st_ V3 81 40 (s3 : Int)) 81 38 ((rn pSp T (s3 + 1) (L - (s3 + 1)) : Nat) : Int) 81 40 = s3 := by rw [st_eq, ud_ne (by decide), st_eq, ud_eq]
          rw [if_neg (by rw [e6, w32_id (by omega) (by omega)]; omega)]
          exact ⟨_, _, rfl, rfl, LNE.fa u4 g2 (by rw [nm_7]; exact g3) un⟩
      · obtain ⟨gu, gm, gf, gk⟩ := n3
        obtain ⟨b', u1, u2, u3, u4, u5⟩ := gu.nx hF ht
        obtain ⟨a', m1, m2, m3, m4⟩ := gm.sk hF ht hl.2.1
        have un : ¬ nm U2 T n b' 50 7 = -1 := by rw [nm_7]; exact hf2
        obtain ⟨b2, v1, v2, v3, v4, v5⟩ := u4.nx hF ht
        have vn : ¬ nm (nm U2 T n b') T n b2 50 7 = -1 := by rw [nm_7]; exact un
        have hv : ∃ v : Int, (if w32 (nm U2 T n b' 50 3) = 3 then some (1 : Int) else some 0) = some v := by
          by_cases q : w32 (nm U2 T n b' 50 3) = 3
          · exact ⟨1, if_pos q⟩
          · exact ⟨0, if_neg q⟩
        obtain ⟨v, hv⟩ := hv
        have e1 : st_ V2 81 38 ((rn pSp T a' (L - a') : Nat) : Int) 81 40 = V2 81 40 := by rw [st_eq, ud_ne (by decide)]
        rw [u3, m3, cl_s, cl_s, hv, cl1_s, want_f u4.2.2.2.1 un, cl_s, v3, cl_s, if_neg (by rw [w32_f v4.2.2.2.1]; exact vn), if_neg (show ¬ w32 (st_ V2 81 38 ((rn pSp T a' (L - a') : Nat) : Int) 81 40) = -1 by rw [e1, ← gf, w32_f gu.2.2.2.1]; exact hf2), cl1_s, wf_s]
        have rr := rn_r (P := pSp) (T := T) (L - a') a'
        have e5 : ((rn pSp T a' (L - a') : Nat) : Int) + 1 = ((rn pSp T a' (L - a') + 1 : Nat) : Int) := by omega
        have e4 : st_ V2 81 38 ((rn pSp T a' (L - a') : Nat) : Int) 81 38 = ((rn pSp T a' (L - a') : Nat) : Int) := by rw [st_eq, ud_eq]
        rw [e4, e5]
        have sk := uM_skips (F := F) (M := st_ (st_ V2 81 38 ((rn pSp T a' (L - a') : Nat) : Int)) 81 38 ((rn pSp T a' (L - a') + 1 : Nat) : Int)) (a := rn pSp T a' (L - a') + 1) hF ht hLn (by rw [st_ne (by decide), st_ne (by decide)]; exact gm.1) (by rw [st_eq, ud_ne (by decide), st_eq, ud_ne (by decide)]; exact gm.2.2.1) (by rw [st_eq, ud_eq]) (by omega)
        rw [sk, cl_s, cl2_s, st_st, st_st]
        rw [if_neg (by rw [st_eq, ud_ne (by decide), ← gf, w32_f gu.2.2.2.1]; exact hf2)]
        exact ⟨_, _, rfl, rfl, LNE.fa v4 gm (by rw [nm_7, nm_7]; exact gf) vn⟩
    · rw [if_pos (x2.mpr cw), takes_n hF ht hl (by decide) hc0 cw, cl2_s, if_pos w32_0, cl2_s, c1, c2, if_pos (show w32 (-1) = -1 by decide), if_pos (show w32 (-1) = -1 by decide)]
      obtain ⟨U5, V5, r1, r2, r3⟩ := sim_rule hF ht hl (f := 4) (a := 4 * 12) (by decide) (by decide) hc0
      obtain ⟨U6, V6, q1, q2, q3⟩ := sim_end hF ht hl r3
      rw [show ((4 : Nat) : Int) = 4 from rfl] at r2
      rw [r1, r2, cl_s, cl_s, q1, q2]
      exact ⟨_, _, rfl, rfl, q3⟩
end PT
