/-! a rule -/
section PS
variable {F n l0 L : Nat} {T S : Nat → Int} {BU BM Mu Mm : bz_Mm}
theorem br_3 (hF : 601 < F) (ht : tx T S n) (hl : ln T n l0 L) {f : Nat} {a : Int} (hf : f < 5) (ha : a = ((f * 12 : Nat) : Int)) (h : GG T S n l0 L BU BM Mu Mm) : ∃ Mu' Mm' : bz_Mm, (cl2_ (fUX_wantNumber F Mu 5000) fun x1 m1 => wa_ m1 52 (a + 0) 60 x1 fun p1 => some p1) = some Mu' ∧ (cl2_ (fM_number F Mm 5000) fun x1 m1 => cl_ (fM_sets F m1 (f : Int) 0 x1) fun p1 => some p1) = some Mm' ∧ GG T S n l0 L BU BM Mu' Mm' := by
  obtain ⟨x1, y1, U1, V1, a1, b1, c1, d1, e1, f1⟩ := op_N hF ht hl (k := 5000) (by decide) h
  obtain ⟨W1, g1, k1⟩ := op_S (F := F) (f := f) (w := 0) (x := x1) (y := y1) hf (by decide) (rl_num e1 (by decide)) c1 f1
  rw [show ((0 : Nat) : Int) = 0 from rfl] at g1
  rw [a1, cl2_s, wa52 (w := 0) (W := 0) rfl ha hf (by decide), b1, cl2_s, g1, cl_s]
  exact ⟨_, _, rfl, rfl, k1⟩
theorem br_4 (hF : 601 < F) (ht : tx T S n) (hl : ln T n l0 L) {f : Nat} {a : Int} (hf : f < 5) (ha : a = ((f * 12 : Nat) : Int)) (h : GG T S n l0 L BU BM Mu Mm) : ∃ Mu' Mm' : bz_Mm, (cl2_ (fUX_wantNumber F Mu 1000) fun x1 m1 => wa_ m1 52 (a + 1) 60 x1 fun p1 => (cl_ (fUX_wantWord F p1 5) fun p2 => (cl2_ (fUX_wantNumber F p2 10000) fun x3 m3 => wa_ m3 52 (a + 2) 60 x3 fun p3 => some p3))) = some Mu' ∧ (cl2_ (fM_number F Mm 1000) fun x1 m1 => cl_ (fM_sets F m1 (f : Int) 1 x1) fun p1 => (cl_ (fM_word F p1 5) fun p2 => (cl2_ (fM_number F p2 10000) fun x3 m3 => cl_ (fM_sets F m3 (f : Int) 2 x3) fun p3 => some p3))) = some Mm' ∧ GG T S n l0 L BU BM Mu' Mm' := by
  obtain ⟨x1, y1, U1, V1, a1, b1, c1, d1, e1, f1⟩ := op_N hF ht hl (k := 1000) (by decide) h
  obtain ⟨W1, g1, k1⟩ := op_S (F := F) (f := f) (w := 1) (x := x1) (y := y1) hf (by decide) (rl_num e1 (by decide)) c1 f1
  rw [show ((1 : Nat) : Int) = 1 from rfl] at g1
  obtain ⟨U2, V2, a2, b2, k2⟩ := op_W hF ht hl (w := 5) (by decide) k1
  obtain ⟨x3, y3, U3, V3, a3, b3, c3, d3, e3, f3⟩ := op_N hF ht hl (k := 10000) (by decide) k2
  obtain ⟨W3, g3, k3⟩ := op_S (F := F) (f := f) (w := 2) (x := x3) (y := y3) hf (by decide) (rl_num e3 (by decide)) c3 f3
  rw [show ((2 : Nat) : Int) = 2 from rfl] at g3
  rw [a1, cl2_s, wa52 (w := 1) (W := 1) rfl ha hf (by decide), a2, cl_s, a3, cl2_s, wa52 (w := 2) (W := 2) rfl ha hf (by decide), b1, cl2_s, g1, cl_s, b2, cl_s, b3, cl2_s, g3, cl_s]
  exact ⟨_, _, rfl, rfl, k3⟩
theorem br_6 (hF : 601 < F) (ht : tx T S n) (hl : ln T n l0 L) {f : Nat} {a : Int} (hf : f < 5) (ha : a = ((f * 12 : Nat) : Int)) (h : GG T S n l0 L BU BM Mu Mm) : ∃ Mu' Mm' : bz_Mm, (cl2_ (fUX_wantNumber F Mu 24) fun x1 m1 => wa_ m1 52 (a + 3) 60 x1 fun p1 => some p1) = some Mu' ∧ (cl2_ (fM_number F Mm 24) fun x1 m1 => cl_ (fM_sets F m1 (f : Int) 3 x1) fun p1 => some p1) = some Mm' ∧ GG T S n l0 L BU BM Mu' Mm' := by
  obtain ⟨x1, y1, U1, V1, a1, b1, c1, d1, e1, f1⟩ := op_N hF ht hl (k := 24) (by decide) h
  obtain ⟨W1, g1, k1⟩ := op_S (F := F) (f := f) (w := 3) (x := x1) (y := y1) hf (by decide) (rl_num e1 (by decide)) c1 f1
  rw [show ((3 : Nat) : Int) = 3 from rfl] at g1
  rw [a1, cl2_s, wa52 (w := 3) (W := 3) rfl ha hf (by decide), b1, cl2_s, g1, cl_s]
  exact ⟨_, _, rfl, rfl, k1⟩
theorem br_7 (hF : 601 < F) (ht : tx T S n) (hl : ln T n l0 L) {f : Nat} {a : Int} (hf : f < 5) (ha : a = ((f * 12 : Nat) : Int)) (h : GG T S n l0 L BU BM Mu Mm) : ∃ Mu' Mm' : bz_Mm, (cl_ (fUX_wantWord F Mu 8) fun p1 => (cl2_ (fUX_wantNumber F p1 5000) fun x2 m2 => wa_ m2 52 (a + 4) 60 x2 fun p2 => some p2)) = some Mu' ∧ (cl_ (fM_word F Mm 8) fun p1 => (cl2_ (fM_number F p1 5000) fun x2 m2 => cl_ (fM_sets F m2 (f : Int) 4 x2) fun p2 => some p2)) = some Mm' ∧ GG T S n l0 L BU BM Mu' Mm' := by
  obtain ⟨U1, V1, a1, b1, k1⟩ := op_W hF ht hl (w := 8) (by decide) h
  obtain ⟨x2, y2, U2, V2, a2, b2, c2, d2, e2, f2⟩ := op_N hF ht hl (k := 5000) (by decide) k1
  obtain ⟨W2, g2, k2⟩ := op_S (F := F) (f := f) (w := 4) (x := x2) (y := y2) hf (by decide) (rl_num e2 (by decide)) c2 f2
  rw [show ((4 : Nat) : Int) = 4 from rfl] at g2
  rw [a1, cl_s, a2, cl2_s, wa52 (w := 4) (W := 4) rfl ha hf (by decide), b1, cl_s, b2, cl2_s, g2, cl_s]
  exact ⟨_, _, rfl, rfl, k2⟩
theorem br_9 (hF : 601 < F) (ht : tx T S n) (hl : ln T n l0 L) {f : Nat} {a : Int} (hf : f < 5) (ha : a = ((f * 12 : Nat) : Int)) (h : GG T S n l0 L BU BM Mu Mm) : ∃ Mu' Mm' : bz_Mm, (cl2_ (fUX_wantNumber F Mu 100000) fun x1 m1 => wa_ m1 52 (a + 5) 60 x1 fun p1 => (cl_ (fUX_wantWord F p1 10) fun p2 => (cl2_ (fUX_wantParty F p2) fun x3 m3 => wa_ m3 52 (a + 6) 60 x3 fun p3 => some p3))) = some Mu' ∧ (cl2_ (fM_number F Mm 100000) fun x1 m1 => cl_ (fM_sets F m1 (f : Int) 5 x1) fun p1 => (cl_ (fM_word F p1 10) fun p2 => (cl2_ (fM_party F p2) fun x3 m3 => cl_ (fM_sets F m3 (f : Int) 6 x3) fun p3 => some p3))) = some Mm' ∧ GG T S n l0 L BU BM Mu' Mm' := by
  obtain ⟨x1, y1, U1, V1, a1, b1, c1, d1, e1, f1⟩ := op_N hF ht hl (k := 100000) (by decide) h
  obtain ⟨W1, g1, k1⟩ := op_S (F := F) (f := f) (w := 5) (x := x1) (y := y1) hf (by decide) (rl_num e1 (by decide)) c1 f1
  rw [show ((5 : Nat) : Int) = 5 from rfl] at g1
  obtain ⟨U2, V2, a2, b2, k2⟩ := op_W hF ht hl (w := 10) (by decide) k1
  obtain ⟨x3, y3, U3, V3, a3, b3, c3, d3, e3, f3⟩ := op_P hF ht hl k2
  obtain ⟨W3, g3, k3⟩ := op_S (F := F) (f := f) (w := 6) (x := x3) (y := y3) hf (by decide) (rl_num e3 (by decide)) c3 f3
  rw [show ((6 : Nat) : Int) = 6 from rfl] at g3
  rw [a1, cl2_s, wa52 (w := 5) (W := 5) rfl ha hf (by decide), a2, cl_s, a3, cl2_s, wa52 (w := 6) (W := 6) rfl ha hf (by decide), b1, cl2_s, g1, cl_s, b2, cl_s, b3, cl2_s, g3, cl_s]
  exact ⟨_, _, rfl, rfl, k3⟩
theorem br_12 (hF : 601 < F) (ht : tx T S n) (hl : ln T n l0 L) {f : Nat} {a : Int} (hf : f < 5) (ha : a = ((f * 12 : Nat) : Int)) (h : GG T S n l0 L BU BM Mu Mm) : ∃ Mu' Mm' : bz_Mm, (cl2_ (fUX_wantNumber F Mu 300) fun x1 m1 => wa_ m1 52 (a + 8) 60 x1 fun p1 => (cl_ (fUX_wantWord F p1 13) fun p2 => (cl_ (fUX_wantWord F p2 10) fun p3 => (cl2_ (fUX_wantParty F p3) fun x4 m4 => wa_ m4 52 (a + 9) 60 x4 fun p4 => some p4)))) = some Mu' ∧ (cl2_ (fM_number F Mm 300) fun x1 m1 => cl_ (fM_sets F m1 (f : Int) 8 x1) fun p1 => (cl_ (fM_word F p1 13) fun p2 => (cl_ (fM_word F p2 10) fun p3 => (cl2_ (fM_party F p3) fun x4 m4 => cl_ (fM_sets F m4 (f : Int) 9 x4) fun p4 => some p4)))) = some Mm' ∧ GG T S n l0 L BU BM Mu' Mm' := by
  obtain ⟨x1, y1, U1, V1, a1, b1, c1, d1, e1, f1⟩ := op_N hF ht hl (k := 300) (by decide) h
  obtain ⟨W1, g1, k1⟩ := op_S (F := F) (f := f) (w := 8) (x := x1) (y := y1) hf (by decide) (rl_num e1 (by decide)) c1 f1
  rw [show ((8 : Nat) : Int) = 8 from rfl] at g1
  obtain ⟨U2, V2, a2, b2, k2⟩ := op_W hF ht hl (w := 13) (by decide) k1
  obtain ⟨U3, V3, a3, b3, k3⟩ := op_W hF ht hl (w := 10) (by decide) k2
  obtain ⟨x4, y4, U4, V4, a4, b4, c4, d4, e4, f4⟩ := op_P hF ht hl k3
  obtain ⟨W4, g4, k4⟩ := op_S (F := F) (f := f) (w := 9) (x := x4) (y := y4) hf (by decide) (rl_num e4 (by decide)) c4 f4
  rw [show ((9 : Nat) : Int) = 9 from rfl] at g4
  rw [a1, cl2_s, wa52 (w := 8) (W := 8) rfl ha hf (by decide), a2, cl_s, a3, cl_s, a4, cl2_s, wa52 (w := 9) (W := 9) rfl ha hf (by decide), b1, cl2_s, g1, cl_s, b2, cl_s, b3, cl_s, b4, cl2_s, g4, cl_s]
  exact ⟨_, _, rfl, rfl, k4⟩
theorem br_14 (hF : 601 < F) (ht : tx T S n) (hl : ln T n l0 L) {f : Nat} {a : Int} (hf : f < 5) (ha : a = ((f * 12 : Nat) : Int)) (h : GG T S n l0 L BU BM Mu Mm) : ∃ Mu' Mm' : bz_Mm, (cl2_ (fUX_wantNumber F Mu 90) fun x1 m1 => wa_ m1 52 (a + 10) 60 x1 fun p1 => some p1) = some Mu' ∧ (cl2_ (fM_number F Mm 90) fun x1 m1 => cl_ (fM_sets F m1 (f : Int) 10 x1) fun p1 => some p1) = some Mm' ∧ GG T S n l0 L BU BM Mu' Mm' := by
  obtain ⟨x1, y1, U1, V1, a1, b1, c1, d1, e1, f1⟩ := op_N hF ht hl (k := 90) (by decide) h
  obtain ⟨W1, g1, k1⟩ := op_S (F := F) (f := f) (w := 10) (x := x1) (y := y1) hf (by decide) (rl_num e1 (by decide)) c1 f1
  rw [show ((10 : Nat) : Int) = 10 from rfl] at g1
  rw [a1, cl2_s, wa52 (w := 10) (W := 10) rfl ha hf (by decide), b1, cl2_s, g1, cl_s]
  exact ⟨_, _, rfl, rfl, k1⟩
theorem br_15 (hF : 601 < F) (ht : tx T S n) (hl : ln T n l0 L) {f : Nat} {a : Int} (hf : f < 5) (ha : a = ((f * 12 : Nat) : Int)) (h : GG T S n l0 L BU BM Mu Mm) : ∃ Mu' Mm' : bz_Mm, (cl2_ (fUX_wantNumber F Mu 60) fun x1 m1 => wa_ m1 52 (a + 11) 60 x1 fun p1 => (cl_ (fUX_wantWord F p1 13) fun p2 => some p2)) = some Mu' ∧ (cl2_ (fM_number F Mm 60) fun x1 m1 => cl_ (fM_sets F m1 (f : Int) 11 x1) fun p1 => (cl_ (fM_word F p1 13) fun p2 => some p2)) = some Mm' ∧ GG T S n l0 L BU BM Mu' Mm' := by
  obtain ⟨x1, y1, U1, V1, a1, b1, c1, d1, e1, f1⟩ := op_N hF ht hl (k := 60) (by decide) h
  obtain ⟨W1, g1, k1⟩ := op_S (F := F) (f := f) (w := 11) (x := x1) (y := y1) hf (by decide) (rl_num e1 (by decide)) c1 f1
  rw [show ((11 : Nat) : Int) = 11 from rfl] at g1
  obtain ⟨U2, V2, a2, b2, k2⟩ := op_W hF ht hl (w := 13) (by decide) k1
  rw [a1, cl2_s, wa52 (w := 11) (W := 11) rfl ha hf (by decide), a2, cl_s, b1, cl2_s, g1, cl_s, b2, cl_s]
  exact ⟨_, _, rfl, rfl, k2⟩
theorem br_11 (hF : 601 < F) (ht : tx T S n) (hl : ln T n l0 L) {f : Nat} {a : Int} (hf : f < 5) (ha : a = ((f * 12 : Nat) : Int)) (h : GG T S n l0 L BU BM Mu Mm) (h0 : Mu 50 7 = -1) : ∃ Mu' Mm' : bz_Mm, (cl2_ (fUX_wantGains F Mu) fun x1 m1 => wa_ m1 52 (a + 7) 60 x1 fun p1 => some p1) = some Mu' ∧ (cl_ (fM_gains F Mm (f : Int)) fun m35 => some m35) = some Mm' ∧ GG T S n l0 L BU BM Mu' Mm' := by
  obtain ⟨x, U, V, a1, b1, k⟩ := sim_gains hF ht hl hf h h0
  rw [a1, cl2_s, wa52 (w := 7) (W := 7) rfl ha hf (by decide), b1, cl_s]
  exact ⟨_, _, rfl, rfl, k⟩
theorem sim_rule (hF : 601 < F) (ht : tx T S n) (hl : ln T n l0 L) {s f : Nat} {a : Int} (hf : f < 5) (ha : a = ((f * 12 : Nat) : Int)) (h : CC T S n l0 L BU BM Mu Mm s) : ∃ Mu' Mm' : bz_Mm, fUX_readRule F Mu a = some Mu' ∧ fM_rule0 F Mm (f : Int) = some Mm' ∧ GG T S n l0 L BU BM Mu' Mm' := by
  unfold fUX_readRule fM_rule0
  have c1 := h.2.2.1
  obtain ⟨x3, p3, q3⟩ := h.w hF ht hl (w := 3) (by decide)
  rw [p3, cl_s]
  by_cases c23 : wd T n s 3
  · obtain ⟨V, t1, t2⟩ := takes_y hF ht hl (by decide) h c23
    rw [t1, cl2_s, if_neg (fun q => q3.mp q c23), if_neg (show ¬ w32 1 = 0 by decide)]
    exact br_3 hF ht hl hf ha t2
  rw [takes_n hF ht hl (by decide) h c23, cl2_s, if_pos (q3.mpr c23), if_pos w32_0]
  obtain ⟨x4, p4, q4⟩ := h.w hF ht hl (w := 4) (by decide)
  rw [p4, cl_s]
  by_cases c24 : wd T n s 4
  · obtain ⟨V, t1, t2⟩ := takes_y hF ht hl (by decide) h c24
    rw [t1, cl2_s, if_neg (fun q => q4.mp q c24), if_neg (show ¬ w32 1 = 0 by decide)]
    exact br_4 hF ht hl hf ha t2
  rw [takes_n hF ht hl (by decide) h c24, cl2_s, if_pos (q4.mpr c24), if_pos w32_0]
  obtain ⟨x6, p6, q6⟩ := h.w hF ht hl (w := 6) (by decide)
  rw [p6, cl_s]
  by_cases c26 : wd T n s 6
  · obtain ⟨V, t1, t2⟩ := takes_y hF ht hl (by decide) h c26
    rw [t1, cl2_s, if_neg (fun q => q6.mp q c26), if_neg (show ¬ w32 1 = 0 by decide)]
    exact br_6 hF ht hl hf ha t2
  rw [takes_n hF ht hl (by decide) h c26, cl2_s, if_pos (q6.mpr c26), if_pos w32_0]
  obtain ⟨x7, p7, q7⟩ := h.w hF ht hl (w := 7) (by decide)
  rw [p7, cl_s]
  by_cases c27 : wd T n s 7
  · obtain ⟨V, t1, t2⟩ := takes_y hF ht hl (by decide) h c27
    rw [t1, cl2_s, if_neg (fun q => q7.mp q c27), if_neg (show ¬ w32 1 = 0 by decide)]
    exact br_7 hF ht hl hf ha t2
  rw [takes_n hF ht hl (by decide) h c27, cl2_s, if_pos (q7.mpr c27), if_pos w32_0]
  obtain ⟨x9, p9, q9⟩ := h.w hF ht hl (w := 9) (by decide)
  rw [p9, cl_s]
  by_cases c29 : wd T n s 9
  · obtain ⟨V, t1, t2⟩ := takes_y hF ht hl (by decide) h c29
    rw [t1, cl2_s, if_neg (fun q => q9.mp q c29), if_neg (show ¬ w32 1 = 0 by decide)]
    exact br_9 hF ht hl hf ha t2
  rw [takes_n hF ht hl (by decide) h c29, cl2_s, if_pos (q9.mpr c29), if_pos w32_0]
  obtain ⟨x11, p11, q11⟩ := h.w hF ht hl (w := 11) (by decide)
  rw [p11, cl_s]
  by_cases c31 : wd T n s 11
  · obtain ⟨V, t1, t2⟩ := takes_y hF ht hl (by decide) h c31
    rw [t1, cl2_s, if_neg (fun q => q11.mp q c31), if_neg (show ¬ w32 1 = 0 by decide)]
    exact br_11 hF ht hl hf ha t2 c1
  rw [takes_n hF ht hl (by decide) h c31, cl2_s, if_pos (q11.mpr c31), if_pos w32_0]
  obtain ⟨x12, p12, q12⟩ := h.w hF ht hl (w := 12) (by decide)
  rw [p12, cl_s]
  by_cases c32 : wd T n s 12
  · obtain ⟨V, t1, t2⟩ := takes_y hF ht hl (by decide) h c32
    rw [t1, cl2_s, if_neg (fun q => q12.mp q c32), if_neg (show ¬ w32 1 = 0 by decide)]
    exact br_12 hF ht hl hf ha t2
  rw [takes_n hF ht hl (by decide) h c32, cl2_s, if_pos (q12.mpr c32), if_pos w32_0]
  obtain ⟨x14, p14, q14⟩ := h.w hF ht hl (w := 14) (by decide)
  rw [p14, cl_s]
  by_cases c34 : wd T n s 14
  · obtain ⟨V, t1, t2⟩ := takes_y hF ht hl (by decide) h c34
    rw [t1, cl2_s, if_neg (fun q => q14.mp q c34), if_neg (show ¬ w32 1 = 0 by decide)]
    exact br_14 hF ht hl hf ha t2
  rw [takes_n hF ht hl (by decide) h c34, cl2_s, if_pos (q14.mpr c34), if_pos w32_0]
  obtain ⟨x15, p15, q15⟩ := h.w hF ht hl (w := 15) (by decide)
  rw [p15, cl_s]
  by_cases c35 : wd T n s 15
  · obtain ⟨V, t1, t2⟩ := takes_y hF ht hl (by decide) h c35
    rw [t1, cl2_s, if_neg (fun q => q15.mp q c35), if_neg (show ¬ w32 1 = 0 by decide)]
    exact br_15 hF ht hl hf ha t2
  rw [takes_n hF ht hl (by decide) h c35, cl2_s, if_pos (q15.mpr c35), if_pos w32_0]
  rw [want_0 w32_0 c1, cl_s, fails_0 h.2.2.2.1, cl_s, h.2.2.2.2.2.2.2.1, h.2.2.2.2.2.2.2.2.2.2.1]
  exact ⟨_, _, rfl, rfl, h.fa ht hl⟩
end PS
