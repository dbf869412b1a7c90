def M_beside_L39 (F : Nat) : Nat → bz_Mm → Int → Int → Option (Int)
  | 0, _, _, _ => none
  | n + 1, M, l5, l3 =>
    if w32 l5 < 20 then
    (rd_ M 225 l5 20 fun x2 =>
    if 0 < w64 x2 then
    (rd_ M 225 l5 20 fun x3 =>
    lt_ (l3 + x3) fun l3 =>
    M_beside_L39 F n M (l5 + 1) l3)
    else
    (lt_ (l3 + 0) fun l3 =>
    M_beside_L39 F n M (l5 + 1) l3))
    else
    (some l3)
theorem lM_beside_L39 (E : bz_E) (F : Nat) {K : bz_K} {rv : Option Value} {M1 : bz_Mm} (X : bz_X K E prog_14_method_96_code 6 "UnitsWrongModel" (some .int) 7 180 rv M1) {M : bz_Mm} {res : (Int)}
    (kx : ∀ (l3 : Int), some l3 = some res → bz_J K 6 78 [(3, bz_l l3)] [] M) :
    ∀ (n : Nat) (l5 : Int) (l3 : Int), M_beside_L39 F n M l5 l3 = some res → bz_J K 6 39 [(5, bz_i l5), (3, bz_l l3), (0, bz_rf E 81)] [] M := by
  intro n
  induction n with
  | zero => intro l5 l3 hf; cases hf
  | succ n ih =>
    intro l5 l3 hf
    rw [M_beside_L39] at hf
    refine j_iload X dM_beside_39 0 rfl ?_
    refine j_bipush X dM_beside_41 rfl ?_
    refine j_icmp_ge X (tgt := 78) rfl (w32_lit rfl) dM_beside_43 (by decide) hf (fun hf => ?_) (fun hf => ?_)
    · exact j_sub [1] rfl (kx _ hf)
    · refine j_lload_n X dM_beside_46 rfl 1 rfl ?_
      refine j_aload_n X dM_beside_47 rfl 2 rfl ?_
      refine j_geta X gf_M_178_81 dM_beside_48 ?_
      refine j_iload X dM_beside_51 0 rfl ?_
      refine j_lald X sh_225 dM_beside_53 hf (fun x2 hf => ?_)
      refine j_lconst X (v := 0) dM_beside_54 rfl ?_
      refine j_lcmp_le X (tgt := 69) rfl (w64_lit rfl) dM_beside_55 dM_beside_56 (by decide) hf (fun hf => ?_) (fun hf => ?_)
      · refine j_lconst X (v := 0) dM_beside_69 rfl ?_
        refine j_ladd X dM_beside_70 ?_
        refine j_lt (g := bz_l) hf (fun l3 hf => ?_)
        refine j_lstore_n X (lv' := [(3, bz_l l3), (5, bz_i l5), (0, bz_rf E 81)]) dM_beside_71 rfl (by decide) rfl ?_
        refine j_iinc X (y := l5 + 1) (lv' := [(5, bz_i (l5 + 1)), (3, bz_l l3), (0, bz_rf E 81)]) dM_beside_72 1 rfl rfl (by decide) rfl ?_
        refine j_goto X (tgt := 39) dM_beside_75 (by decide) ?_
        exact ih _ _ hf
      · refine j_aload_n X dM_beside_59 rfl 2 rfl ?_
        refine j_geta X gf_M_178_81 dM_beside_60 ?_
        refine j_iload X dM_beside_63 0 rfl ?_
        refine j_lald X sh_225 dM_beside_65 hf (fun x3 hf => ?_)
        refine j_goto X (tgt := 70) dM_beside_66 (by decide) ?_
        refine j_ladd X dM_beside_70 ?_
        refine j_lt (g := bz_l) hf (fun l3 hf => ?_)
        refine j_lstore_n X (lv' := [(3, bz_l l3), (5, bz_i l5), (0, bz_rf E 81)]) dM_beside_71 rfl (by decide) rfl ?_
        show bz_J _ _ 72 _ _ _
        refine j_iinc X (y := l5 + 1) (lv' := [(5, bz_i (l5 + 1)), (3, bz_l l3), (0, bz_rf E 81)]) dM_beside_72 1 rfl rfl (by decide) rfl ?_
        refine j_goto X (tgt := 39) dM_beside_75 (by decide) ?_
        exact ih _ _ hf
def fM_beside (F : Nat) (M : bz_Mm) (a1 : Int) (a2 : Int) : Option (Int × bz_Mm) :=
  if w32 (fM_isFund M a1) = 0 then
  (some (((-2147483648), M)))
  else
  (if w32 (fM_in (w32 a2) 0 5000) = 0 then
  (some (((-2147483648), M)))
  else
  (cl_ (fM_asks0 F M a1 (fM_known0 M) a2) fun m1 =>
  cl1_ (M_beside_L39 F F m1 0 0) fun l3 =>
  some ((fM_told l3, m1))))
set_option maxHeartbeats 4000000 in
set_option maxRecDepth 20000 in
theorem cM_beside (E : bz_E) (F : Nat)  {M : bz_Mm} {a1 : Int} {a2 : Int} {x0 : Int × bz_Mm} (hf : fM_beside F M a1 a2 = some x0) : bz_Ct E yM_beside (.code yM_beside prog_14_method_96_code 6 (some .int)) 7 180 [bz_rf E 81, bz_i a1, bz_i a2] M (some (bz_i x0.1)) x0.2 := by
  refine bz_met (by decide +kernel) (Nat.le_of_ble_eq_true rfl) (fun K X => ?_)
  have X : bz_X K E prog_14_method_96_code 6 "UnitsWrongModel" (some .int) 7 180 _ _ := X
  unfold fM_beside at hf
  show bz_J K 6 0 [(0, bz_rf E 81), (1, bz_i a1), (2, bz_i a2)] [] M
  refine j_aload_n X dM_beside_0 rfl 0 rfl ?_
  refine j_iload_n X dM_beside_1 rfl 1 rfl ?_
  refine j_cv X (st := []) (cM_isFund E) gyM_isFund gv_M_isFund_81 rfl (by decide) (by decide) wd_1479 rfl (Nat.le_of_ble_eq_true rfl) dM_beside_2 ?_
  refine j_if_eq X (tgt := 20) rfl dM_beside_5 (by decide) hf (fun hf => ?_) (fun hf => ?_)
  · refine j_ldcw X (v := -2147483648) wd_1448 dM_beside_20 ?_
    cases hf
    exact j_iret X dM_beside_23 rfl rfl
  · refine j_iload_n X dM_beside_8 rfl 2 rfl ?_
    refine j_i2l X rfl dM_beside_9 ?_
    refine j_lconst X (v := 0) dM_beside_10 rfl ?_
    refine j_ldc2 X (v := 5000) wd_1817 dM_beside_11 ?_
    refine j_cs X (st := []) (cM_in E) gyM_in wd_1409 rfl (by decide) (by decide) wd_1408 rfl (Nat.le_of_ble_eq_true rfl) dM_beside_14 ?_
    refine j_if_ne X (tgt := 24) rfl dM_beside_17 (by decide) hf (fun hf => ?_) (fun hf => ?_)
    · refine j_aload_n X dM_beside_24 rfl 0 rfl ?_
      refine j_iload_n X dM_beside_25 rfl 1 rfl ?_
      refine j_aload_n X dM_beside_26 rfl 0 rfl ?_
      refine j_cv X (st := [bz_i a1, bz_rf E 81]) (cM_known0 E) gyM_known0 gv_M_known0_81 rfl (by decide) (by decide) wd_1440 rfl (Nat.le_of_ble_eq_true rfl) dM_beside_27 ?_
      refine j_iload_n X dM_beside_30 rfl 2 rfl ?_
      obtain ⟨m1, hz, hf⟩ := q_cl hf
      refine j_cv X (st := []) (cM_asks0 E F hz) gyM_asks0 gv_M_asks0_81 rfl (by decide) (by decide) wd_1726 rfl (Nat.le_of_ble_eq_true rfl) dM_beside_31 ?_
      clear hz
      refine j_lconst X (v := 0) dM_beside_34 rfl ?_
      show bz_J _ _ 35 _ _ _
      refine j_lstore_n X (lv' := [(3, bz_l 0), (0, bz_rf E 81), (1, bz_i a1), (2, bz_i a2)]) dM_beside_35 rfl (by decide) rfl ?_
      refine j_iconst X dM_beside_36 ?_
      refine j_istore X (lv' := [(5, bz_i 0), (3, bz_l 0), (0, bz_rf E 81), (1, bz_i a1), (2, bz_i a2)]) dM_beside_37 (by decide) rfl ?_
      obtain ⟨res4, hz4, hk4⟩ := q_l1 hf
      clear hf
      refine j_sub [0, 1, 2] rfl ?_
      refine lM_beside_L39 E F X (fun l3 he => ?_) F 0 0 hz4
      have hf := hk4 _ he
      refine j_lload_n X dM_beside_78 rfl 0 rfl ?_
      refine j_cs X (st := []) (cM_told E) gyM_told wd_1679 rfl (by decide) (by decide) wd_1678 rfl (Nat.le_of_ble_eq_true rfl) dM_beside_79 ?_
      cases hf
      exact j_iret X dM_beside_82 rfl rfl
    · refine j_ldcw X (v := -2147483648) wd_1448 dM_beside_20 ?_
      cases hf
      exact j_iret X dM_beside_23 rfl rfl
def M_balances_L13 (F : Nat) : Nat → Int → Int → Int → bz_Mm → Option (bz_Mm)
  | 0, _, _, _, _ => none
  | n + 1, l2, l1, l3, M =>
    if w32 l3 < 22 then
    (wa_ M 230 l3 22 0 fun m2 =>
    M_balances_L13 F n l2 l1 (l3 + 1) m2)
    else
    (some M)
def M_balances_L37 (F : Nat) : Nat → Int → Int → Int → Int → bz_Mm → Option (Int × bz_Mm)
  | 0, _, _, _, _, _ => none
  | n + 1, l2, l1, l5, l3, M =>
    if w32 l5 < 20 then
    (cl_ (fM_goesTo F M l1 l5 l2) fun x4 =>
    rd_ M 226 l5 20 fun x5 =>
    if w32 x5 = 0 then
    (rd_ M 230 l5 22 fun x12 =>
    rd_ M 225 l5 20 fun x13 =>
    wa_ M 230 l5 22 (x12 + x13) fun m14 =>
    rd_ m14 225 l5 20 fun x15 =>
    lt_ (l3 - x15) fun l3 =>
    M_balances_L37 F n l2 l1 (l5 + 1) l3 m14)
    else
    (if 0 < w32 x4 then
    (cl1_ (if w32 x4 = 1 then
    (some (20))
    else
    (some (21))) fun v7 =>
    rd_ M 230 v7 22 fun x8 =>
    rd_ M 225 l5 20 fun x9 =>
    wa_ M 230 v7 22 (x8 + x9) fun m10 =>
    rd_ m10 225 l5 20 fun x11 =>
    lt_ (l3 - x11) fun l3 =>
    M_balances_L37 F n l2 l1 (l5 + 1) l3 m10)
    else
    (M_balances_L37 F n l2 l1 (l5 + 1) l3 M)))
    else
    (some (l3, M))
theorem lM_balances_L13 (E : bz_E) (F : Nat) {K : bz_K} {rv : Option Value} {M1 : bz_Mm} (X : bz_X K E prog_14_method_97_code 7 "UnitsWrongModel" none 8 202 rv M1) {l2 : Int} {l1 : Int} {res : (bz_Mm)}
    (kx : ∀ (M : bz_Mm), some M = some res → bz_J K 7 32 [(2, bz_i l2), (0, bz_rf E 81), (1, bz_i l1)] [] M) :
    ∀ (n : Nat) (l3 : Int) (M : bz_Mm), M_balances_L13 F n l2 l1 l3 M = some res → bz_J K 7 13 [(3, bz_i l3), (2, bz_i l2), (0, bz_rf E 81), (1, bz_i l1)] [] M := by
  intro n
  induction n with
  | zero => intro l3 M hf; cases hf
  | succ n ih =>
    intro l3 M hf
    rw [M_balances_L13] at hf
    refine j_iload_n X dM_balances_13 rfl 0 rfl ?_
    refine j_bipush X dM_balances_14 rfl ?_
    refine j_icmp_ge X (tgt := 32) rfl (w32_lit rfl) dM_balances_16 (by decide) hf (fun hf => ?_) (fun hf => ?_)
    · exact j_sub [1, 2, 3] rfl (kx _ hf)
    · refine j_aload_n X dM_balances_19 rfl 2 rfl ?_
      refine j_geta X gf_M_193_81 dM_balances_20 ?_
      refine j_iload_n X dM_balances_23 rfl 0 rfl ?_
      refine j_lconst X (v := 0) dM_balances_24 rfl ?_
      refine j_last X sh_230 dM_balances_25 hf (fun m2 hf => ?_)
      refine j_iinc X (y := l3 + 1) (lv' := [(3, bz_i (l3 + 1)), (2, bz_i l2), (0, bz_rf E 81), (1, bz_i l1)]) dM_balances_26 0 rfl rfl (by decide) rfl ?_
      refine j_goto X (tgt := 13) dM_balances_29 (by decide) ?_
      exact ih _ _ hf
theorem lM_balances_L37 (E : bz_E) (F : Nat) {K : bz_K} {rv : Option Value} {M1 : bz_Mm} (X : bz_X K E prog_14_method_97_code 7 "UnitsWrongModel" none 8 202 rv M1) {l2 : Int} {l1 : Int} {res : (Int × bz_Mm)}
    (kx : ∀ (l3 : Int) (M : bz_Mm), some (l3, M) = some res → bz_J K 7 143 [(3, bz_l l3), (2, bz_i l2), (0, bz_rf E 81), (1, bz_i l1)] [] M) :
    ∀ (n : Nat) (l5 : Int) (l3 : Int) (M : bz_Mm), M_balances_L37 F n l2 l1 l5 l3 M = some res → bz_J K 7 37 [(5, bz_i l5), (3, bz_l l3), (2, bz_i l2), (0, bz_rf E 81), (1, bz_i l1)] [] M := by
  intro n
  induction n with
  | zero => intro l5 l3 M hf; cases hf
  | succ n ih =>
    intro l5 l3 M hf
    rw [M_balances_L37] at hf
    refine j_iload X dM_balances_37 0 rfl ?_
    refine j_bipush X dM_balances_39 rfl ?_
    refine j_icmp_ge X (tgt := 143) rfl (w32_lit rfl) dM_balances_41 (by decide) hf (fun hf => ?_) (fun hf => ?_)
    · exact j_sub [1, 2, 3, 4] rfl (kx _ _ hf)
    · refine j_aload_n X dM_balances_44 rfl 3 rfl ?_
      refine j_iload_n X dM_balances_45 rfl 4 rfl ?_
      refine j_iload X dM_balances_46 0 rfl ?_
      refine j_iload_n X dM_balances_48 rfl 2 rfl ?_
      obtain ⟨x4, hzx4, hf⟩ := q_cl hf
      refine j_cv X (st := []) (cM_goesTo E F hzx4) gyM_goesTo gv_M_goesTo_81 rfl (by decide) (by decide) wd_1750 rfl (Nat.le_of_ble_eq_true rfl) dM_balances_49 ?_
      refine j_istore X (lv' := [(6, bz_i x4), (5, bz_i l5), (3, bz_l l3), (2, bz_i l2), (0, bz_rf E 81), (1, bz_i l1)]) dM_balances_52 (by decide) rfl ?_
      refine j_aload_n X dM_balances_54 rfl 4 rfl ?_
      show bz_J _ _ 55 _ _ _
      refine j_geta X gf_M_181_81 dM_balances_55 ?_
      refine j_iload X dM_balances_58 1 rfl ?_
      refine j_iald X sh_226 dM_balances_60 hf (fun x5 hf => ?_)
      refine j_if_ne X (tgt := 94) rfl dM_balances_61 (by decide) hf (fun hf => ?_) (fun hf => ?_)
      · refine j_iload X dM_balances_94 0 rfl ?_
        refine j_if_le X (tgt := 137) rfl dM_balances_96 (by decide) hf (fun hf => ?_) (fun hf => ?_)
        · refine j_iinc X (y := l5 + 1) (lv' := [(5, bz_i (l5 + 1)), (6, bz_i x4), (3, bz_l l3), (2, bz_i l2), (0, bz_rf E 81), (1, bz_i l1)]) dM_balances_137 1 rfl rfl (by decide) rfl ?_
          refine j_goto X (tgt := 37) dM_balances_140 (by decide) ?_
          exact j_sub [0, 2, 3, 4, 5] rfl (ih _ _ _ hf)
        · refine j_aload_n X dM_balances_99 rfl 4 rfl ?_
          refine j_geta X gf_M_193_81 dM_balances_100 ?_
          refine j_iload X dM_balances_103 0 rfl ?_
          refine j_iconst X dM_balances_105 ?_
          obtain ⟨resJ6, hf0, hkJ6⟩ := q_l1 hf
          have J6 : ∀ (v7 : Int), some v7 = some resJ6 → bz_J K 7 116 [(5, bz_i l5), (3, bz_l l3), (2, bz_i l2), (0, bz_rf E 81), (1, bz_i l1)] [bz_i v7, bz_rf E 230] M := by
            intro v7 he
            have hf := hkJ6 _ he
            refine j_dup2 X dM_balances_116 rfl rfl ?_
            refine j_lald X sh_230 dM_balances_117 hf (fun x8 hf => ?_)
            refine j_aload_n X dM_balances_118 rfl 3 rfl ?_
            refine j_geta X gf_M_178_81 dM_balances_119 ?_
            refine j_iload X dM_balances_122 0 rfl ?_
            refine j_lald X sh_225 dM_balances_124 hf (fun x9 hf => ?_)
            refine j_ladd X dM_balances_125 ?_
            show bz_J _ _ 126 _ _ _
            refine j_last X sh_230 dM_balances_126 hf (fun m10 hf => ?_)
            refine j_lload_n X dM_balances_127 rfl 1 rfl ?_
            refine j_aload_n X dM_balances_128 rfl 3 rfl ?_
            refine j_geta X gf_M_178_81 dM_balances_129 ?_
            refine j_iload X dM_balances_132 0 rfl ?_
            refine j_lald X sh_225 dM_balances_134 hf (fun x11 hf => ?_)
            refine j_lsub X dM_balances_135 ?_
            refine j_lt (g := bz_l) hf (fun l3 hf => ?_)
            refine j_lstore_n X (lv' := [(3, bz_l l3), (5, bz_i l5), (2, bz_i l2), (0, bz_rf E 81), (1, bz_i l1)]) dM_balances_136 rfl (by decide) rfl ?_
            show bz_J _ _ 137 _ _ _
            refine j_iinc X (y := l5 + 1) (lv' := [(5, bz_i (l5 + 1)), (3, bz_l l3), (2, bz_i l2), (0, bz_rf E 81), (1, bz_i l1)]) dM_balances_137 1 rfl rfl (by decide) rfl ?_
            refine j_goto X (tgt := 37) dM_balances_140 (by decide) ?_
            exact ih _ _ _ hf
          clear hf
          have hf := hf0
          clear hf0
          refine j_icmp_ne X (tgt := 114) rfl (w32_lit rfl) dM_balances_106 (by decide) hf (fun hf => ?_) (fun hf => ?_)
          · refine j_bipush X dM_balances_114 rfl ?_
            exact j_sub [1, 2, 3, 4, 5] rfl (J6 _ hf)
          · refine j_bipush X dM_balances_109 rfl ?_
            refine j_goto X (tgt := 116) dM_balances_111 (by decide) ?_
            exact j_sub [1, 2, 3, 4, 5] rfl (J6 _ hf)
      · refine j_aload_n X dM_balances_64 rfl 4 rfl ?_
        refine j_geta X gf_M_193_81 dM_balances_65 ?_
        refine j_iload X dM_balances_68 1 rfl ?_
        refine j_dup2 X dM_balances_70 rfl rfl ?_
        refine j_lald X sh_230 dM_balances_71 hf (fun x12 hf => ?_)
        refine j_aload_n X dM_balances_72 rfl 4 rfl ?_
        refine j_geta X gf_M_178_81 dM_balances_73 ?_
        show bz_J _ _ 76 _ _ _
        refine j_iload X dM_balances_76 1 rfl ?_
        refine j_lald X sh_225 dM_balances_78 hf (fun x13 hf => ?_)
        refine j_ladd X dM_balances_79 ?_
        refine j_last X sh_230 dM_balances_80 hf (fun m14 hf => ?_)
        refine j_lload_n X dM_balances_81 rfl 2 rfl ?_
        refine j_aload_n X dM_balances_82 rfl 4 rfl ?_
        refine j_geta X gf_M_178_81 dM_balances_83 ?_
        refine j_iload X dM_balances_86 1 rfl ?_
        show bz_J _ _ 88 _ _ _
        refine j_lald X sh_225 dM_balances_88 hf (fun x15 hf => ?_)
        refine j_lsub X dM_balances_89 ?_
        refine j_lt (g := bz_l) hf (fun l3 hf => ?_)
        refine j_lstore_n X (lv' := [(3, bz_l l3), (6, bz_i x4), (5, bz_i l5), (2, bz_i l2), (0, bz_rf E 81), (1, bz_i l1)]) dM_balances_90 rfl (by decide) rfl ?_
        refine j_goto X (tgt := 137) dM_balances_91 (by decide) ?_
        refine j_iinc X (y := l5 + 1) (lv' := [(5, bz_i (l5 + 1)), (3, bz_l l3), (6, bz_i x4), (2, bz_i l2), (0, bz_rf E 81), (1, bz_i l1)]) dM_balances_137 2 rfl rfl (by decide) rfl ?_
        refine j_goto X (tgt := 37) dM_balances_140 (by decide) ?_
        exact j_sub [0, 1, 3, 4, 5] rfl (ih _ _ _ hf)
def fM_balances (F : Nat) (M : bz_Mm) (a1 : Int) : Option (bz_Mm) :=
  lt_ (fM_known0 M) fun l2 =>
  cl_ (fM_asks1 F M a1 l2) fun m1 =>
  cl1_ (M_balances_L13 F F l2 a1 0 m1) fun m3 =>
  cl2_ (M_balances_L37 F F l2 a1 0 0 m3) fun l3 m16 =>
  cl2_ (fM_houseOwes F m16 a1 l2) fun x18 m17 =>
  rd_ m17 230 20 22 fun x19 =>
  wa_ m17 230 20 22 (x19 - x18) fun m20 =>
  rd_ m20 230 (16 + a1) 22 fun x21 =>
  wa_ m20 230 (16 + a1) 22 (x21 + (l3 + x18)) fun m22 =>
  some m22
set_option maxHeartbeats 4000000 in
set_option maxRecDepth 20000 in
theorem cM_balances (E : bz_E) (F : Nat)  {M : bz_Mm} {a1 : Int} {x0 : bz_Mm} (hf : fM_balances F M a1 = some x0) : bz_Ct E yM_balances (.code yM_balances prog_14_method_97_code 7 none) 8 202 [bz_rf E 81, bz_i a1] M (none) x0 := by
  refine bz_met (by decide +kernel) (Nat.le_of_ble_eq_true rfl) (fun K X => ?_)
  have X : bz_X K E prog_14_method_97_code 7 "UnitsWrongModel" none 8 202 _ _ := X
  unfold fM_balances at hf
  show bz_J K 7 0 [(0, bz_rf E 81), (1, bz_i a1)] [] M
  refine j_aload_n X dM_balances_0 rfl 0 rfl ?_
  refine j_cv X (st := []) (cM_known0 E) gyM_known0 gv_M_known0_81 rfl (by decide) (by decide) wd_1440 rfl (Nat.le_of_ble_eq_true rfl) dM_balances_1 ?_
  refine j_lt (g := bz_i) hf (fun l2 hf => ?_)
  refine j_istore_n X (lv' := [(2, bz_i l2), (0, bz_rf E 81), (1, bz_i a1)]) dM_balances_4 rfl (by decide) rfl ?_
  refine j_aload_n X dM_balances_5 rfl 1 rfl ?_
  refine j_iload_n X dM_balances_6 rfl 2 rfl ?_
  refine j_iload_n X dM_balances_7 rfl 0 rfl ?_
  obtain ⟨m1, hz, hf⟩ := q_cl hf
  refine j_cv X (st := []) (cM_asks1 E F hz) gyM_asks1 gv_M_asks1_81 rfl (by decide) (by decide) wd_1722 rfl (Nat.le_of_ble_eq_true rfl) dM_balances_8 ?_
  clear hz
  show bz_J _ _ 11 _ _ _
  refine j_iconst X dM_balances_11 ?_
  refine j_istore_n X (lv' := [(3, bz_i 0), (2, bz_i l2), (0, bz_rf E 81), (1, bz_i a1)]) dM_balances_12 rfl (by decide) rfl ?_
  obtain ⟨res24, hz24, hk24⟩ := q_l1 hf
  clear hf
  refine lM_balances_L13 E F X (fun m3 he => ?_) F 0 m1 hz24
  have hf := hk24 _ he
  refine j_lconst X (v := 0) dM_balances_32 rfl ?_
  refine j_lstore_n X (lv' := [(3, bz_l 0), (2, bz_i l2), (0, bz_rf E 81), (1, bz_i a1)]) dM_balances_33 rfl (by decide) rfl ?_
  refine j_iconst X dM_balances_34 ?_
  refine j_istore X (lv' := [(5, bz_i 0), (3, bz_l 0), (2, bz_i l2), (0, bz_rf E 81), (1, bz_i a1)]) dM_balances_35 (by decide) rfl ?_
  obtain ⟨res23, hz23, hk23⟩ := q_l2 hf
  clear hf
  refine lM_balances_L37 E F X (fun l3 m16 he => ?_) F 0 0 m3 hz23
  have hf := hk23 _ _ he
  refine j_aload_n X dM_balances_143 rfl 2 rfl ?_
  refine j_iload_n X dM_balances_144 rfl 3 rfl ?_
  refine j_iload_n X dM_balances_145 rfl 1 rfl ?_
  obtain ⟨x18, m17, hz, hf⟩ := q_cl2 hf
  refine j_cv X (st := []) (cM_houseOwes E F hz) gyM_houseOwes gv_M_houseOwes_81 rfl (by decide) (by decide) wd_1746 rfl (Nat.le_of_ble_eq_true rfl) dM_balances_146 ?_
  clear hz
  refine j_lstore X (lv' := [(5, bz_l x18), (3, bz_l l3), (2, bz_i l2), (0, bz_rf E 81), (1, bz_i a1)]) dM_balances_149 (by decide) rfl ?_
  refine j_aload_n X dM_balances_151 rfl 3 rfl ?_
  refine j_geta X gf_M_193_81 dM_balances_152 ?_
  show bz_J _ _ 155 _ _ _
  refine j_bipush X dM_balances_155 rfl ?_
  refine j_dup2 X dM_balances_157 rfl rfl ?_
  refine j_lald X sh_230 dM_balances_158 hf (fun x19 hf => ?_)
  refine j_lload X dM_balances_159 0 rfl ?_
  refine j_lsub X dM_balances_161 ?_
  refine j_last X sh_230 dM_balances_162 hf (fun m20 hf => ?_)
  refine j_aload_n X dM_balances_163 rfl 3 rfl ?_
  refine j_geta X gf_M_193_81 dM_balances_164 ?_
  show bz_J _ _ 167 _ _ _
  refine j_bipush X dM_balances_167 rfl ?_
  refine j_iload_n X dM_balances_169 rfl 4 rfl ?_
  refine j_iadd X dM_balances_170 ?_
  refine j_dup2 X dM_balances_171 rfl rfl ?_
  refine j_lald X sh_230 dM_balances_172 hf (fun x21 hf => ?_)
  refine j_lload_n X dM_balances_173 rfl 1 rfl ?_
  refine j_lload X dM_balances_174 0 rfl ?_
  refine j_ladd X dM_balances_176 ?_
  show bz_J _ _ 177 _ _ _
  refine j_ladd X dM_balances_177 ?_
  refine j_last X sh_230 dM_balances_178 hf (fun m22 hf => ?_)
  cases hf
  exact j_vret X dM_balances_179 rfl rfl
def fM_balance (F : Nat) (M : bz_Mm) (a1 : Int) (a2 : Int) : Option (Int × bz_Mm) :=
  cl1_ (if w32 a2 = 40 then
  (some (20))
  else
  (if w32 a2 = 41 then
  (some (21))
  else
  (some (fM_placeOf M a2)))) fun v2 =>
  if w32 (fM_isFund M a1) = 0 then
  (some (((-2147483648), M)))
  else
  (if w32 v2 = (-1) then
  (some (((-2147483648), M)))
  else
  (cl_ (fM_balances F M a1) fun m3 =>
  rd_ m3 230 v2 22 fun x4 =>
  some ((fM_told x4, m3))))
set_option maxHeartbeats 4000000 in
set_option maxRecDepth 20000 in
theorem cM_balance (E : bz_E) (F : Nat)  {M : bz_Mm} {a1 : Int} {a2 : Int} {x0 : Int × bz_Mm} (hf : fM_balance F M a1 a2 = some x0) : bz_Ct E yM_balance (.code yM_balance prog_14_method_99_code 4 (some .int)) 9 228 [bz_rf E 81, bz_i a1, bz_i a2] M (some (bz_i x0.1)) x0.2 := by
  refine bz_met (by decide +kernel) (Nat.le_of_ble_eq_true rfl) (fun K X => ?_)
  have X : bz_X K E prog_14_method_99_code 4 "UnitsWrongModel" (some .int) 9 228 _ _ := X
  unfold fM_balance at hf
  show bz_J K 4 0 [(0, bz_rf E 81), (1, bz_i a1), (2, bz_i a2)] [] M
  refine j_iload_n X dM_balance_0 rfl 2 rfl ?_
  refine j_bipush X dM_balance_1 rfl ?_
  obtain ⟨resJ1, hf0, hkJ1⟩ := q_l1 hf
  have J1 : ∀ (v2 : Int), some v2 = some resJ1 → bz_J K 4 27 [(0, bz_rf E 81), (1, bz_i a1)] [bz_i v2] M := by
    intro v2 he
    have hf := hkJ1 _ he
    refine j_istore_n X (lv' := [(3, bz_i v2), (0, bz_rf E 81), (1, bz_i a1)]) dM_balance_27 rfl (by decide) rfl ?_
    refine j_aload_n X dM_balance_28 rfl 1 rfl ?_
    refine j_iload_n X dM_balance_29 rfl 2 rfl ?_
    refine j_cv X (st := []) (cM_isFund E) gyM_isFund gv_M_isFund_81 rfl (by decide) (by decide) wd_1479 rfl (Nat.le_of_ble_eq_true rfl) dM_balance_30 ?_
    refine j_if_eq X (tgt := 41) rfl dM_balance_33 (by decide) hf (fun hf => ?_) (fun hf => ?_)
    · refine j_ldcw X (v := -2147483648) wd_1448 dM_balance_41 ?_
      cases hf
      exact j_iret X dM_balance_44 rfl rfl
    · refine j_iload_n X dM_balance_36 rfl 0 rfl ?_
      refine j_iconst X dM_balance_37 ?_
      refine j_icmp_ne X (tgt := 45) rfl (w32_lit rfl) dM_balance_38 (by decide) hf (fun hf => ?_) (fun hf => ?_)
      · refine j_aload_n X dM_balance_45 rfl 1 rfl ?_
        refine j_iload_n X dM_balance_46 rfl 2 rfl ?_
        obtain ⟨m3, hz, hf⟩ := q_cl hf
        refine j_cv X (st := []) (cM_balances E F hz) gyM_balances gv_M_balances_81 rfl (by decide) (by decide) wd_1822 rfl (Nat.le_of_ble_eq_true rfl) dM_balance_47 ?_
        clear hz
        refine j_aload_n X dM_balance_50 rfl 1 rfl ?_
        refine j_geta X gf_M_193_81 dM_balance_51 ?_
        refine j_iload_n X dM_balance_54 rfl 0 rfl ?_
        refine j_lald X sh_230 dM_balance_55 hf (fun x4 hf => ?_)
        show bz_J _ _ 56 _ _ _
        refine j_cs X (st := []) (cM_told E) gyM_told wd_1679 rfl (by decide) (by decide) wd_1678 rfl (Nat.le_of_ble_eq_true rfl) dM_balance_56 ?_
        cases hf
        exact j_iret X dM_balance_59 rfl rfl
      · refine j_ldcw X (v := -2147483648) wd_1448 dM_balance_41 ?_
        cases hf
        exact j_iret X dM_balance_44 rfl rfl
  clear hf
  have hf := hf0
  clear hf0
  refine j_icmp_ne X (tgt := 11) rfl (w32_lit rfl) dM_balance_3 (by decide) hf (fun hf => ?_) (fun hf => ?_)
  · refine j_iload_n X dM_balance_11 rfl 2 rfl ?_
    refine j_bipush X dM_balance_12 rfl ?_
    refine j_icmp_ne X (tgt := 22) rfl (w32_lit rfl) dM_balance_14 (by decide) hf (fun hf => ?_) (fun hf => ?_)
    · refine j_aload_n X dM_balance_22 rfl 0 rfl ?_
      refine j_iload_n X dM_balance_23 rfl 2 rfl ?_
      refine j_cv X (st := []) (cM_placeOf E) gyM_placeOf gv_M_placeOf_81 rfl (by decide) (by decide) wd_1489 rfl (Nat.le_of_ble_eq_true rfl) dM_balance_24 ?_
      exact j_sub [0, 1] rfl (J1 _ hf)
    · refine j_bipush X dM_balance_17 rfl ?_
      refine j_goto X (tgt := 27) dM_balance_19 (by decide) ?_
      exact j_sub [0, 1] rfl (J1 _ hf)
  · refine j_bipush X dM_balance_6 rfl ?_
    refine j_goto X (tgt := 27) dM_balance_8 (by decide) ?_
    exact j_sub [0, 1] rfl (J1 _ hf)
def M_mosts_L22 (F : Nat) : Nat → Int → Int → Int → bz_Mm → Option (bz_Mm)
  | 0, _, _, _, _ => none
  | n + 1, l2, l1, l3, M =>
    if 0 < w32 l3 then
    (cl1_ (if w32 (ia_ l3 l2) = 0 then
    (some (M))
    else
    (rd_ M 233 l3 1024 fun x5 =>
    if w64 x5 = 0 then
    (rd_ M 232 (ia_ l1 (ix_ l3 ((-1)))) 1024 fun x6 =>
    if w32 x6 = (-1) then
    (some (M))
    else
    (rd_ M 232 (ia_ l1 (ix_ l3 ((-1)))) 1024 fun x7 =>
    rd_ M 232 l1 1024 fun x8 =>
    if w32 x8 < w32 (x7 + 1) then
    (rd_ M 232 (ia_ l1 (ix_ l3 ((-1)))) 1024 fun x9 =>
    wa_ M 232 l1 1024 (x9 + 1) fun m10 =>
    some (m10))
    else
    (some (M))))
    else
    (some (M)))) fun m11 =>
    lt_ (ia_ (l3 - 1) l1) fun l3 =>
    M_mosts_L22 F n l2 l1 l3 m11)
    else
    (some M)
theorem lM_mosts_L22 (E : bz_E) (F : Nat) {K : bz_K} {rv : Option Value} {M1 : bz_Mm} (X : bz_X K E prog_14_method_101_code 4 "UnitsWrongModel" none 0 0 rv M1) {l2 : Int} {l1 : Int} {res : (bz_Mm)}
    (kx : ∀ (M : bz_Mm), some M = some res → bz_J K 4 108 [] [] M) :
    ∀ (n : Nat) (l3 : Int) (M : bz_Mm), M_mosts_L22 F n l2 l1 l3 M = some res → bz_J K 4 22 [(3, bz_i l3), (2, bz_i l2), (0, bz_rf E 81), (1, bz_i l1)] [] M := by
  intro n
  induction n with
  | zero => intro l3 M hf; cases hf
  | succ n ih =>
    intro l3 M hf
    rw [M_mosts_L22] at hf
    refine j_iload_n X dM_mosts_22 rfl 0 rfl ?_
    refine j_if_le X (tgt := 108) rfl dM_mosts_23 (by decide) hf (fun hf => ?_) (fun hf => ?_)
    · exact j_sub [] rfl (kx _ hf)
    · refine j_iload_n X dM_mosts_26 rfl 0 rfl ?_
      refine j_iload_n X dM_mosts_27 rfl 1 rfl ?_
      refine j_iand X dM_mosts_28 ?_
      obtain ⟨resJ4, hf0, hkJ4⟩ := q_l1 hf
      have J4 : ∀ (m11 : bz_Mm), some m11 = some resJ4 → bz_J K 4 99 [(3, bz_i l3), (2, bz_i l2), (0, bz_rf E 81), (1, bz_i l1)] [] m11 := by
        intro m11 he
        have hf := hkJ4 _ he
        refine j_iload_n X dM_mosts_99 rfl 0 rfl ?_
        refine j_iconst X dM_mosts_100 ?_
        refine j_isub X dM_mosts_101 ?_
        refine j_iload_n X dM_mosts_102 rfl 3 rfl ?_
        refine j_iand X dM_mosts_103 ?_
        refine j_lt (g := bz_i) hf (fun l3 hf => ?_)
        refine j_istore_n X (lv' := [(3, bz_i l3), (2, bz_i l2), (0, bz_rf E 81), (1, bz_i l1)]) dM_mosts_104 rfl (by decide) rfl ?_
        refine j_goto X (tgt := 22) dM_mosts_105 (by decide) ?_
        exact ih _ _ hf
      clear hf
      have hf := hf0
      clear hf0
      refine j_if_eq X (tgt := 99) rfl dM_mosts_29 (by decide) hf (fun hf => ?_) (fun hf => ?_)
      · exact J4 _ hf
      · refine j_aload_n X dM_mosts_32 rfl 2 rfl ?_
        refine j_geta X gf_M_202_81 dM_mosts_33 ?_
        refine j_iload_n X dM_mosts_36 rfl 0 rfl ?_
        refine j_lald X sh_233 dM_mosts_37 hf (fun x5 hf => ?_)
        refine j_lconst X (v := 0) dM_mosts_38 rfl ?_
        refine j_lcmp_ne X (tgt := 99) rfl (w64_lit rfl) dM_mosts_39 dM_mosts_40 (by decide) hf (fun hf => ?_) (fun hf => ?_)
        · exact J4 _ hf
        · refine j_aload_n X dM_mosts_43 rfl 2 rfl ?_
          refine j_geta X gf_M_199_81 dM_mosts_44 ?_
          refine j_iload_n X dM_mosts_47 rfl 3 rfl ?_
          refine j_iload_n X dM_mosts_48 rfl 0 rfl ?_
          refine j_iconst X dM_mosts_49 ?_
          refine j_ixor X dM_mosts_50 ?_
          refine j_iand X dM_mosts_51 ?_
          show bz_J _ _ 52 _ _ _
          refine j_iald X sh_232 dM_mosts_52 hf (fun x6 hf => ?_)
          refine j_iconst X dM_mosts_53 ?_
          refine j_icmp_ne X (tgt := 60) rfl (w32_lit rfl) dM_mosts_54 (by decide) hf (fun hf => ?_) (fun hf => ?_)
          · refine j_aload_n X dM_mosts_60 rfl 2 rfl ?_
            refine j_geta X gf_M_199_81 dM_mosts_61 ?_
            refine j_iload_n X dM_mosts_64 rfl 3 rfl ?_
            refine j_iload_n X dM_mosts_65 rfl 0 rfl ?_
            refine j_iconst X dM_mosts_66 ?_
            refine j_ixor X dM_mosts_67 ?_
            refine j_iand X dM_mosts_68 ?_
            show bz_J _ _ 69 _ _ _
            refine j_iald X sh_232 dM_mosts_69 hf (fun x7 hf => ?_)
            refine j_iconst X dM_mosts_70 ?_
            refine j_iadd X dM_mosts_71 ?_
            refine j_aload_n X dM_mosts_72 rfl 2 rfl ?_
            refine j_geta X gf_M_199_81 dM_mosts_73 ?_
            refine j_iload_n X dM_mosts_76 rfl 3 rfl ?_
            refine j_iald X sh_232 dM_mosts_77 hf (fun x8 hf => ?_)
            refine j_icmp_le X (tgt := 99) rfl rfl dM_mosts_78 (by decide) hf (fun hf => ?_) (fun hf => ?_)
            · exact J4 _ hf
            · refine j_aload_n X dM_mosts_81 rfl 2 rfl ?_
              refine j_geta X gf_M_199_81 dM_mosts_82 ?_
              refine j_iload_n X dM_mosts_85 rfl 3 rfl ?_
              refine j_aload_n X dM_mosts_86 rfl 2 rfl ?_
              refine j_geta X gf_M_199_81 dM_mosts_87 ?_
              refine j_iload_n X dM_mosts_90 rfl 3 rfl ?_
              refine j_iload_n X dM_mosts_91 rfl 0 rfl ?_
              show bz_J _ _ 92 _ _ _
              refine j_iconst X dM_mosts_92 ?_
              refine j_ixor X dM_mosts_93 ?_
              refine j_iand X dM_mosts_94 ?_
              refine j_iald X sh_232 dM_mosts_95 hf (fun x9 hf => ?_)
              refine j_iconst X dM_mosts_96 ?_
              refine j_iadd X dM_mosts_97 ?_
              refine j_iast X sh_232 dM_mosts_98 hf (fun m10 hf => ?_)
              exact J4 _ hf
          · refine j_goto X (tgt := 99) dM_mosts_57 (by decide) ?_
            exact J4 _ hf
def fM_mosts (F : Nat) (M : bz_Mm) (a1 : Int) : Option (bz_Mm) :=
  cl1_ (if w32 a1 = 0 then
  (some (0))
  else
  (some ((-1)))) fun v2 =>
  wa_ M 232 a1 1024 v2 fun m3 =>
  lt_ (ia_ a1 (-a1)) fun l2 =>
  cl1_ (M_mosts_L22 F F l2 a1 a1 m3) fun m12 =>
  some m12
set_option maxHeartbeats 4000000 in
set_option maxRecDepth 20000 in
theorem cM_mosts (E : bz_E) (F : Nat)  {M : bz_Mm} {a1 : Int} {x0 : bz_Mm} (hf : fM_mosts F M a1 = some x0) : bz_Ct E yM_mosts (.code yM_mosts prog_14_method_101_code 4 none) 0 0 [bz_rf E 81, bz_i a1] M (none) x0 := by
  refine bz_met (by decide +kernel) (Nat.le_of_ble_eq_true rfl) (fun K X => ?_)
  have X : bz_X K E prog_14_method_101_code 4 "UnitsWrongModel" none 0 0 _ _ := X
  unfold fM_mosts at hf
  show bz_J K 4 0 [(0, bz_rf E 81), (1, bz_i a1)] [] M
  refine j_aload_n X dM_mosts_0 rfl 0 rfl ?_
  refine j_geta X gf_M_199_81 dM_mosts_1 ?_
  refine j_iload_n X dM_mosts_4 rfl 1 rfl ?_
  refine j_iload_n X dM_mosts_5 rfl 1 rfl ?_
  obtain ⟨resJ1, hf0, hkJ1⟩ := q_l1 hf
  have J1 : ∀ (v2 : Int), some v2 = some resJ1 → bz_J K 4 14 [(0, bz_rf E 81), (1, bz_i a1)] [bz_i v2, bz_i a1, bz_rf E 232] M := by
    intro v2 he
    have hf := hkJ1 _ he
    refine j_iast X sh_232 dM_mosts_14 hf (fun m3 hf => ?_)
    refine j_iload_n X dM_mosts_15 rfl 1 rfl ?_
    refine j_iload_n X dM_mosts_16 rfl 1 rfl ?_
    refine j_ineg X dM_mosts_17 ?_
    refine j_iand X dM_mosts_18 ?_
    refine j_lt (g := bz_i) hf (fun l2 hf => ?_)
    refine j_istore_n X (lv' := [(2, bz_i l2), (0, bz_rf E 81), (1, bz_i a1)]) dM_mosts_19 rfl (by decide) rfl ?_
    refine j_iload_n X dM_mosts_20 rfl 2 rfl ?_
    show bz_J _ _ 21 _ _ _
    refine j_istore_n X (lv' := [(3, bz_i a1), (2, bz_i l2), (0, bz_rf E 81), (1, bz_i a1)]) dM_mosts_21 rfl (by decide) rfl ?_
    obtain ⟨res13, hz13, hk13⟩ := q_l1 hf
    clear hf
    refine lM_mosts_L22 E F X (fun m12 he => ?_) F a1 m3 hz13
    have hf := hk13 _ he
    cases hf
    exact j_vret X dM_mosts_108 rfl rfl
  clear hf
  have hf := hf0
  clear hf0
  refine j_if_ne X (tgt := 13) rfl dM_mosts_6 (by decide) hf (fun hf => ?_) (fun hf => ?_)
  · refine j_iconst X dM_mosts_13 ?_
    exact J1 _ hf
  · refine j_iconst X dM_mosts_9 ?_
    refine j_goto X (tgt := 14) dM_mosts_10 (by decide) ?_
    exact J1 _ hf
def M_picks_L25 (F : Nat) : Nat → bz_Mm → Int → Int → Int → Option (Int)
  | 0, _, _, _, _ => none
  | n + 1, M, l2, l1, l3 =>
    if w32 (ia_ l3 (ix_ l1 ((-1)))) = 0 then
    (if w32 (ia_ l3 l2) = 0 then
    (M_picks_L25 F n M l2 l1 (l3 + 1))
    else
    (rd_ M 233 l3 1024 fun x2 =>
    if w64 x2 = 0 then
    (rd_ M 232 (ia_ l1 (ix_ l3 ((-1)))) 1024 fun x3 =>
    rd_ M 232 l1 1024 fun x4 =>
    if w32 x3 = w32 (x4 - 1) then
    (some l3)
    else
    (M_picks_L25 F n M l2 l1 (l3 + 1)))
    else
    (M_picks_L25 F n M l2 l1 (l3 + 1))))
    else
    (M_picks_L25 F n M l2 l1 (l3 + 1))
def M_picks_L14 (F : Nat) : Nat → Int → bz_Mm → Option (bz_Mm)
  | 0, _, _ => none
  | n + 1, l1, M =>
    if w32 l1 = 0 then
    (some M)
    else
    (lt_ (ia_ l1 (-l1)) fun l2 =>
    cl1_ (M_picks_L25 F F M l2 l1 l2) fun l3 =>
    wa_ M 234 (M 81 78) 10 l3 fun m5 =>
    wf_ m5 81 78 ((m5 81 78) + 1) fun m6 =>
    lt_ (ia_ l1 (ix_ l3 ((-1)))) fun l1 =>
    M_picks_L14 F n l1 m6)
theorem lM_picks_L25 (E : bz_E) (F : Nat) {K : bz_K} {rv : Option Value} {M1 : bz_Mm} (X : bz_X K E prog_14_method_102_code 4 "UnitsWrongModel" none 0 0 rv M1) {M : bz_Mm} {l2 : Int} {l1 : Int} {res : (Int)}
    (kx : ∀ (l3 : Int), some l3 = some res → bz_J K 4 77 [(3, bz_i l3), (1, bz_i l1), (0, bz_rf E 81)] [] M) :
    ∀ (n : Nat) (l3 : Int), M_picks_L25 F n M l2 l1 l3 = some res → bz_J K 4 25 [(3, bz_i l3), (2, bz_i l2), (1, bz_i l1), (0, bz_rf E 81)] [] M := by
  intro n
  induction n with
  | zero => intro l3 hf; cases hf
  | succ n ih =>
    intro l3 hf
    rw [M_picks_L25] at hf
    refine j_iload_n X dM_picks_25 rfl 0 rfl ?_
    refine j_iload_n X dM_picks_26 rfl 2 rfl ?_
    refine j_iconst X dM_picks_27 ?_
    refine j_ixor X dM_picks_28 ?_
    refine j_iand X dM_picks_29 ?_
    refine j_if_ne X (tgt := 71) rfl dM_picks_30 (by decide) hf (fun hf => ?_) (fun hf => ?_)
    · refine j_iinc X (y := l3 + 1) (lv' := [(3, bz_i (l3 + 1)), (2, bz_i l2), (1, bz_i l1), (0, bz_rf E 81)]) dM_picks_71 0 rfl rfl (by decide) rfl ?_
      refine j_goto X (tgt := 25) dM_picks_74 (by decide) ?_
      exact ih _ hf
    · refine j_iload_n X dM_picks_33 rfl 0 rfl ?_
      refine j_iload_n X dM_picks_34 rfl 1 rfl ?_
      refine j_iand X dM_picks_35 ?_
      refine j_if_eq X (tgt := 71) rfl dM_picks_36 (by decide) hf (fun hf => ?_) (fun hf => ?_)
      · refine j_iinc X (y := l3 + 1) (lv' := [(3, bz_i (l3 + 1)), (2, bz_i l2), (1, bz_i l1), (0, bz_rf E 81)]) dM_picks_71 0 rfl rfl (by decide) rfl ?_
        refine j_goto X (tgt := 25) dM_picks_74 (by decide) ?_
        exact ih _ hf
      · refine j_aload_n X dM_picks_39 rfl 3 rfl ?_
        refine j_geta X gf_M_202_81 dM_picks_40 ?_
        refine j_iload_n X dM_picks_43 rfl 0 rfl ?_
        refine j_lald X sh_233 dM_picks_44 hf (fun x2 hf => ?_)
        refine j_lconst X (v := 0) dM_picks_45 rfl ?_
        refine j_lcmp_ne X (tgt := 71) rfl (w64_lit rfl) dM_picks_46 dM_picks_47 (by decide) hf (fun hf => ?_) (fun hf => ?_)
        · refine j_iinc X (y := l3 + 1) (lv' := [(3, bz_i (l3 + 1)), (2, bz_i l2), (1, bz_i l1), (0, bz_rf E 81)]) dM_picks_71 0 rfl rfl (by decide) rfl ?_
          refine j_goto X (tgt := 25) dM_picks_74 (by decide) ?_
          exact ih _ hf
        · refine j_aload_n X dM_picks_50 rfl 3 rfl ?_
          refine j_geta X gf_M_199_81 dM_picks_51 ?_
          refine j_iload_n X dM_picks_54 rfl 2 rfl ?_
          refine j_iload_n X dM_picks_55 rfl 0 rfl ?_
          refine j_iconst X dM_picks_56 ?_
          refine j_ixor X dM_picks_57 ?_
          refine j_iand X dM_picks_58 ?_
          show bz_J _ _ 59 _ _ _
          refine j_iald X sh_232 dM_picks_59 hf (fun x3 hf => ?_)
          refine j_aload_n X dM_picks_60 rfl 3 rfl ?_
          refine j_geta X gf_M_199_81 dM_picks_61 ?_
          refine j_iload_n X dM_picks_64 rfl 2 rfl ?_
          refine j_iald X sh_232 dM_picks_65 hf (fun x4 hf => ?_)
          refine j_iconst X dM_picks_66 ?_
          refine j_isub X dM_picks_67 ?_
          refine j_icmp_eq X (tgt := 77) rfl rfl dM_picks_68 (by decide) hf (fun hf => ?_) (fun hf => ?_)
          · exact j_sub [0, 2, 3] rfl (kx _ hf)
          · refine j_iinc X (y := l3 + 1) (lv' := [(3, bz_i (l3 + 1)), (2, bz_i l2), (1, bz_i l1), (0, bz_rf E 81)]) dM_picks_71 0 rfl rfl (by decide) rfl ?_
            refine j_goto X (tgt := 25) dM_picks_74 (by decide) ?_
            exact ih _ hf
theorem lM_picks_L14 (E : bz_E) (F : Nat) {K : bz_K} {rv : Option Value} {M1 : bz_Mm} (X : bz_X K E prog_14_method_102_code 4 "UnitsWrongModel" none 0 0 rv M1) {res : (bz_Mm)}
    (kx : ∀ (M : bz_Mm), some M = some res → bz_J K 4 106 [] [] M) :
    ∀ (n : Nat) (l1 : Int) (M : bz_Mm), M_picks_L14 F n l1 M = some res → bz_J K 4 14 [(1, bz_i l1), (0, bz_rf E 81)] [] M := by
  intro n
  induction n with
  | zero => intro l1 M hf; cases hf
  | succ n ih =>
    intro l1 M hf
    rw [M_picks_L14] at hf
    refine j_iload_n X dM_picks_14 rfl 0 rfl ?_
    refine j_if_eq X (tgt := 106) rfl dM_picks_15 (by decide) hf (fun hf => ?_) (fun hf => ?_)
    · exact j_sub [] rfl (kx _ hf)
    · refine j_iload_n X dM_picks_18 rfl 0 rfl ?_
      refine j_iload_n X dM_picks_19 rfl 0 rfl ?_
      refine j_ineg X dM_picks_20 ?_
      refine j_iand X dM_picks_21 ?_
      refine j_lt (g := bz_i) hf (fun l2 hf => ?_)
      refine j_istore_n X (lv' := [(2, bz_i l2), (1, bz_i l1), (0, bz_rf E 81)]) dM_picks_22 rfl (by decide) rfl ?_
      refine j_iload_n X dM_picks_23 rfl 0 rfl ?_
      refine j_istore_n X (lv' := [(3, bz_i l2), (2, bz_i l2), (1, bz_i l1), (0, bz_rf E 81)]) dM_picks_24 rfl (by decide) rfl ?_
      obtain ⟨res7, hz7, hk7⟩ := q_l1 hf
      clear hf
      refine lM_picks_L25 E F X (fun l3 he => ?_) F l2 hz7
      have hf := hk7 _ he
      refine j_aload_n X dM_picks_77 rfl 2 rfl ?_
      refine j_geta X gf_M_205_81 dM_picks_78 ?_
      refine j_aload_n X dM_picks_81 rfl 2 rfl ?_
      refine j_geti X gf_M_558_81 dM_picks_82 ?_
      refine j_iload_n X dM_picks_85 rfl 0 rfl ?_
      refine j_iast X sh_234 dM_picks_86 hf (fun m5 hf => ?_)
      refine j_aload_n X dM_picks_87 rfl 2 rfl ?_
      show bz_J _ _ 88 _ _ _
      refine j_dup X dM_picks_88 rfl ?_
      refine j_geti X gf_M_558_81 dM_picks_89 ?_
      refine j_iconst X dM_picks_92 ?_
      refine j_iadd X dM_picks_93 ?_
      refine j_puti X pf_M_558_81 dM_picks_94 hf (fun m6 hf => ?_)
      refine j_iload_n X dM_picks_97 rfl 1 rfl ?_
      refine j_iload_n X dM_picks_98 rfl 0 rfl ?_
      refine j_iconst X dM_picks_99 ?_
      show bz_J _ _ 100 _ _ _
      refine j_ixor X dM_picks_100 ?_
      refine j_iand X dM_picks_101 ?_
      refine j_lt (g := bz_i) hf (fun l1 hf => ?_)
      refine j_istore_n X (lv' := [(1, bz_i l1), (3, bz_i l3), (0, bz_rf E 81)]) dM_picks_102 rfl (by decide) rfl ?_
      refine j_goto X (tgt := 14) dM_picks_103 (by decide) ?_
      exact j_sub [0, 2] rfl (ih _ _ hf)
def fM_picks (F : Nat) (M : bz_Mm) : Option (bz_Mm) :=
  wf_ M 81 78 0 fun m1 =>
  lt_ ((sl_ 1 (m1 81 74)) - 1) fun l1 =>
  cl1_ (M_picks_L14 F F l1 m1) fun m8 =>
  some m8
set_option maxHeartbeats 4000000 in
set_option maxRecDepth 20000 in
theorem cM_picks (E : bz_E) (F : Nat)  {M : bz_Mm} {x0 : bz_Mm} (hf : fM_picks F M = some x0) : bz_Ct E yM_picks (.code yM_picks prog_14_method_102_code 4 none) 0 0 [bz_rf E 81] M (none) x0 := by
  refine bz_met (by decide +kernel) (Nat.le_of_ble_eq_true rfl) (fun K X => ?_)
  have X : bz_X K E prog_14_method_102_code 4 "UnitsWrongModel" none 0 0 _ _ := X
  unfold fM_picks at hf
  show bz_J K 4 0 [(0, bz_rf E 81)] [] M
  refine j_aload_n X dM_picks_0 rfl 0 rfl ?_
  refine j_iconst X dM_picks_1 ?_
  refine j_puti X pf_M_558_81 dM_picks_2 hf (fun m1 hf => ?_)
  refine j_iconst X dM_picks_5 ?_
  refine j_aload_n X dM_picks_6 rfl 0 rfl ?_
  refine j_geti X gf_M_549_81 dM_picks_7 ?_
  refine j_ishl X dM_picks_10 ?_
  show bz_J _ _ 11 _ _ _
  refine j_iconst X dM_picks_11 ?_
  refine j_isub X dM_picks_12 ?_
  refine j_lt (g := bz_i) hf (fun l1 hf => ?_)
  refine j_istore_n X (lv' := [(1, bz_i l1), (0, bz_rf E 81)]) dM_picks_13 rfl (by decide) rfl ?_
  obtain ⟨res9, hz9, hk9⟩ := q_l1 hf
  clear hf
  refine lM_picks_L14 E F X (fun m8 he => ?_) F l1 m1 hz9
  have hf := hk9 _ he
  cases hf
  exact j_vret X dM_picks_106 rfl rfl
def M_settles_L22 (F : Nat) : Nat → Int → bz_Mm → Option ((Int × bz_Mm) ⊕ (bz_Mm))
  | 0, _, _ => none
  | n + 1, l2, M =>
    if w32 l2 < 22 then
    (rd_ M 230 l2 22 fun x3 =>
    if w64 x3 = 0 then
    (M_settles_L22 F n (l2 + 1) M)
    else
    (if w32 (M 81 74) = 10 then
    (some (.inl ((0, M))))
    else
    (wa_ M 231 (M 81 74) 10 l2 fun m4 =>
    wf_ m4 81 74 ((m4 81 74) + 1) fun m5 =>
    M_settles_L22 F n (l2 + 1) m5)))
    else
    (some (.inr M))
def M_settles_L100 (F : Nat) : Nat → Int → Int → bz_Mm → Option (bz_Mm)
  | 0, _, _, _ => none
  | n + 1, l2, l3, M =>
    if w32 l3 < w32 (M 81 74) then
    (if w32 (ia_ (sr_ l2 l3) 1) = 1 then
    (rd_ M 233 l2 1024 fun x8 =>
    rd_ M 231 l3 10 fun x9 =>
    rd_ M 230 x9 22 fun x10 =>
    wa_ M 233 l2 1024 (x8 + x10) fun m11 =>
    M_settles_L100 F n l2 (l3 + 1) m11)
    else
    (M_settles_L100 F n l2 (l3 + 1) M))
    else
    (some M)
def M_settles_L81 (F : Nat) : Nat → Int → bz_Mm → Option (bz_Mm)
  | 0, _, _ => none
  | n + 1, l2, M =>
    if w32 l2 < w32 (sl_ 1 (M 81 74)) then
    (wa_ M 233 l2 1024 0 fun m7 =>
    cl1_ (M_settles_L100 F F l2 0 m7) fun m12 =>
    M_settles_L81 F n (l2 + 1) m12)
    else
    (some M)
def M_settles_L151 (F : Nat) : Nat → Int → bz_Mm → Option (bz_Mm)
  | 0, _, _ => none
  | n + 1, l2, M =>
    if w32 l2 < w32 (sl_ 1 (M 81 74)) then
    (cl_ (fM_mosts F M l2) fun m15 =>
    M_settles_L151 F n (l2 + 1) m15)
    else
    (some M)
theorem lM_settles_L22 (E : bz_E) (F : Nat) {K : bz_K} {rv : Option Value} {M1 : bz_Mm} (X : bz_X K E prog_14_method_100_code 4 "UnitsWrongModel" (some .boolean) 9 228 rv M1) {res : ((Int × bz_Mm) ⊕ (bz_Mm))}
    (kx : ∀ (M : bz_Mm), some (.inr M) = some res → bz_J K 4 79 [(0, bz_rf E 81)] [] M) (kr : ∀ b : Int × bz_Mm, some (.inl b) = some res → some (bz_i b.1) = rv ∧ b.2 = M1) :
    ∀ (n : Nat) (l2 : Int) (M : bz_Mm), M_settles_L22 F n l2 M = some res → bz_J K 4 22 [(2, bz_i l2), (0, bz_rf E 81)] [] M := by
  intro n
  induction n with
  | zero => intro l2 M hf; cases hf
  | succ n ih =>
    intro l2 M hf
    rw [M_settles_L22] at hf
    refine j_iload_n X dM_settles_22 rfl 0 rfl ?_
    refine j_bipush X dM_settles_23 rfl ?_
    refine j_icmp_ge X (tgt := 79) rfl (w32_lit rfl) dM_settles_25 (by decide) hf (fun hf => ?_) (fun hf => ?_)
    · exact j_sub [1] rfl (kx _ hf)
    · refine j_aload_n X dM_settles_28 rfl 1 rfl ?_
      refine j_geta X gf_M_193_81 dM_settles_29 ?_
      refine j_iload_n X dM_settles_32 rfl 0 rfl ?_
      refine j_lald X sh_230 dM_settles_33 hf (fun x3 hf => ?_)
      refine j_lconst X (v := 0) dM_settles_34 rfl ?_
      refine j_lcmp_ne X (tgt := 42) rfl (w64_lit rfl) dM_settles_35 dM_settles_36 (by decide) hf (fun hf => ?_) (fun hf => ?_)
      · refine j_aload_n X dM_settles_42 rfl 1 rfl ?_
        refine j_geti X gf_M_549_81 dM_settles_43 ?_
        refine j_bipush X dM_settles_46 rfl ?_
        refine j_icmp_ne X (tgt := 53) rfl (w32_lit rfl) dM_settles_48 (by decide) hf (fun hf => ?_) (fun hf => ?_)
        · refine j_aload_n X dM_settles_53 rfl 1 rfl ?_
          refine j_geta X gf_M_196_81 dM_settles_54 ?_
          refine j_aload_n X dM_settles_57 rfl 1 rfl ?_
          refine j_geti X gf_M_549_81 dM_settles_58 ?_
          refine j_iload_n X dM_settles_61 rfl 0 rfl ?_
          refine j_iast X sh_231 dM_settles_62 hf (fun m4 hf => ?_)
          refine j_aload_n X dM_settles_63 rfl 1 rfl ?_
          show bz_J _ _ 64 _ _ _
          refine j_dup X dM_settles_64 rfl ?_
          refine j_geti X gf_M_549_81 dM_settles_65 ?_
          refine j_iconst X dM_settles_68 ?_
          refine j_iadd X dM_settles_69 ?_
          refine j_puti X pf_M_549_81 dM_settles_70 hf (fun m5 hf => ?_)
          refine j_iinc X (y := l2 + 1) (lv' := [(2, bz_i (l2 + 1)), (0, bz_rf E 81)]) dM_settles_73 0 rfl rfl (by decide) rfl ?_
          refine j_goto X (tgt := 22) dM_settles_76 (by decide) ?_
          exact ih _ _ hf
        · refine j_iconst X dM_settles_51 ?_
          exact j_zret X (by decide +kernel) dM_settles_52 (kr _ hf).1 (kr _ hf).2
      · refine j_goto X (tgt := 73) dM_settles_39 (by decide) ?_
        refine j_iinc X (y := l2 + 1) (lv' := [(2, bz_i (l2 + 1)), (0, bz_rf E 81)]) dM_settles_73 0 rfl rfl (by decide) rfl ?_
        refine j_goto X (tgt := 22) dM_settles_76 (by decide) ?_
        exact ih _ _ hf
theorem lM_settles_L100 (E : bz_E) (F : Nat) {K : bz_K} {rv : Option Value} {M1 : bz_Mm} (X : bz_X K E prog_14_method_100_code 4 "UnitsWrongModel" (some .boolean) 9 228 rv M1) {l2 : Int} {res : (bz_Mm)}
    (kx : ∀ (M : bz_Mm), some M = some res → bz_J K 4 143 [(2, bz_i l2), (0, bz_rf E 81)] [] M) :
    ∀ (n : Nat) (l3 : Int) (M : bz_Mm), M_settles_L100 F n l2 l3 M = some res → bz_J K 4 100 [(3, bz_i l3), (2, bz_i l2), (0, bz_rf E 81)] [] M := by
  intro n
  induction n with
  | zero => intro l3 M hf; cases hf
  | succ n ih =>
    intro l3 M hf
    rw [M_settles_L100] at hf
    refine j_iload_n X dM_settles_100 rfl 0 rfl ?_
    refine j_aload_n X dM_settles_101 rfl 2 rfl ?_
    refine j_geti X gf_M_549_81 dM_settles_102 ?_
    refine j_icmp_ge X (tgt := 143) rfl rfl dM_settles_105 (by decide) hf (fun hf => ?_) (fun hf => ?_)
    · exact j_sub [1, 2] rfl (kx _ hf)
    · refine j_iload_n X dM_settles_108 rfl 1 rfl ?_
      refine j_iload_n X dM_settles_109 rfl 0 rfl ?_
      refine j_ishr X dM_settles_110 ?_
      refine j_iconst X dM_settles_111 ?_
      refine j_iand X dM_settles_112 ?_
      refine j_iconst X dM_settles_113 ?_
      refine j_icmp_ne X (tgt := 137) rfl (w32_lit rfl) dM_settles_114 (by decide) hf (fun hf => ?_) (fun hf => ?_)
      · refine j_iinc X (y := l3 + 1) (lv' := [(3, bz_i (l3 + 1)), (2, bz_i l2), (0, bz_rf E 81)]) dM_settles_137 0 rfl rfl (by decide) rfl ?_
        refine j_goto X (tgt := 100) dM_settles_140 (by decide) ?_
        exact ih _ _ hf
      · refine j_aload_n X dM_settles_117 rfl 2 rfl ?_
        refine j_geta X gf_M_202_81 dM_settles_118 ?_
        refine j_iload_n X dM_settles_121 rfl 1 rfl ?_
        refine j_dup2 X dM_settles_122 rfl rfl ?_
        refine j_lald X sh_233 dM_settles_123 hf (fun x8 hf => ?_)
        refine j_aload_n X dM_settles_124 rfl 2 rfl ?_
        refine j_geta X gf_M_193_81 dM_settles_125 ?_
        show bz_J _ _ 128 _ _ _
        refine j_aload_n X dM_settles_128 rfl 2 rfl ?_
        refine j_geta X gf_M_196_81 dM_settles_129 ?_
        refine j_iload_n X dM_settles_132 rfl 0 rfl ?_
        refine j_iald X sh_231 dM_settles_133 hf (fun x9 hf => ?_)
        refine j_lald X sh_230 dM_settles_134 hf (fun x10 hf => ?_)
        refine j_ladd X dM_settles_135 ?_
        refine j_last X sh_233 dM_settles_136 hf (fun m11 hf => ?_)
        refine j_iinc X (y := l3 + 1) (lv' := [(3, bz_i (l3 + 1)), (2, bz_i l2), (0, bz_rf E 81)]) dM_settles_137 0 rfl rfl (by decide) rfl ?_
        show bz_J _ _ 140 _ _ _
        refine j_goto X (tgt := 100) dM_settles_140 (by decide) ?_
        exact ih _ _ hf
theorem lM_settles_L81 (E : bz_E) (F : Nat) {K : bz_K} {rv : Option Value} {M1 : bz_Mm} (X : bz_X K E prog_14_method_100_code 4 "UnitsWrongModel" (some .boolean) 9 228 rv M1) {res : (bz_Mm)}
    (kx : ∀ (M : bz_Mm), some M = some res → bz_J K 4 149 [(0, bz_rf E 81)] [] M) :
    ∀ (n : Nat) (l2 : Int) (M : bz_Mm), M_settles_L81 F n l2 M = some res → bz_J K 4 81 [(2, bz_i l2), (0, bz_rf E 81)] [] M := by
  intro n
  induction n with
  | zero => intro l2 M hf; cases hf
  | succ n ih =>
    intro l2 M hf
    rw [M_settles_L81] at hf
    refine j_iload_n X dM_settles_81 rfl 0 rfl ?_
    refine j_iconst X dM_settles_82 ?_
    refine j_aload_n X dM_settles_83 rfl 1 rfl ?_
    refine j_geti X gf_M_549_81 dM_settles_84 ?_
    refine j_ishl X dM_settles_87 ?_
    refine j_icmp_ge X (tgt := 149) rfl rfl dM_settles_88 (by decide) hf (fun hf => ?_) (fun hf => ?_)
    · exact j_sub [1] rfl (kx _ hf)
    · refine j_aload_n X dM_settles_91 rfl 1 rfl ?_
      refine j_geta X gf_M_202_81 dM_settles_92 ?_
      refine j_iload_n X dM_settles_95 rfl 0 rfl ?_
      refine j_lconst X (v := 0) dM_settles_96 rfl ?_
      refine j_last X sh_233 dM_settles_97 hf (fun m7 hf => ?_)
      refine j_iconst X dM_settles_98 ?_
      refine j_istore_n X (lv' := [(3, bz_i 0), (2, bz_i l2), (0, bz_rf E 81)]) dM_settles_99 rfl (by decide) rfl ?_
      obtain ⟨res13, hz13, hk13⟩ := q_l1 hf
      clear hf
      refine lM_settles_L100 E F X (fun m12 he => ?_) F 0 m7 hz13
      have hf := hk13 _ he
      refine j_iinc X (y := l2 + 1) (lv' := [(2, bz_i (l2 + 1)), (0, bz_rf E 81)]) dM_settles_143 0 rfl rfl (by decide) rfl ?_
      refine j_goto X (tgt := 81) dM_settles_146 (by decide) ?_
      exact ih _ _ hf
theorem lM_settles_L151 (E : bz_E) (F : Nat) {K : bz_K} {rv : Option Value} {M1 : bz_Mm} (X : bz_X K E prog_14_method_100_code 4 "UnitsWrongModel" (some .boolean) 9 228 rv M1) {res : (bz_Mm)}
    (kx : ∀ (M : bz_Mm), some M = some res → bz_J K 4 172 [(0, bz_rf E 81)] [] M) :
    ∀ (n : Nat) (l2 : Int) (M : bz_Mm), M_settles_L151 F n l2 M = some res → bz_J K 4 151 [(2, bz_i l2), (0, bz_rf E 81)] [] M := by
  intro n
  induction n with
  | zero => intro l2 M hf; cases hf
  | succ n ih =>
    intro l2 M hf
    rw [M_settles_L151] at hf
    refine j_iload_n X dM_settles_151 rfl 0 rfl ?_
    refine j_iconst X dM_settles_152 ?_
    refine j_aload_n X dM_settles_153 rfl 1 rfl ?_
    refine j_geti X gf_M_549_81 dM_settles_154 ?_
    refine j_ishl X dM_settles_157 ?_
    refine j_icmp_ge X (tgt := 172) rfl rfl dM_settles_158 (by decide) hf (fun hf => ?_) (fun hf => ?_)
    · exact j_sub [1] rfl (kx _ hf)
    · refine j_aload_n X dM_settles_161 rfl 1 rfl ?_
      refine j_iload_n X dM_settles_162 rfl 0 rfl ?_
      obtain ⟨m15, hz, hf⟩ := q_cl hf
      refine j_cv X (st := []) (cM_mosts E F hz) gyM_mosts gv_M_mosts_81 rfl (by decide) (by decide) wd_1834 rfl (Nat.le_of_ble_eq_true rfl) dM_settles_163 ?_
      clear hz
      refine j_iinc X (y := l2 + 1) (lv' := [(2, bz_i (l2 + 1)), (0, bz_rf E 81)]) dM_settles_166 0 rfl rfl (by decide) rfl ?_
      refine j_goto X (tgt := 151) dM_settles_169 (by decide) ?_
      exact ih _ _ hf
def fM_settles (F : Nat) (M : bz_Mm) (a1 : Int) : Option (Int × bz_Mm) :=
  if w32 (fM_isFund M a1) = 0 then
  (some ((0, M)))
  else
  (cl_ (fM_balances F M a1) fun m1 =>
  wf_ m1 81 74 0 fun m2 =>
  cs1_ (M_settles_L22 F F 0 m2) (fun b => some b) fun m6 =>
  cl1_ (M_settles_L81 F F 0 m6) fun m14 =>
  cl1_ (M_settles_L151 F F 0 m14) fun m16 =>
  cl_ (fM_picks F m16) fun m17 =>
  some ((1, m17)))
set_option maxHeartbeats 4000000 in
set_option maxRecDepth 20000 in
theorem cM_settles (E : bz_E) (F : Nat)  {M : bz_Mm} {a1 : Int} {x0 : Int × bz_Mm} (hf : fM_settles F M a1 = some x0) : bz_Ct E yM_settles (.code yM_settles prog_14_method_100_code 4 (some .boolean)) 9 228 [bz_rf E 81, bz_i a1] M (some (bz_i x0.1)) x0.2 := by
  refine bz_met (by decide +kernel) (Nat.le_of_ble_eq_true rfl) (fun K X => ?_)
  have X : bz_X K E prog_14_method_100_code 4 "UnitsWrongModel" (some .boolean) 9 228 _ _ := X
  unfold fM_settles at hf
  show bz_J K 4 0 [(0, bz_rf E 81), (1, bz_i a1)] [] M
  refine j_aload_n X dM_settles_0 rfl 0 rfl ?_
  refine j_iload_n X dM_settles_1 rfl 1 rfl ?_
  refine j_cv X (st := []) (cM_isFund E) gyM_isFund gv_M_isFund_81 rfl (by decide) (by decide) wd_1479 rfl (Nat.le_of_ble_eq_true rfl) dM_settles_2 ?_
  refine j_if_ne X (tgt := 10) rfl dM_settles_5 (by decide) hf (fun hf => ?_) (fun hf => ?_)
  · refine j_aload_n X dM_settles_10 rfl 0 rfl ?_
    refine j_iload_n X dM_settles_11 rfl 1 rfl ?_
    obtain ⟨m1, hz, hf⟩ := q_cl hf
    refine j_cv X (st := []) (cM_balances E F hz) gyM_balances gv_M_balances_81 rfl (by decide) (by decide) wd_1822 rfl (Nat.le_of_ble_eq_true rfl) dM_settles_12 ?_
    clear hz
    refine j_aload_n X dM_settles_15 rfl 0 rfl ?_
    refine j_iconst X dM_settles_16 ?_
    refine j_puti X pf_M_549_81 dM_settles_17 hf (fun m2 hf => ?_)
    refine j_iconst X dM_settles_20 ?_
    show bz_J _ _ 21 _ _ _
    refine j_istore_n X (lv' := [(2, bz_i 0), (0, bz_rf E 81), (1, bz_i a1)]) dM_settles_21 rfl (by decide) rfl ?_
    obtain ⟨res20, hz20, hk20, hr20⟩ := q_s1 hf
    clear hf
    refine j_sub [0, 1] rfl ?_
    refine lM_settles_L22 E F X (fun m6 he => ?_) (fun b he => ?_) F 0 m2 hz20
    · have hf := hk20 _ he
      refine j_iconst X dM_settles_79 ?_
      refine j_istore_n X (lv' := [(2, bz_i 0), (0, bz_rf E 81)]) dM_settles_80 rfl (by decide) rfl ?_
      obtain ⟨res19, hz19, hk19⟩ := q_l1 hf
      clear hf
      refine lM_settles_L81 E F X (fun m14 he => ?_) F 0 m6 hz19
      have hf := hk19 _ he
      refine j_iconst X dM_settles_149 ?_
      refine j_istore_n X (lv' := [(2, bz_i 0), (0, bz_rf E 81)]) dM_settles_150 rfl (by decide) rfl ?_
      obtain ⟨res18, hz18, hk18⟩ := q_l1 hf
      clear hf
      refine lM_settles_L151 E F X (fun m16 he => ?_) F 0 m14 hz18
      have hf := hk18 _ he
      refine j_aload_n X dM_settles_172 rfl 0 rfl ?_
      obtain ⟨m17, hz, hf⟩ := q_cl hf
      refine j_cv X (st := []) (cM_picks E F hz) gyM_picks gv_M_picks_81 rfl (by decide) (by decide) wd_1838 rfl (Nat.le_of_ble_eq_true rfl) dM_settles_173 ?_
      clear hz
      refine j_iconst X dM_settles_176 ?_
      cases hf
      exact j_zret X (by decide +kernel) dM_settles_177 rfl rfl
    · have hf := hr20 _ he
      cases hf
      exact ⟨rfl, rfl⟩
  · refine j_iconst X dM_settles_8 ?_
    cases hf
    exact j_zret X (by decide +kernel) dM_settles_9 rfl rfl
def fM_payments (F : Nat) (M : bz_Mm) (a1 : Int) : Option (Int × bz_Mm) :=
  cl2_ (fM_settles F M a1) fun x2 m1 =>
  if w32 x2 = 0 then
  (some (((-1), m1)))
  else
  (some (((m1 81 74) - (m1 81 78), m1)))
set_option maxHeartbeats 4000000 in
set_option maxRecDepth 20000 in
theorem cM_payments (E : bz_E) (F : Nat)  {M : bz_Mm} {a1 : Int} {x0 : Int × bz_Mm} (hf : fM_payments F M a1 = some x0) : bz_Ct E yM_payments (.code yM_payments prog_14_method_103_code 2 (some .int)) 10 251 [bz_rf E 81, bz_i a1] M (some (bz_i x0.1)) x0.2 := by
  refine bz_met (by decide +kernel) (Nat.le_of_ble_eq_true rfl) (fun K X => ?_)
  have X : bz_X K E prog_14_method_103_code 2 "UnitsWrongModel" (some .int) 10 251 _ _ := X
  unfold fM_payments at hf
  show bz_J K 2 0 [(0, bz_rf E 81), (1, bz_i a1)] [] M
  refine j_aload_n X dM_payments_0 rfl 0 rfl ?_
  refine j_iload_n X dM_payments_1 rfl 1 rfl ?_
  obtain ⟨x2, m1, hz, hf⟩ := q_cl2 hf
  refine j_cv X (st := []) (cM_settles E F hz) gyM_settles gv_M_settles_81 rfl (by decide) (by decide) wd_1830 rfl (Nat.le_of_ble_eq_true rfl) dM_payments_2 ?_
  clear hz
  refine j_if_eq X (tgt := 20) rfl dM_payments_5 (by decide) hf (fun hf => ?_) (fun hf => ?_)
  · refine j_iconst X dM_payments_20 ?_
    cases hf
    exact j_iret X dM_payments_21 rfl rfl
  · refine j_aload_n X dM_payments_8 rfl 0 rfl ?_
    refine j_geti X gf_M_549_81 dM_payments_9 ?_
    refine j_aload_n X dM_payments_12 rfl 0 rfl ?_
    refine j_geti X gf_M_558_81 dM_payments_13 ?_
    refine j_isub X dM_payments_16 ?_
    refine j_goto X (tgt := 21) dM_payments_17 (by decide) ?_
    cases hf
    exact j_iret X dM_payments_21 rfl rfl
def gM_nameOf (a0 : Int) : Option Int :=
  if w32 a0 = 20 then
  (some 40)
  else
  (if w32 a0 = 21 then
  (some 41)
  else
  (if w32 a0 < 16 then
  (some a0)
  else
  (some ((a0 - 16) + 20))))
def fM_nameOf (a0 : Int) : Int :=
  if w32 a0 = 20 then
  (40)
  else
  (if w32 a0 = 21 then
  (41)
  else
  (if w32 a0 < 16 then
  (a0)
  else
  (((a0 - 16) + 20))))
theorem tM_nameOf (a0 : Int) : gM_nameOf a0 = some (fM_nameOf a0) := by
  unfold gM_nameOf fM_nameOf
  (repeat' (first | rfl | split))
set_option maxHeartbeats 4000000 in
set_option maxRecDepth 20000 in
theorem cM_nameOf (E : bz_E) {M : bz_Mm} {a0 : Int} : bz_Ct E yM_nameOf (.code yM_nameOf prog_14_method_98_code 1 (some .int)) 0 0 [bz_i a0] M (some (bz_i (fM_nameOf a0))) M := by
  have hf := tM_nameOf a0
  refine bz_met (by decide +kernel) (Nat.le_of_ble_eq_true rfl) (fun K X => ?_)
  have X : bz_X K E prog_14_method_98_code 1 "UnitsWrongModel" (some .int) 0 0 _ _ := X
  unfold gM_nameOf at hf
  generalize fM_nameOf a0 = rr at hf X
  show bz_J K 1 0 [(0, bz_i a0)] [] M
  refine j_iload_n X dM_nameOf_0 rfl 0 rfl ?_
  refine j_bipush X dM_nameOf_1 rfl ?_
  refine j_icmp_ne X (tgt := 11) rfl (w32_lit rfl) dM_nameOf_3 (by decide) hf (fun hf => ?_) (fun hf => ?_)
  · refine j_iload_n X dM_nameOf_11 rfl 0 rfl ?_
    refine j_bipush X dM_nameOf_12 rfl ?_
    refine j_icmp_ne X (tgt := 22) rfl (w32_lit rfl) dM_nameOf_14 (by decide) hf (fun hf => ?_) (fun hf => ?_)
    · refine j_iload_n X dM_nameOf_22 rfl 0 rfl ?_
      refine j_bipush X dM_nameOf_23 rfl ?_
      refine j_icmp_ge X (tgt := 32) rfl (w32_lit rfl) dM_nameOf_25 (by decide) hf (fun hf => ?_) (fun hf => ?_)
      · refine j_iload_n X dM_nameOf_32 rfl 0 rfl ?_
        refine j_bipush X dM_nameOf_33 rfl ?_
        refine j_isub X dM_nameOf_35 ?_
        refine j_bipush X dM_nameOf_36 rfl ?_
        refine j_iadd X dM_nameOf_38 ?_
        cases hf
        exact j_iret X dM_nameOf_39 rfl rfl
      · refine j_iload_n X dM_nameOf_28 rfl 0 rfl ?_
        refine j_goto X (tgt := 39) dM_nameOf_29 (by decide) ?_
        cases hf
        exact j_iret X dM_nameOf_39 rfl rfl
    · refine j_bipush X dM_nameOf_17 rfl ?_
      refine j_goto X (tgt := 39) dM_nameOf_19 (by decide) ?_
      cases hf
      exact j_iret X dM_nameOf_39 rfl rfl
  · refine j_bipush X dM_nameOf_6 rfl ?_
    refine j_goto X (tgt := 39) dM_nameOf_8 (by decide) ?_
    cases hf
    exact j_iret X dM_nameOf_39 rfl rfl
def gM_paid (a0 : Int) (a1 : Int) (a2 : Int) (a3 : Int) : Option Int :=
  if w32 a3 = 2 then
  (if w64 a2 < 0 then
  (some (fM_told (-a2)))
  else
  (some (fM_told a2)))
  else
  (if w64 a2 < 0 then
  (if w32 a3 = 0 then
  (some (fM_nameOf a0))
  else
  (some (fM_nameOf a1)))
  else
  (if w32 a3 = 0 then
  (some (fM_nameOf a1))
  else
  (some (fM_nameOf a0))))
def fM_paid (a0 : Int) (a1 : Int) (a2 : Int) (a3 : Int) : Int :=
  if w32 a3 = 2 then
  (if w64 a2 < 0 then
  ((fM_told (-a2)))
  else
  ((fM_told a2)))
  else
  (if w64 a2 < 0 then
  (if w32 a3 = 0 then
  ((fM_nameOf a0))
  else
  ((fM_nameOf a1)))
  else
  (if w32 a3 = 0 then
  ((fM_nameOf a1))
  else
  ((fM_nameOf a0))))
theorem tM_paid (a0 : Int) (a1 : Int) (a2 : Int) (a3 : Int) : gM_paid a0 a1 a2 a3 = some (fM_paid a0 a1 a2 a3) := by
  unfold gM_paid fM_paid
  (repeat' (first | rfl | split))
set_option maxHeartbeats 4000000 in
set_option maxRecDepth 20000 in
theorem cM_paid (E : bz_E) {M : bz_Mm} {a0 : Int} {a1 : Int} {a2 : Int} {a3 : Int} : bz_Ct E yM_paid (.code yM_paid prog_14_method_105_code 5 (some .int)) 2 46 [bz_i a0, bz_i a1, bz_l a2, bz_i a3] M (some (bz_i (fM_paid a0 a1 a2 a3))) M := by
  have hf := tM_paid a0 a1 a2 a3
  refine bz_met (by decide +kernel) (Nat.le_of_ble_eq_true rfl) (fun K X => ?_)
  have X : bz_X K E prog_14_method_105_code 5 "UnitsWrongModel" (some .int) 2 46 _ _ := X
  unfold gM_paid at hf
  generalize fM_paid a0 a1 a2 a3 = rr at hf X
  show bz_J K 5 0 [(0, bz_i a0), (1, bz_i a1), (2, bz_l a2), (4, bz_i a3)] [] M
  refine j_iload X dM_paid_0 3 rfl ?_
  refine j_iconst X dM_paid_2 ?_
  refine j_icmp_ne X (tgt := 22) rfl (w32_lit rfl) dM_paid_3 (by decide) hf (fun hf => ?_) (fun hf => ?_)
  · refine j_lload_n X dM_paid_22 rfl 2 rfl ?_
    refine j_lconst X (v := 0) dM_paid_23 rfl ?_
    refine j_lcmp_ge X (tgt := 32) rfl (w64_lit rfl) dM_paid_24 dM_paid_25 (by decide) hf (fun hf => ?_) (fun hf => ?_)
    · refine j_iconst X dM_paid_32 ?_
      refine j_iload X dM_paid_33 3 rfl ?_
      refine j_if_ne X (tgt := 42) rfl dM_paid_35 (by decide) hf (fun hf => ?_) (fun hf => ?_)
      · refine j_iconst X dM_paid_42 ?_
        refine j_icmp_ne X (ρ := Unit) (r := ()) (a := some ()) (b := none) (tgt := 50) (w32_lit rfl) (w32_lit rfl) dM_paid_43 (by decide) rfl (fun h => by cases h) (fun _ => ?_)
        refine j_iload_n X dM_paid_46 rfl 0 rfl ?_
        refine j_goto X (tgt := 51) dM_paid_47 (by decide) ?_
        refine j_cs X (st := []) (cM_nameOf E) gyM_nameOf wd_1850 rfl (by decide) (by decide) wd_1849 rfl (Nat.le_of_ble_eq_true rfl) dM_paid_51 ?_
        cases hf
        exact j_iret X dM_paid_54 rfl rfl
      · refine j_iconst X dM_paid_38 ?_
        refine j_goto X (tgt := 43) dM_paid_39 (by decide) ?_
        refine j_icmp_ne X (ρ := Unit) (r := ()) (a := none) (b := some ()) (tgt := 50) (w32_lit rfl) (w32_lit rfl) dM_paid_43 (by decide) rfl (fun _ => ?_) (fun h => by cases h)
        refine j_iload_n X dM_paid_50 rfl 1 rfl ?_
        refine j_cs X (st := []) (cM_nameOf E) gyM_nameOf wd_1850 rfl (by decide) (by decide) wd_1849 rfl (Nat.le_of_ble_eq_true rfl) dM_paid_51 ?_
        cases hf
        exact j_iret X dM_paid_54 rfl rfl
    · refine j_iconst X dM_paid_28 ?_
      refine j_goto X (tgt := 33) dM_paid_29 (by decide) ?_
      refine j_iload X dM_paid_33 3 rfl ?_
      refine j_if_ne X (tgt := 42) rfl dM_paid_35 (by decide) hf (fun hf => ?_) (fun hf => ?_)
      · refine j_iconst X dM_paid_42 ?_
        refine j_icmp_ne X (ρ := Unit) (r := ()) (a := none) (b := some ()) (tgt := 50) (w32_lit rfl) (w32_lit rfl) dM_paid_43 (by decide) rfl (fun _ => ?_) (fun h => by cases h)
        refine j_iload_n X dM_paid_50 rfl 1 rfl ?_
        refine j_cs X (st := []) (cM_nameOf E) gyM_nameOf wd_1850 rfl (by decide) (by decide) wd_1849 rfl (Nat.le_of_ble_eq_true rfl) dM_paid_51 ?_
        cases hf
        exact j_iret X dM_paid_54 rfl rfl
      · refine j_iconst X dM_paid_38 ?_
        refine j_goto X (tgt := 43) dM_paid_39 (by decide) ?_
        refine j_icmp_ne X (ρ := Unit) (r := ()) (a := some ()) (b := none) (tgt := 50) (w32_lit rfl) (w32_lit rfl) dM_paid_43 (by decide) rfl (fun h => by cases h) (fun _ => ?_)
        refine j_iload_n X dM_paid_46 rfl 0 rfl ?_
        refine j_goto X (tgt := 51) dM_paid_47 (by decide) ?_
        refine j_cs X (st := []) (cM_nameOf E) gyM_nameOf wd_1850 rfl (by decide) (by decide) wd_1849 rfl (Nat.le_of_ble_eq_true rfl) dM_paid_51 ?_
        cases hf
        exact j_iret X dM_paid_54 rfl rfl
  · refine j_lload_n X dM_paid_6 rfl 2 rfl ?_
    refine j_lconst X (v := 0) dM_paid_7 rfl ?_
    refine j_lcmp_ge X (tgt := 17) rfl (w64_lit rfl) dM_paid_8 dM_paid_9 (by decide) hf (fun hf => ?_) (fun hf => ?_)
    · refine j_lload_n X dM_paid_17 rfl 2 rfl ?_
      refine j_cs X (st := []) (cM_told E) gyM_told wd_1679 rfl (by decide) (by decide) wd_1678 rfl (Nat.le_of_ble_eq_true rfl) dM_paid_18 ?_
      cases hf
      exact j_iret X dM_paid_21 rfl rfl
    · refine j_lload_n X dM_paid_12 rfl 2 rfl ?_
      refine j_lneg X dM_paid_13 ?_
      refine j_goto X (tgt := 18) dM_paid_14 (by decide) ?_
      refine j_cs X (st := []) (cM_told E) gyM_told wd_1679 rfl (by decide) (by decide) wd_1678 rfl (Nat.le_of_ble_eq_true rfl) dM_paid_18 ?_
      cases hf
      exact j_iret X dM_paid_21 rfl rfl
def M_payment_L52 (F : Nat) : Nat → bz_Mm → Int → Int → Int → Int → Int → Int → Int → Option ((Int × bz_Mm) ⊕ (Int))
  | 0, _, _, _, _, _, _, _, _ => none
  | n + 1, M, l5, l2, l3, l9, l8, l6, l4 =>
    if w32 l9 < w32 (M 81 74) then
    (rd_ M 234 l5 10 fun x3 =>
    if w32 (ia_ (sr_ x3 l9) 1) = 0 then
    (M_payment_L52 F n M l5 l2 l3 (l9 + 1) l8 l6 l4)
    else
    (if w32 l8 = (-1) then
    (rd_ M 231 l9 10 fun x4 =>
    rd_ M 230 x4 22 fun x5 =>
    lt_ (l6 + x5) fun l6 =>
    rd_ M 231 l9 10 fun x6 =>
    M_payment_L52 F n M l5 l2 l3 (l9 + 1) x6 l6 l4)
    else
    (if w32 l4 = w32 l2 then
    (rd_ M 231 l9 10 fun x10 =>
    some (.inl ((fM_paid l8 x10 l6 l3, M))))
    else
    (rd_ M 231 l9 10 fun x7 =>
    rd_ M 230 x7 22 fun x8 =>
    lt_ (l6 + x8) fun l6 =>
    rd_ M 231 l9 10 fun x9 =>
    M_payment_L52 F n M l5 l2 l3 (l9 + 1) x9 l6 (l4 + 1)))))
    else
    (some (.inr l4))
def M_payment_L34 (F : Nat) : Nat → bz_Mm → Int → Int → Int → Int → Option ((Int × bz_Mm) ⊕ (Int))
  | 0, _, _, _, _, _ => none
  | n + 1, M, l2, l3, l5, l4 =>
    if w32 l5 < w32 (M 81 78) then
    (cs1_ (M_payment_L52 F F M l5 l2 l3 0 ((-1)) 0 l4) (fun b => some (.inl b)) fun l4 =>
    M_payment_L34 F n M l2 l3 (l5 + 1) l4)
    else
    (some (.inr 0))
theorem lM_payment_L52 (E : bz_E) (F : Nat) {K : bz_K} {rv : Option Value} {M1 : bz_Mm} (X : bz_X K E prog_14_method_104_code 10 "UnitsWrongModel" (some .int) 10 251 rv M1) {M : bz_Mm} {l5 : Int} {l2 : Int} {l3 : Int} {res : ((Int × bz_Mm) ⊕ (Int))}
    (kx : ∀ (l4 : Int), some (.inr l4) = some res → bz_J K 10 142 [(5, bz_i l5), (4, bz_i l4), (0, bz_rf E 81), (2, bz_i l2), (3, bz_i l3)] [] M) (kr : ∀ b : Int × bz_Mm, some (.inl b) = some res → some (bz_i b.1) = rv ∧ b.2 = M1) :
    ∀ (n : Nat) (l9 : Int) (l8 : Int) (l6 : Int) (l4 : Int), M_payment_L52 F n M l5 l2 l3 l9 l8 l6 l4 = some res → bz_J K 10 52 [(9, bz_i l9), (8, bz_i l8), (6, bz_l l6), (5, bz_i l5), (4, bz_i l4), (0, bz_rf E 81), (2, bz_i l2), (3, bz_i l3)] [] M := by
  intro n
  induction n with
  | zero => intro l9 l8 l6 l4 hf; cases hf
  | succ n ih =>
    intro l9 l8 l6 l4 hf
    rw [M_payment_L52] at hf
    refine j_iload X dM_payment_52 0 rfl ?_
    refine j_aload_n X dM_payment_54 rfl 5 rfl ?_
    refine j_geti X gf_M_549_81 dM_payment_55 ?_
    refine j_icmp_ge X (tgt := 142) rfl rfl dM_payment_58 (by decide) hf (fun hf => ?_) (fun hf => ?_)
    · exact j_sub [3, 4, 5, 6, 7] rfl (kx _ hf)
    · refine j_aload_n X dM_payment_61 rfl 5 rfl ?_
      refine j_geta X gf_M_205_81 dM_payment_62 ?_
      refine j_iload X dM_payment_65 3 rfl ?_
      refine j_iald X sh_234 dM_payment_67 hf (fun x3 hf => ?_)
      refine j_iload X dM_payment_68 0 rfl ?_
      refine j_ishr X dM_payment_70 ?_
      refine j_iconst X dM_payment_71 ?_
      show bz_J _ _ 72 _ _ _
      refine j_iand X dM_payment_72 ?_
      refine j_if_ne X (tgt := 79) rfl dM_payment_73 (by decide) hf (fun hf => ?_) (fun hf => ?_)
      · refine j_iload X dM_payment_79 1 rfl ?_
        refine j_iconst X dM_payment_81 ?_
        refine j_icmp_eq X (tgt := 110) rfl (w32_lit rfl) dM_payment_82 (by decide) hf (fun hf => ?_) (fun hf => ?_)
        · refine j_lload X dM_payment_110 2 rfl ?_
          refine j_aload_n X dM_payment_112 rfl 5 rfl ?_
          refine j_geta X gf_M_193_81 dM_payment_113 ?_
          refine j_aload_n X dM_payment_116 rfl 5 rfl ?_
          refine j_geta X gf_M_196_81 dM_payment_117 ?_
          refine j_iload X dM_payment_120 0 rfl ?_
          refine j_iald X sh_231 dM_payment_122 hf (fun x4 hf => ?_)
          show bz_J _ _ 123 _ _ _
          refine j_lald X sh_230 dM_payment_123 hf (fun x5 hf => ?_)
          refine j_ladd X dM_payment_124 ?_
          refine j_lt (g := bz_l) hf (fun l6 hf => ?_)
          refine j_lstore X (lv' := [(6, bz_l l6), (9, bz_i l9), (8, bz_i l8), (5, bz_i l5), (4, bz_i l4), (0, bz_rf E 81), (2, bz_i l2), (3, bz_i l3)]) dM_payment_125 (by decide) rfl ?_
          refine j_aload_n X dM_payment_127 rfl 5 rfl ?_
          refine j_geta X gf_M_196_81 dM_payment_128 ?_
          refine j_iload X dM_payment_131 1 rfl ?_
          refine j_iald X sh_231 dM_payment_133 hf (fun x6 hf => ?_)
          refine j_istore X (lv' := [(8, bz_i x6), (6, bz_l l6), (9, bz_i l9), (5, bz_i l5), (4, bz_i l4), (0, bz_rf E 81), (2, bz_i l2), (3, bz_i l3)]) dM_payment_134 (by decide) rfl ?_
          show bz_J _ _ 136 _ _ _
          refine j_iinc X (y := l9 + 1) (lv' := [(9, bz_i (l9 + 1)), (8, bz_i x6), (6, bz_l l6), (5, bz_i l5), (4, bz_i l4), (0, bz_rf E 81), (2, bz_i l2), (3, bz_i l3)]) dM_payment_136 2 rfl rfl (by decide) rfl ?_
          refine j_goto X (tgt := 52) dM_payment_139 (by decide) ?_
          exact ih _ _ _ _ hf
        · refine j_iload X dM_payment_85 4 rfl ?_
          refine j_iload_n X dM_payment_87 rfl 6 rfl ?_
          refine j_icmp_ne X (tgt := 107) rfl rfl dM_payment_88 (by decide) hf (fun hf => ?_) (fun hf => ?_)
          · refine j_iinc X (y := l4 + 1) (lv' := [(4, bz_i (l4 + 1)), (9, bz_i l9), (8, bz_i l8), (6, bz_l l6), (5, bz_i l5), (0, bz_rf E 81), (2, bz_i l2), (3, bz_i l3)]) dM_payment_107 4 rfl rfl (by decide) rfl ?_
            refine j_lload X dM_payment_110 3 rfl ?_
            refine j_aload_n X dM_payment_112 rfl 5 rfl ?_
            refine j_geta X gf_M_193_81 dM_payment_113 ?_
            refine j_aload_n X dM_payment_116 rfl 5 rfl ?_
            refine j_geta X gf_M_196_81 dM_payment_117 ?_
            refine j_iload X dM_payment_120 1 rfl ?_
            show bz_J _ _ 122 _ _ _
            refine j_iald X sh_231 dM_payment_122 hf (fun x7 hf => ?_)
            refine j_lald X sh_230 dM_payment_123 hf (fun x8 hf => ?_)
            refine j_ladd X dM_payment_124 ?_
            refine j_lt (g := bz_l) hf (fun l6 hf => ?_)
            refine j_lstore X (lv' := [(6, bz_l l6), (4, bz_i (l4 + 1)), (9, bz_i l9), (8, bz_i l8), (5, bz_i l5), (0, bz_rf E 81), (2, bz_i l2), (3, bz_i l3)]) dM_payment_125 (by decide) rfl ?_
            refine j_aload_n X dM_payment_127 rfl 5 rfl ?_
            refine j_geta X gf_M_196_81 dM_payment_128 ?_
            refine j_iload X dM_payment_131 2 rfl ?_
            refine j_iald X sh_231 dM_payment_133 hf (fun x9 hf => ?_)
            show bz_J _ _ 134 _ _ _
            refine j_istore X (lv' := [(8, bz_i x9), (6, bz_l l6), (4, bz_i (l4 + 1)), (9, bz_i l9), (5, bz_i l5), (0, bz_rf E 81), (2, bz_i l2), (3, bz_i l3)]) dM_payment_134 (by decide) rfl ?_
            refine j_iinc X (y := l9 + 1) (lv' := [(9, bz_i (l9 + 1)), (8, bz_i x9), (6, bz_l l6), (4, bz_i (l4 + 1)), (5, bz_i l5), (0, bz_rf E 81), (2, bz_i l2), (3, bz_i l3)]) dM_payment_136 3 rfl rfl (by decide) rfl ?_
            refine j_goto X (tgt := 52) dM_payment_139 (by decide) ?_
            exact j_sub [0, 1, 2, 4, 3, 5, 6, 7] rfl (ih _ _ _ _ hf)
          · refine j_iload X dM_payment_91 1 rfl ?_
            refine j_aload_n X dM_payment_93 rfl 5 rfl ?_
            refine j_geta X gf_M_196_81 dM_payment_94 ?_
            refine j_iload X dM_payment_97 0 rfl ?_
            refine j_iald X sh_231 dM_payment_99 hf (fun x10 hf => ?_)
            refine j_lload X dM_payment_100 2 rfl ?_
            refine j_iload_n X dM_payment_102 rfl 7 rfl ?_
            show bz_J _ _ 103 _ _ _
            refine j_cs X (st := []) (cM_paid E) gyM_paid wd_1847 rfl (by decide) (by decide) wd_1846 rfl (Nat.le_of_ble_eq_true rfl) dM_payment_103 ?_
            exact j_iret X dM_payment_106 (kr _ hf).1 (kr _ hf).2
      · refine j_goto X (tgt := 136) dM_payment_76 (by decide) ?_
        refine j_iinc X (y := l9 + 1) (lv' := [(9, bz_i (l9 + 1)), (8, bz_i l8), (6, bz_l l6), (5, bz_i l5), (4, bz_i l4), (0, bz_rf E 81), (2, bz_i l2), (3, bz_i l3)]) dM_payment_136 0 rfl rfl (by decide) rfl ?_
        refine j_goto X (tgt := 52) dM_payment_139 (by decide) ?_
        exact ih _ _ _ _ hf
theorem lM_payment_L34 (E : bz_E) (F : Nat) {K : bz_K} {rv : Option Value} {M1 : bz_Mm} (X : bz_X K E prog_14_method_104_code 10 "UnitsWrongModel" (some .int) 10 251 rv M1) {M : bz_Mm} {l2 : Int} {l3 : Int} {res : ((Int × bz_Mm) ⊕ (Int))}
    (kx : ∀ (_u : Int), some (.inr _u) = some res → bz_J K 10 148 [] [] M) (kr : ∀ b : Int × bz_Mm, some (.inl b) = some res → some (bz_i b.1) = rv ∧ b.2 = M1) :
    ∀ (n : Nat) (l5 : Int) (l4 : Int), M_payment_L34 F n M l2 l3 l5 l4 = some res → bz_J K 10 34 [(5, bz_i l5), (4, bz_i l4), (0, bz_rf E 81), (2, bz_i l2), (3, bz_i l3)] [] M := by
  intro n
  induction n with
  | zero => intro l5 l4 hf; cases hf
  | succ n ih =>
    intro l5 l4 hf
    rw [M_payment_L34] at hf
    refine j_iload X dM_payment_34 0 rfl ?_
    refine j_aload_n X dM_payment_36 rfl 2 rfl ?_
    refine j_geti X gf_M_558_81 dM_payment_37 ?_
    refine j_icmp_ge X (tgt := 148) rfl rfl dM_payment_40 (by decide) hf (fun hf => ?_) (fun hf => ?_)
    · exact j_sub [] rfl (kx _ hf)
    · refine j_lconst X (v := 0) dM_payment_43 rfl ?_
      refine j_lstore X (lv' := [(6, bz_l 0), (5, bz_i l5), (4, bz_i l4), (0, bz_rf E 81), (2, bz_i l2), (3, bz_i l3)]) dM_payment_44 (by decide) rfl ?_
      refine j_iconst X dM_payment_46 ?_
      refine j_istore X (lv' := [(8, bz_i ((-1))), (6, bz_l 0), (5, bz_i l5), (4, bz_i l4), (0, bz_rf E 81), (2, bz_i l2), (3, bz_i l3)]) dM_payment_47 (by decide) rfl ?_
      refine j_iconst X dM_payment_49 ?_
      refine j_istore X (lv' := [(9, bz_i 0), (8, bz_i ((-1))), (6, bz_l 0), (5, bz_i l5), (4, bz_i l4), (0, bz_rf E 81), (2, bz_i l2), (3, bz_i l3)]) dM_payment_50 (by decide) rfl ?_
      obtain ⟨res11, hz11, hk11, hr11⟩ := q_s1 hf
      clear hf
      refine lM_payment_L52 E F X (fun l4 he => ?_) (fun b he => ?_) F 0 ((-1)) 0 l4 hz11
      · have hf := hk11 _ he
        refine j_iinc X (y := l5 + 1) (lv' := [(5, bz_i (l5 + 1)), (4, bz_i l4), (0, bz_rf E 81), (2, bz_i l2), (3, bz_i l3)]) dM_payment_142 0 rfl rfl (by decide) rfl ?_
        refine j_goto X (tgt := 34) dM_payment_145 (by decide) ?_
        exact ih _ _ hf
      · exact kr _ (hr11 _ he)
def fM_payment (F : Nat) (M : bz_Mm) (a1 : Int) (a2 : Int) (a3 : Int) : Option (Int × bz_Mm) :=
  if w32 a2 < 0 then
  (some (((-2147483648), M)))
  else
  (if w32 (fM_in (w32 a3) 0 2) = 0 then
  (some (((-2147483648), M)))
  else
  (cl2_ (fM_settles F M a1) fun x2 m1 =>
  if w32 x2 = 0 then
  (some (((-2147483648), m1)))
  else
  (cs1_ (M_payment_L34 F F m1 a2 a3 0 0) (fun b => some b) fun _u =>
  some (((-2147483648), m1)))))
set_option maxHeartbeats 4000000 in
set_option maxRecDepth 20000 in
theorem cM_payment (E : bz_E) (F : Nat)  {M : bz_Mm} {a1 : Int} {a2 : Int} {a3 : Int} {x0 : Int × bz_Mm} (hf : fM_payment F M a1 a2 a3 = some x0) : bz_Ct E yM_payment (.code yM_payment prog_14_method_104_code 10 (some .int)) 10 251 [bz_rf E 81, bz_i a1, bz_i a2, bz_i a3] M (some (bz_i x0.1)) x0.2 := by
  refine bz_met (by decide +kernel) (Nat.le_of_ble_eq_true rfl) (fun K X => ?_)
  have X : bz_X K E prog_14_method_104_code 10 "UnitsWrongModel" (some .int) 10 251 _ _ := X
  unfold fM_payment at hf
  show bz_J K 10 0 [(0, bz_rf E 81), (1, bz_i a1), (2, bz_i a2), (3, bz_i a3)] [] M
  refine j_iload_n X dM_payment_0 rfl 2 rfl ?_
  refine j_if_lt X (tgt := 24) rfl dM_payment_1 (by decide) hf (fun hf => ?_) (fun hf => ?_)
  · refine j_ldcw X (v := -2147483648) wd_1448 dM_payment_24 ?_
    cases hf
    exact j_iret X dM_payment_27 rfl rfl
  · refine j_iload_n X dM_payment_4 rfl 3 rfl ?_
    refine j_i2l X rfl dM_payment_5 ?_
    refine j_lconst X (v := 0) dM_payment_6 rfl ?_
    refine j_ldc2 X (v := 2) wd_1429 dM_payment_7 ?_
    refine j_cs X (st := []) (cM_in E) gyM_in wd_1409 rfl (by decide) (by decide) wd_1408 rfl (Nat.le_of_ble_eq_true rfl) dM_payment_10 ?_
    refine j_if_eq X (tgt := 24) rfl dM_payment_13 (by decide) hf (fun hf => ?_) (fun hf => ?_)
    · refine j_ldcw X (v := -2147483648) wd_1448 dM_payment_24 ?_
      cases hf
      exact j_iret X dM_payment_27 rfl rfl
    · refine j_aload_n X dM_payment_16 rfl 0 rfl ?_
      refine j_iload_n X dM_payment_17 rfl 1 rfl ?_
      obtain ⟨x2, m1, hz, hf⟩ := q_cl2 hf
      refine j_cv X (st := []) (cM_settles E F hz) gyM_settles gv_M_settles_81 rfl (by decide) (by decide) wd_1830 rfl (Nat.le_of_ble_eq_true rfl) dM_payment_18 ?_
      clear hz
      refine j_if_ne X (tgt := 28) rfl dM_payment_21 (by decide) hf (fun hf => ?_) (fun hf => ?_)
      · refine j_iconst X dM_payment_28 ?_
        refine j_istore X (lv' := [(4, bz_i 0), (0, bz_rf E 81), (1, bz_i a1), (2, bz_i a2), (3, bz_i a3)]) dM_payment_29 (by decide) rfl ?_
        refine j_iconst X dM_payment_31 ?_
        refine j_istore X (lv' := [(5, bz_i 0), (4, bz_i 0), (0, bz_rf E 81), (1, bz_i a1), (2, bz_i a2), (3, bz_i a3)]) dM_payment_32 (by decide) rfl ?_
        obtain ⟨res12, hz12, hk12, hr12⟩ := q_s1 hf
        clear hf
        refine j_sub [0, 1, 2, 4, 5] rfl ?_
        refine lM_payment_L34 E F X (fun _u he => ?_) (fun b he => ?_) F 0 0 hz12
        · have hf := hk12 _ he
          refine j_ldcw X (v := -2147483648) wd_1448 dM_payment_148 ?_
          cases hf
          exact j_iret X dM_payment_151 rfl rfl
        · have hf := hr12 _ he
          cases hf
          exact ⟨rfl, rfl⟩
      · refine j_ldcw X (v := -2147483648) wd_1448 dM_payment_24 ?_
        cases hf
        exact j_iret X dM_payment_27 rfl rfl
def M_count_L23 (F : Nat) : Nat → bz_Mm → Int → Int → Int → Option (Int)
  | 0, _, _, _, _ => none
  | n + 1, M, l1, l3, l2 =>
    if w32 l3 < w32 (M 81 35) then
    (rd_ M 108 l3 200 fun x1 =>
    if w32 x1 = 0 then
    (lt_ (l2 + 0) fun l2 =>
    M_count_L23 F n M l1 (l3 + 1) l2)
    else
    (rd_ M 104 l3 200 fun x2 =>
    if w32 x2 = w32 (l1 - 20) then
    (rd_ M 107 l3 200 fun x3 =>
    lt_ (l2 + x3) fun l2 =>
    M_count_L23 F n M l1 (l3 + 1) l2)
    else
    (lt_ (l2 + 0) fun l2 =>
    M_count_L23 F n M l1 (l3 + 1) l2)))
    else
    (some l2)
theorem lM_count_L23 (E : bz_E) (F : Nat) {K : bz_K} {rv : Option Value} {M1 : bz_Mm} (X : bz_X K E prog_14_method_106_code 4 "UnitsWrongModel" (some .int) 1 25 rv M1) {M : bz_Mm} {l1 : Int} {res : (Int)}
    (kx : ∀ (l2 : Int), some l2 = some res → bz_J K 4 72 [(2, bz_i l2)] [] M) :
    ∀ (n : Nat) (l3 : Int) (l2 : Int), M_count_L23 F n M l1 l3 l2 = some res → bz_J K 4 23 [(3, bz_i l3), (2, bz_i l2), (0, bz_rf E 81), (1, bz_i l1)] [] M := by
  intro n
  induction n with
  | zero => intro l3 l2 hf; cases hf
  | succ n ih =>
    intro l3 l2 hf
    rw [M_count_L23] at hf
    refine j_iload_n X dM_count_23 rfl 0 rfl ?_
    refine j_aload_n X dM_count_24 rfl 2 rfl ?_
    refine j_geti X gf_M_302_81 dM_count_25 ?_
    refine j_icmp_ge X (tgt := 72) rfl rfl dM_count_28 (by decide) hf (fun hf => ?_) (fun hf => ?_)
    · exact j_sub [1] rfl (kx _ hf)
    · refine j_iload_n X dM_count_31 rfl 1 rfl ?_
      refine j_aload_n X dM_count_32 rfl 2 rfl ?_
      refine j_geta X gf_M_89_81 dM_count_33 ?_
      refine j_iload_n X dM_count_36 rfl 0 rfl ?_
      refine j_zald X sh_108 dM_count_37 hf (fun x1 hf => ?_)
      refine j_if_eq X (tgt := 63) rfl dM_count_38 (by decide) hf (fun hf => ?_) (fun hf => ?_)
      · refine j_iconst X dM_count_63 ?_
        refine j_iadd X dM_count_64 ?_
        refine j_lt (g := bz_i) hf (fun l2 hf => ?_)
        refine j_istore_n X (lv' := [(2, bz_i l2), (3, bz_i l3), (0, bz_rf E 81), (1, bz_i l1)]) dM_count_65 rfl (by decide) rfl ?_
        refine j_iinc X (y := l3 + 1) (lv' := [(3, bz_i (l3 + 1)), (2, bz_i l2), (0, bz_rf E 81), (1, bz_i l1)]) dM_count_66 1 rfl rfl (by decide) rfl ?_
        refine j_goto X (tgt := 23) dM_count_69 (by decide) ?_
        exact ih _ _ hf
      · refine j_aload_n X dM_count_41 rfl 2 rfl ?_
        refine j_geta X gf_M_77_81 dM_count_42 ?_
        refine j_iload_n X dM_count_45 rfl 0 rfl ?_
        refine j_iald X sh_104 dM_count_46 hf (fun x2 hf => ?_)
        refine j_iload_n X dM_count_47 rfl 3 rfl ?_
        refine j_bipush X dM_count_48 rfl ?_
        refine j_isub X dM_count_50 ?_
        show bz_J _ _ 51 _ _ _
        refine j_icmp_ne X (tgt := 63) rfl rfl dM_count_51 (by decide) hf (fun hf => ?_) (fun hf => ?_)
        · refine j_iconst X dM_count_63 ?_
          refine j_iadd X dM_count_64 ?_
          refine j_lt (g := bz_i) hf (fun l2 hf => ?_)
          refine j_istore_n X (lv' := [(2, bz_i l2), (3, bz_i l3), (0, bz_rf E 81), (1, bz_i l1)]) dM_count_65 rfl (by decide) rfl ?_
          refine j_iinc X (y := l3 + 1) (lv' := [(3, bz_i (l3 + 1)), (2, bz_i l2), (0, bz_rf E 81), (1, bz_i l1)]) dM_count_66 1 rfl rfl (by decide) rfl ?_
          refine j_goto X (tgt := 23) dM_count_69 (by decide) ?_
          exact ih _ _ hf
        · refine j_aload_n X dM_count_54 rfl 2 rfl ?_
          refine j_geta X gf_M_86_81 dM_count_55 ?_
          refine j_iload_n X dM_count_58 rfl 0 rfl ?_
          refine j_iald X sh_107 dM_count_59 hf (fun x3 hf => ?_)
          refine j_goto X (tgt := 64) dM_count_60 (by decide) ?_
          refine j_iadd X dM_count_64 ?_
          refine j_lt (g := bz_i) hf (fun l2 hf => ?_)
          refine j_istore_n X (lv' := [(2, bz_i l2), (3, bz_i l3), (0, bz_rf E 81), (1, bz_i l1)]) dM_count_65 rfl (by decide) rfl ?_
          show bz_J _ _ 66 _ _ _
          refine j_iinc X (y := l3 + 1) (lv' := [(3, bz_i (l3 + 1)), (2, bz_i l2), (0, bz_rf E 81), (1, bz_i l1)]) dM_count_66 1 rfl rfl (by decide) rfl ?_
          refine j_goto X (tgt := 23) dM_count_69 (by decide) ?_
          exact ih _ _ hf
def fM_count (F : Nat) (M : bz_Mm) (a1 : Int) : Option (Int) :=
  if w32 (fM_in (w32 a1) 20 (w32 (19 + (M 81 19)))) = 0 then
  (if w32 a1 = 0 then
  (some (M 81 0))
  else if w32 a1 = 1 then
  (some (M 81 19))
  else if w32 a1 = 2 then
  (some (M 81 20))
  else if w32 a1 = 3 then
  (some (M 81 12))
  else if w32 a1 = 4 then
  (some (M 81 27))
  else if w32 a1 = 5 then
  (some (M 81 35))
  else if w32 a1 = 6 then
  (some (M 81 43))
  else if w32 a1 = 7 then
  (some (M 81 37))
  else if w32 a1 = 8 then
  (some (M 81 69))
  else if w32 a1 = 9 then
  (some (M 81 13))
  else if w32 a1 = 10 then
  (some (M 81 2))
  else (some ((-1))))
  else
  (cl1_ (M_count_L23 F F M a1 0 0) fun l2 =>
  some l2)
set_option maxHeartbeats 4000000 in
set_option maxRecDepth 20000 in
theorem cM_count (E : bz_E) (F : Nat)  {M : bz_Mm} {a1 : Int} {x0 : Int} (hf : fM_count F M a1 = some x0) : bz_Ct E yM_count (.code yM_count prog_14_method_106_code 4 (some .int)) 1 25 [bz_rf E 81, bz_i a1] M (some (bz_i x0)) M := by
  refine bz_met (by decide +kernel) (Nat.le_of_ble_eq_true rfl) (fun K X => ?_)
  have X : bz_X K E prog_14_method_106_code 4 "UnitsWrongModel" (some .int) 1 25 _ _ := X
  unfold fM_count at hf
  show bz_J K 4 0 [(0, bz_rf E 81), (1, bz_i a1)] [] M
  refine j_iload_n X dM_count_0 rfl 1 rfl ?_
  refine j_i2l X rfl dM_count_1 ?_
  refine j_ldc2 X (v := 20) wd_1856 dM_count_2 ?_
  refine j_bipush X dM_count_5 rfl ?_
  refine j_aload_n X dM_count_7 rfl 0 rfl ?_
  refine j_geti X gf_M_275_81 dM_count_8 ?_
  refine j_iadd X dM_count_11 ?_
  show bz_J _ _ 12 _ _ _
  refine j_i2l X rfl dM_count_12 ?_
  refine j_cs X (st := []) (cM_in E) gyM_in wd_1409 rfl (by decide) (by decide) wd_1408 rfl (Nat.le_of_ble_eq_true rfl) dM_count_13 ?_
  refine j_if_eq X (tgt := 74) rfl dM_count_16 (by decide) hf (fun hf => ?_) (fun hf => ?_)
  · refine j_iload_n X dM_count_74 rfl 1 rfl ?_
    rcases q_ite hf with ⟨hc0, hf⟩ | ⟨hc0, hf⟩
    · refine j_tabIn X (tgt := 132) (v := 0) hc0 dM_count_75 (by decide) (by decide) rfl (by decide) ?_
      refine j_aload_n X dM_count_132 rfl 0 rfl ?_
      refine j_geti X gf_M_216_81 dM_count_133 ?_
      cases hf
      exact j_iret X dM_count_136 rfl rfl
    rcases q_ite hf with ⟨hc1, hf⟩ | ⟨hc1, hf⟩
    · refine j_tabIn X (tgt := 137) (v := 1) hc1 dM_count_75 (by decide) (by decide) rfl (by decide) ?_
      refine j_aload_n X dM_count_137 rfl 0 rfl ?_
      refine j_geti X gf_M_275_81 dM_count_138 ?_
      cases hf
      exact j_iret X dM_count_141 rfl rfl
    rcases q_ite hf with ⟨hc2, hf⟩ | ⟨hc2, hf⟩
    · refine j_tabIn X (tgt := 142) (v := 2) hc2 dM_count_75 (by decide) (by decide) rfl (by decide) ?_
      refine j_aload_n X dM_count_142 rfl 0 rfl ?_
      refine j_geti X gf_M_284_81 dM_count_143 ?_
      cases hf
      exact j_iret X dM_count_146 rfl rfl
    rcases q_ite hf with ⟨hc3, hf⟩ | ⟨hc3, hf⟩
    · refine j_tabIn X (tgt := 147) (v := 3) hc3 dM_count_75 (by decide) (by decide) rfl (by decide) ?_
      refine j_aload_n X dM_count_147 rfl 0 rfl ?_
      refine j_geti X gf_M_251_81 dM_count_148 ?_
      cases hf
      exact j_iret X dM_count_151 rfl rfl
    rcases q_ite hf with ⟨hc4, hf⟩ | ⟨hc4, hf⟩
    · refine j_tabIn X (tgt := 152) (v := 4) hc4 dM_count_75 (by decide) (by decide) rfl (by decide) ?_
      refine j_aload_n X dM_count_152 rfl 0 rfl ?_
      refine j_geti X gf_M_294_81 dM_count_153 ?_
      cases hf
      exact j_iret X dM_count_156 rfl rfl
    rcases q_ite hf with ⟨hc5, hf⟩ | ⟨hc5, hf⟩
    · refine j_tabIn X (tgt := 157) (v := 5) hc5 dM_count_75 (by decide) (by decide) rfl (by decide) ?_
      refine j_aload_n X dM_count_157 rfl 0 rfl ?_
      refine j_geti X gf_M_302_81 dM_count_158 ?_
      cases hf
      exact j_iret X dM_count_161 rfl rfl
    rcases q_ite hf with ⟨hc6, hf⟩ | ⟨hc6, hf⟩
    · refine j_tabIn X (tgt := 162) (v := 6) hc6 dM_count_75 (by decide) (by decide) rfl (by decide) ?_
      refine j_aload_n X dM_count_162 rfl 0 rfl ?_
      refine j_geti X gf_M_413_81 dM_count_163 ?_
      cases hf
      exact j_iret X dM_count_166 rfl rfl
    rcases q_ite hf with ⟨hc7, hf⟩ | ⟨hc7, hf⟩
    · refine j_tabIn X (tgt := 167) (v := 7) hc7 dM_count_75 (by decide) (by decide) rfl (by decide) ?_
      refine j_aload_n X dM_count_167 rfl 0 rfl ?_
      refine j_geti X gf_M_309_81 dM_count_168 ?_
      cases hf
      exact j_iret X dM_count_171 rfl rfl
    rcases q_ite hf with ⟨hc8, hf⟩ | ⟨hc8, hf⟩
    · refine j_tabIn X (tgt := 172) (v := 8) hc8 dM_count_75 (by decide) (by decide) rfl (by decide) ?_
      refine j_aload_n X dM_count_172 rfl 0 rfl ?_
      refine j_geti X gf_M_523_81 dM_count_173 ?_
      cases hf
      exact j_iret X dM_count_176 rfl rfl
    rcases q_ite hf with ⟨hc9, hf⟩ | ⟨hc9, hf⟩
    · refine j_tabIn X (tgt := 177) (v := 9) hc9 dM_count_75 (by decide) (by decide) rfl (by decide) ?_
      refine j_aload_n X dM_count_177 rfl 0 rfl ?_
      refine j_geti X gf_M_526_81 dM_count_178 ?_
      cases hf
      exact j_iret X dM_count_181 rfl rfl
    rcases q_ite hf with ⟨hc10, hf⟩ | ⟨hc10, hf⟩
    · refine j_tabIn X (tgt := 182) (v := 10) hc10 dM_count_75 (by decide) (by decide) rfl (by decide) ?_
      refine j_aload_n X dM_count_182 rfl 0 rfl ?_
      refine j_geti X gf_M_226_81 dM_count_183 ?_
      cases hf
      exact j_iret X dM_count_186 rfl rfl
    refine j_tabOut X (tgt := 187) (by omega) dM_count_75 (by decide) ?_
    refine j_iconst X dM_count_187 ?_
    cases hf
    exact j_iret X dM_count_188 rfl rfl
  · refine j_iconst X dM_count_19 ?_
    refine j_istore_n X (lv' := [(2, bz_i 0), (0, bz_rf E 81), (1, bz_i a1)]) dM_count_20 rfl (by decide) rfl ?_
    refine j_iconst X dM_count_21 ?_
    refine j_istore_n X (lv' := [(3, bz_i 0), (2, bz_i 0), (0, bz_rf E 81), (1, bz_i a1)]) dM_count_22 rfl (by decide) rfl ?_
    obtain ⟨res4, hz4, hk4⟩ := q_l1 hf
    clear hf
    refine lM_count_L23 E F X (fun l2 he => ?_) F 0 0 hz4
    have hf := hk4 _ he
    refine j_iload_n X dM_count_72 rfl 0 rfl ?_
    cases hf
    exact j_iret X dM_count_73 rfl rfl
