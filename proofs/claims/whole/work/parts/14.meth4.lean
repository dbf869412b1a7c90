def M_ruleOf_L6 (F : Nat) : Nat → bz_Mm → Int → Int → Int → Int → Int → Option (Int)
  | 0, _, _, _, _, _, _ => none
  | n + 1, M, l1, l2, l3, l5, l4 =>
    if w32 l5 < w32 (M 81 43) then
    (rd_ M 154 l5 6 fun x1 =>
    if w32 l2 < w32 x1 then
    (M_ruleOf_L6 F n M l1 l2 l3 (l5 + 1) l4)
    else
    (M_ruleOf_L6 F n M l1 l2 l3 (l5 + 1) l5))
    else
    (some l4)
theorem lM_ruleOf_L6 (E : bz_E) (F : Nat) {K : bz_K} {rv : Option Value} {M1 : bz_Mm} (X : bz_X K E prog_14_method_44_code 6 "UnitsWrongModel" (some .int) 0 0 rv M1) {M : bz_Mm} {l1 : Int} {l2 : Int} {l3 : Int} {res : (Int)}
    (kx : ∀ (l4 : Int), some l4 = some res → bz_J K 6 36 [(4, bz_i l4), (0, bz_rf E 81), (1, bz_i l1), (3, bz_i l3)] [] M) :
    ∀ (n : Nat) (l5 : Int) (l4 : Int), M_ruleOf_L6 F n M l1 l2 l3 l5 l4 = some res → bz_J K 6 6 [(5, bz_i l5), (4, bz_i l4), (0, bz_rf E 81), (1, bz_i l1), (2, bz_i l2), (3, bz_i l3)] [] M := by
  intro n
  induction n with
  | zero => intro l5 l4 hf; cases hf
  | succ n ih =>
    intro l5 l4 hf
    rw [M_ruleOf_L6] at hf
    refine j_iload X dM_ruleOf_6 0 rfl ?_
    refine j_aload_n X dM_ruleOf_8 rfl 2 rfl ?_
    refine j_geti X gf_M_413_81 dM_ruleOf_9 ?_
    refine j_icmp_ge X (tgt := 36) rfl rfl dM_ruleOf_12 (by decide) hf (fun hf => ?_) (fun hf => ?_)
    · exact j_sub [1, 2, 3, 5] rfl (kx _ hf)
    · refine j_aload_n X dM_ruleOf_15 rfl 2 rfl ?_
      refine j_geta X gf_M_105_81 dM_ruleOf_16 ?_
      refine j_iload X dM_ruleOf_19 0 rfl ?_
      refine j_iald X sh_154 dM_ruleOf_21 hf (fun x1 hf => ?_)
      refine j_iload_n X dM_ruleOf_22 rfl 4 rfl ?_
      refine j_icmp_gt X (tgt := 30) rfl rfl dM_ruleOf_23 (by decide) hf (fun hf => ?_) (fun hf => ?_)
      · refine j_iinc X (y := l5 + 1) (lv' := [(5, bz_i (l5 + 1)), (4, bz_i l4), (0, bz_rf E 81), (1, bz_i l1), (2, bz_i l2), (3, bz_i l3)]) dM_ruleOf_30 0 rfl rfl (by decide) rfl ?_
        refine j_goto X (tgt := 6) dM_ruleOf_33 (by decide) ?_
        exact ih _ _ hf
      · refine j_iload X dM_ruleOf_26 0 rfl ?_
        refine j_istore X (lv' := [(4, bz_i l5), (5, bz_i l5), (0, bz_rf E 81), (1, bz_i l1), (2, bz_i l2), (3, bz_i l3)]) dM_ruleOf_28 (by decide) rfl ?_
        refine j_iinc X (y := l5 + 1) (lv' := [(5, bz_i (l5 + 1)), (4, bz_i l5), (0, bz_rf E 81), (1, bz_i l1), (2, bz_i l2), (3, bz_i l3)]) dM_ruleOf_30 1 rfl rfl (by decide) rfl ?_
        refine j_goto X (tgt := 6) dM_ruleOf_33 (by decide) ?_
        exact ih _ _ hf
def fM_ruleOf (F : Nat) (M : bz_Mm) (a1 : Int) (a2 : Int) (a3 : Int) : Option (Int) :=
  cl1_ (M_ruleOf_L6 F F M a1 a2 a3 0 ((-1))) fun l4 =>
  if w32 l4 = (-1) then
  (rd_ M 155 a3 12 fun x15 =>
  some x15)
  else
  (ra_ l4 7 fun i2 =>
  ra_ a1 5 fun i3 =>
  rd_ M (119 + 5 * i2 + i3) a3 12 fun x4 =>
  if w32 x4 = (-2147483648) then
  (ra_ l4 7 fun i5 =>
  ra_ 4 5 fun i6 =>
  rd_ M (119 + 5 * i5 + i6) a3 12 fun x7 =>
  if w32 x7 = (-2147483648) then
  (rd_ M 155 a3 12 fun x8 =>
  some x8)
  else
  (ra_ l4 7 fun i9 =>
  ra_ 4 5 fun i10 =>
  rd_ M (119 + 5 * i9 + i10) a3 12 fun x11 =>
  some x11))
  else
  (ra_ l4 7 fun i12 =>
  ra_ a1 5 fun i13 =>
  rd_ M (119 + 5 * i12 + i13) a3 12 fun x14 =>
  some x14))
set_option maxHeartbeats 4000000 in
set_option maxRecDepth 20000 in
theorem cM_ruleOf (E : bz_E) (F : Nat)  {M : bz_Mm} {a1 : Int} {a2 : Int} {a3 : Int} {x0 : Int} (hf : fM_ruleOf F M a1 a2 a3 = some x0) : bz_Ct E yM_ruleOf (.code yM_ruleOf prog_14_method_44_code 6 (some .int)) 0 0 [bz_rf E 81, bz_i a1, bz_i a2, bz_i a3] M (some (bz_i x0)) M := by
  refine bz_met (by decide +kernel) (Nat.le_of_ble_eq_true rfl) (fun K X => ?_)
  have X : bz_X K E prog_14_method_44_code 6 "UnitsWrongModel" (some .int) 0 0 _ _ := X
  unfold fM_ruleOf at hf
  show bz_J K 6 0 [(0, bz_rf E 81), (1, bz_i a1), (2, bz_i a2), (3, bz_i a3)] [] M
  refine j_iconst X dM_ruleOf_0 ?_
  refine j_istore X (lv' := [(4, bz_i ((-1))), (0, bz_rf E 81), (1, bz_i a1), (2, bz_i a2), (3, bz_i a3)]) dM_ruleOf_1 (by decide) rfl ?_
  refine j_iconst X dM_ruleOf_3 ?_
  refine j_istore X (lv' := [(5, bz_i 0), (4, bz_i ((-1))), (0, bz_rf E 81), (1, bz_i a1), (2, bz_i a2), (3, bz_i a3)]) dM_ruleOf_4 (by decide) rfl ?_
  obtain ⟨res16, hz16, hk16⟩ := q_l1 hf
  clear hf
  refine lM_ruleOf_L6 E F X (fun l4 he => ?_) F 0 ((-1)) hz16
  have hf := hk16 _ he
  refine j_iload X dM_ruleOf_36 0 rfl ?_
  refine j_iconst X dM_ruleOf_38 ?_
  refine j_icmp_ne X (tgt := 49) rfl (w32_lit rfl) dM_ruleOf_39 (by decide) hf (fun hf => ?_) (fun hf => ?_)
  · refine j_aload_n X dM_ruleOf_49 rfl 1 rfl ?_
    refine j_geta X gf_M_102_81 dM_ruleOf_50 ?_
    refine j_iload X dM_ruleOf_53 0 rfl ?_
    refine j_aald X sh_111 (by decide) (by decide) dM_ruleOf_55 hf (fun i2 hi2 hf => ?_)
    refine j_iload_n X dM_ruleOf_56 rfl 2 rfl ?_
    refine j_aald X (sr_111 i2 hi2) (by decide) (by decide) dM_ruleOf_57 hf (fun i3 hi3 hf => ?_)
    refine j_iload_n X dM_ruleOf_58 rfl 3 rfl ?_
    show bz_J _ _ 59 _ _ _
    refine j_iald X (sq_111 i2 hi2 i3 hi3) dM_ruleOf_59 hf (fun x4 hf => ?_)
    refine j_ldcw X (v := -2147483648) wd_1448 dM_ruleOf_60 ?_
    refine j_icmp_eq X (tgt := 78) rfl (w32_lit rfl) dM_ruleOf_63 (by decide) hf (fun hf => ?_) (fun hf => ?_)
    · refine j_aload_n X dM_ruleOf_78 rfl 1 rfl ?_
      refine j_geta X gf_M_102_81 dM_ruleOf_79 ?_
      refine j_iload X dM_ruleOf_82 0 rfl ?_
      refine j_aald X sh_111 (by decide) (by decide) dM_ruleOf_84 hf (fun i5 hi5 hf => ?_)
      refine j_iconst X dM_ruleOf_85 ?_
      refine j_aald X (sr_111 i5 hi5) (by decide) (by decide) dM_ruleOf_86 hf (fun i6 hi6 hf => ?_)
      refine j_iload_n X dM_ruleOf_87 rfl 3 rfl ?_
      show bz_J _ _ 88 _ _ _
      refine j_iald X (sq_111 i5 hi5 i6 hi6) dM_ruleOf_88 hf (fun x7 hf => ?_)
      refine j_ldcw X (v := -2147483648) wd_1448 dM_ruleOf_89 ?_
      refine j_icmp_eq X (tgt := 109) rfl (w32_lit rfl) dM_ruleOf_92 (by decide) hf (fun hf => ?_) (fun hf => ?_)
      · refine j_aload_n X dM_ruleOf_109 rfl 1 rfl ?_
        refine j_geta X gf_M_108_81 dM_ruleOf_110 ?_
        refine j_iload_n X dM_ruleOf_113 rfl 3 rfl ?_
        refine j_iald X sh_155 dM_ruleOf_114 hf (fun x8 hf => ?_)
        cases hf
        exact j_iret X dM_ruleOf_115 rfl rfl
      · refine j_aload_n X dM_ruleOf_95 rfl 1 rfl ?_
        refine j_geta X gf_M_102_81 dM_ruleOf_96 ?_
        refine j_iload X dM_ruleOf_99 0 rfl ?_
        refine j_aald X sh_111 (by decide) (by decide) dM_ruleOf_101 hf (fun i9 hi9 hf => ?_)
        refine j_iconst X dM_ruleOf_102 ?_
        refine j_aald X (sr_111 i9 hi9) (by decide) (by decide) dM_ruleOf_103 hf (fun i10 hi10 hf => ?_)
        refine j_iload_n X dM_ruleOf_104 rfl 3 rfl ?_
        show bz_J _ _ 105 _ _ _
        refine j_iald X (sq_111 i9 hi9 i10 hi10) dM_ruleOf_105 hf (fun x11 hf => ?_)
        refine j_goto X (tgt := 115) dM_ruleOf_106 (by decide) ?_
        cases hf
        exact j_iret X dM_ruleOf_115 rfl rfl
    · refine j_aload_n X dM_ruleOf_66 rfl 1 rfl ?_
      refine j_geta X gf_M_102_81 dM_ruleOf_67 ?_
      refine j_iload X dM_ruleOf_70 0 rfl ?_
      refine j_aald X sh_111 (by decide) (by decide) dM_ruleOf_72 hf (fun i12 hi12 hf => ?_)
      refine j_iload_n X dM_ruleOf_73 rfl 2 rfl ?_
      refine j_aald X (sr_111 i12 hi12) (by decide) (by decide) dM_ruleOf_74 hf (fun i13 hi13 hf => ?_)
      refine j_iload_n X dM_ruleOf_75 rfl 3 rfl ?_
      show bz_J _ _ 76 _ _ _
      refine j_iald X (sq_111 i12 hi12 i13 hi13) dM_ruleOf_76 hf (fun x14 hf => ?_)
      cases hf
      exact j_iret X dM_ruleOf_77 rfl rfl
  · refine j_aload_n X dM_ruleOf_42 rfl 1 rfl ?_
    refine j_geta X gf_M_108_81 dM_ruleOf_43 ?_
    refine j_iload_n X dM_ruleOf_46 rfl 3 rfl ?_
    refine j_iald X sh_155 dM_ruleOf_47 hf (fun x15 hf => ?_)
    cases hf
    exact j_iret X dM_ruleOf_48 rfl rfl
def M_deal_L146 (F : Nat) : Nat → bz_Mm → Int → Int → Int → Int → Option (Int)
  | 0, _, _, _, _, _ => none
  | n + 1, M, l5, l2, l3, l6 =>
    if w32 l6 < 260 then
    (cl_ (fM_isOpen F M l6) fun x9 =>
    if w32 x9 = 0 then
    (M_deal_L146 F n M l5 l2 l3 (l6 + 1))
    else
    (some l6))
    else
    (some l6)
def M_deal_L146a (F : Nat) : Nat → bz_Mm → Int → Int → Int → Int → Option (Int)
  | 0, _, _, _, _, _ => none
  | n + 1, M, l5, l2, l3, l6 =>
    if w32 l6 < 260 then
    (cl_ (fM_isOpen F M l6) fun x24 =>
    if w32 x24 = 0 then
    (M_deal_L146a F n M l5 l2 l3 (l6 + 1))
    else
    (some l6))
    else
    (some l6)
theorem lM_deal_L146 (E : bz_E) (F : Nat) {K : bz_K} {rv : Option Value} {M1 : bz_Mm} (X : bz_X K E prog_14_method_23_code 8 "UnitsWrongModel" (some .int) 3 67 rv M1) {M : bz_Mm} {l5 : Int} {l2 : Int} {l3 : Int} {res : (Int)}
    (kx : ∀ (l6 : Int), some l6 = some res → bz_J K 8 169 [(6, bz_i l6), (5, bz_i l5), (0, bz_rf E 81), (2, bz_i l2), (3, bz_i l3)] [] M) :
    ∀ (n : Nat) (l6 : Int), M_deal_L146 F n M l5 l2 l3 l6 = some res → bz_J K 8 146 [(6, bz_i l6), (5, bz_i l5), (0, bz_rf E 81), (2, bz_i l2), (3, bz_i l3)] [] M := by
  intro n
  induction n with
  | zero => intro l6 hf; cases hf
  | succ n ih =>
    intro l6 hf
    rw [M_deal_L146] at hf
    refine j_iload X dM_deal_146 0 rfl ?_
    refine j_sipush X dM_deal_148 rfl ?_
    refine j_icmp_ge X (tgt := 169) rfl (w32_lit rfl) dM_deal_151 (by decide) hf (fun hf => ?_) (fun hf => ?_)
    · exact kx _ hf
    · refine j_aload_n X dM_deal_154 rfl 2 rfl ?_
      refine j_iload X dM_deal_155 0 rfl ?_
      obtain ⟨x9, hzx9, hf⟩ := q_cl hf
      refine j_cv X (st := []) (cM_isOpen E F hzx9) gyM_isOpen gv_M_isOpen_81 rfl (by decide) (by decide) wd_1415 rfl (Nat.le_of_ble_eq_true rfl) dM_deal_157 ?_
      refine j_if_ne X (tgt := 169) rfl dM_deal_160 (by decide) hf (fun hf => ?_) (fun hf => ?_)
      · exact kx _ hf
      · refine j_iinc X (y := l6 + 1) (lv' := [(6, bz_i (l6 + 1)), (5, bz_i l5), (0, bz_rf E 81), (2, bz_i l2), (3, bz_i l3)]) dM_deal_163 0 rfl rfl (by decide) rfl ?_
        refine j_goto X (tgt := 146) dM_deal_166 (by decide) ?_
        exact ih _ hf
theorem lM_deal_L146a (E : bz_E) (F : Nat) {K : bz_K} {rv : Option Value} {M1 : bz_Mm} (X : bz_X K E prog_14_method_23_code 8 "UnitsWrongModel" (some .int) 3 67 rv M1) {M : bz_Mm} {l5 : Int} {l2 : Int} {l3 : Int} {res : (Int)}
    (kx : ∀ (l6 : Int), some l6 = some res → bz_J K 8 169 [(6, bz_i l6), (5, bz_i l5), (0, bz_rf E 81), (2, bz_i l2), (3, bz_i l3)] [] M) :
    ∀ (n : Nat) (l6 : Int), M_deal_L146a F n M l5 l2 l3 l6 = some res → bz_J K 8 146 [(6, bz_i l6), (5, bz_i l5), (0, bz_rf E 81), (2, bz_i l2), (3, bz_i l3)] [] M := by
  intro n
  induction n with
  | zero => intro l6 hf; cases hf
  | succ n ih =>
    intro l6 hf
    rw [M_deal_L146a] at hf
    refine j_iload X dM_deal_146 0 rfl ?_
    refine j_sipush X dM_deal_148 rfl ?_
    refine j_icmp_ge X (tgt := 169) rfl (w32_lit rfl) dM_deal_151 (by decide) hf (fun hf => ?_) (fun hf => ?_)
    · exact kx _ hf
    · refine j_aload_n X dM_deal_154 rfl 2 rfl ?_
      refine j_iload X dM_deal_155 0 rfl ?_
      obtain ⟨x24, hzx24, hf⟩ := q_cl hf
      refine j_cv X (st := []) (cM_isOpen E F hzx24) gyM_isOpen gv_M_isOpen_81 rfl (by decide) (by decide) wd_1415 rfl (Nat.le_of_ble_eq_true rfl) dM_deal_157 ?_
      refine j_if_ne X (tgt := 169) rfl dM_deal_160 (by decide) hf (fun hf => ?_) (fun hf => ?_)
      · exact kx _ hf
      · refine j_iinc X (y := l6 + 1) (lv' := [(6, bz_i (l6 + 1)), (5, bz_i l5), (0, bz_rf E 81), (2, bz_i l2), (3, bz_i l3)]) dM_deal_163 0 rfl rfl (by decide) rfl ?_
        refine j_goto X (tgt := 146) dM_deal_166 (by decide) ?_
        exact ih _ hf
def fM_deal (F : Nat) (M : bz_Mm) (a1 : Int) (a2 : Int) (a3 : Int) (a4 : Int) : Option (Int × bz_Mm) :=
  lt_ (fM_placeOf M a1) fun l5 =>
  if w32 l5 = (-1) then
  (some (((-1), M)))
  else
  (if w32 (fM_isFund M a2) = 0 then
  (some (((-1), M)))
  else
  (if w32 l5 < 16 then
  (if w32 (fM_in (w32 a4) 0 23) = 0 then
  (some (((-1), M)))
  else
  (if w32 (fM_in (w32 a3) ((-10000)) 10000) = 0 then
  (some (((-1), M)))
  else
  (if w32 a3 = 0 then
  (some (((-1), M)))
  else
  (if w32 (M 81 35) = 200 then
  (some (((-1), M)))
  else
  (lt_ (M 81 0) fun l6 =>
  cl_ (fM_isOpen F M (M 81 0)) fun x1 =>
  cl1_ (if w32 x1 = 0 then
  (some (0))
  else
  (cl1_ (if w32 l5 < 16 then
  (rd_ M 94 l5 16 fun x6 =>
  some (x6))
  else
  (some (0))) fun v5 =>
  cl_ (fM_ruleOf F M a2 (M 81 0) 3) fun x7 =>
  if w32 (a4 - v5) < w32 x7 then
  (some (1))
  else
  (some (0)))) fun v3 =>
  cl1_ (if w32 v3 = 0 then
  (cl1_ (M_deal_L146 F F M l5 a2 a3 (l6 + 1)) fun l6 =>
  some (l6))
  else
  (some (l6))) fun l6 =>
  if w32 l6 < 260 then
  (wa_ M 103 (M 81 35) 200 l5 fun m11 =>
  wa_ m11 104 (m11 81 35) 200 a2 fun m12 =>
  wa_ m12 105 (m12 81 35) 200 a3 fun m13 =>
  wa_ m13 106 (m13 81 35) 200 l6 fun m14 =>
  wf_ m14 81 35 ((m14 81 35) + 1) fun m15 =>
  some (((m15 81 35) - 1, m15)))
  else
  (some (((-1), M))))))))
  else
  (if w32 a2 < w32 (l5 - 16) then
  (if w32 (fM_in (w32 a4) 0 23) = 0 then
  (some (((-1), M)))
  else
  (if w32 (fM_in (w32 a3) ((-10000)) 10000) = 0 then
  (some (((-1), M)))
  else
  (if w32 a3 = 0 then
  (some (((-1), M)))
  else
  (if w32 (M 81 35) = 200 then
  (some (((-1), M)))
  else
  (lt_ (M 81 0) fun l6 =>
  cl_ (fM_isOpen F M (M 81 0)) fun x16 =>
  cl1_ (if w32 x16 = 0 then
  (some (0))
  else
  (cl1_ (if w32 l5 < 16 then
  (rd_ M 94 l5 16 fun x21 =>
  some (x21))
  else
  (some (0))) fun v20 =>
  cl_ (fM_ruleOf F M a2 (M 81 0) 3) fun x22 =>
  if w32 (a4 - v20) < w32 x22 then
  (some (1))
  else
  (some (0)))) fun v18 =>
  cl1_ (if w32 v18 = 0 then
  (cl1_ (M_deal_L146a F F M l5 a2 a3 (l6 + 1)) fun l6 =>
  some (l6))
  else
  (some (l6))) fun l6 =>
  if w32 l6 < 260 then
  (wa_ M 103 (M 81 35) 200 l5 fun m26 =>
  wa_ m26 104 (m26 81 35) 200 a2 fun m27 =>
  wa_ m27 105 (m27 81 35) 200 a3 fun m28 =>
  wa_ m28 106 (m28 81 35) 200 l6 fun m29 =>
  wf_ m29 81 35 ((m29 81 35) + 1) fun m30 =>
  some (((m30 81 35) - 1, m30)))
  else
  (some (((-1), M))))))))
  else
  (some (((-1), M))))))
set_option maxHeartbeats 4000000 in
set_option maxRecDepth 20000 in
theorem cM_deal (E : bz_E) (F : Nat)  {M : bz_Mm} {a1 : Int} {a2 : Int} {a3 : Int} {a4 : Int} {x0 : Int × bz_Mm} (hf : fM_deal F M a1 a2 a3 a4 = some x0) : bz_Ct E yM_deal (.code yM_deal prog_14_method_23_code 8 (some .int)) 3 67 [bz_rf E 81, bz_i a1, bz_i a2, bz_i a3, bz_i a4] M (some (bz_i x0.1)) x0.2 := by
  refine bz_met (by decide +kernel) (Nat.le_of_ble_eq_true rfl) (fun K X => ?_)
  have X : bz_X K E prog_14_method_23_code 8 "UnitsWrongModel" (some .int) 3 67 _ _ := X
  unfold fM_deal at hf
  show bz_J K 8 0 [(0, bz_rf E 81), (1, bz_i a1), (2, bz_i a2), (3, bz_i a3), (4, bz_i a4)] [] M
  refine j_aload_n X dM_deal_0 rfl 0 rfl ?_
  refine j_iload_n X dM_deal_1 rfl 1 rfl ?_
  refine j_cv X (st := []) (cM_placeOf E) gyM_placeOf gv_M_placeOf_81 rfl (by decide) (by decide) wd_1489 rfl (Nat.le_of_ble_eq_true rfl) dM_deal_2 ?_
  refine j_lt (g := bz_i) hf (fun l5 hf => ?_)
  refine j_istore X (lv' := [(5, bz_i l5), (0, bz_rf E 81), (1, bz_i a1), (2, bz_i a2), (3, bz_i a3), (4, bz_i a4)]) dM_deal_5 (by decide) rfl ?_
  refine j_iload X dM_deal_7 0 rfl ?_
  refine j_iconst X dM_deal_9 ?_
  refine j_icmp_eq X (tgt := 78) rfl (w32_lit rfl) dM_deal_10 (by decide) hf (fun hf => ?_) (fun hf => ?_)
  · refine j_iconst X dM_deal_78 ?_
    cases hf
    exact j_iret X dM_deal_79 rfl rfl
  · refine j_aload_n X dM_deal_13 rfl 1 rfl ?_
    refine j_iload_n X dM_deal_14 rfl 3 rfl ?_
    refine j_cv X (st := []) (cM_isFund E) gyM_isFund gv_M_isFund_81 rfl (by decide) (by decide) wd_1479 rfl (Nat.le_of_ble_eq_true rfl) dM_deal_15 ?_
    refine j_if_eq X (tgt := 78) rfl dM_deal_18 (by decide) hf (fun hf => ?_) (fun hf => ?_)
    · refine j_iconst X dM_deal_78 ?_
      cases hf
      exact j_iret X dM_deal_79 rfl rfl
    · refine j_iload X dM_deal_21 0 rfl ?_
      refine j_bipush X dM_deal_23 rfl ?_
      refine j_icmp_lt X (tgt := 37) rfl (w32_lit rfl) dM_deal_25 (by decide) hf (fun hf => ?_) (fun hf => ?_)
      · refine j_iload X dM_deal_37 5 rfl ?_
        refine j_i2l X rfl dM_deal_39 ?_
        refine j_lconst X (v := 0) dM_deal_40 rfl ?_
        refine j_ldc2 X (v := 23) wd_1493 dM_deal_41 ?_
        refine j_cs X (st := []) (cM_in E) gyM_in wd_1409 rfl (by decide) (by decide) wd_1408 rfl (Nat.le_of_ble_eq_true rfl) dM_deal_44 ?_
        refine j_if_eq X (tgt := 78) rfl dM_deal_47 (by decide) hf (fun hf => ?_) (fun hf => ?_)
        · refine j_iconst X dM_deal_78 ?_
          cases hf
          exact j_iret X dM_deal_79 rfl rfl
        · refine j_iload_n X dM_deal_50 rfl 4 rfl ?_
          refine j_i2l X rfl dM_deal_51 ?_
          refine j_ldc2 X (v := -10000) wd_1483 dM_deal_52 ?_
          refine j_ldc2 X (v := 10000) wd_1432 dM_deal_55 ?_
          refine j_cs X (st := []) (cM_in E) gyM_in wd_1409 rfl (by decide) (by decide) wd_1408 rfl (Nat.le_of_ble_eq_true rfl) dM_deal_58 ?_
          refine j_if_eq X (tgt := 78) rfl dM_deal_61 (by decide) hf (fun hf => ?_) (fun hf => ?_)
          · refine j_iconst X dM_deal_78 ?_
            cases hf
            exact j_iret X dM_deal_79 rfl rfl
          · refine j_iload_n X dM_deal_64 rfl 4 rfl ?_
            refine j_if_eq X (tgt := 78) rfl dM_deal_65 (by decide) hf (fun hf => ?_) (fun hf => ?_)
            · refine j_iconst X dM_deal_78 ?_
              cases hf
              exact j_iret X dM_deal_79 rfl rfl
            · refine j_aload_n X dM_deal_68 rfl 1 rfl ?_
              refine j_geti X gf_M_302_81 dM_deal_69 ?_
              refine j_sipush X dM_deal_72 rfl ?_
              refine j_icmp_ne X (tgt := 80) rfl (w32_lit rfl) dM_deal_75 (by decide) hf (fun hf => ?_) (fun hf => ?_)
              · refine j_aload_n X dM_deal_80 rfl 1 rfl ?_
                refine j_geti X gf_M_216_81 dM_deal_81 ?_
                refine j_lt (g := bz_i) hf (fun l6 hf => ?_)
                refine j_istore X (lv' := [(6, bz_i l6), (5, bz_i l5), (0, bz_rf E 81), (1, bz_i a1), (2, bz_i a2), (3, bz_i a3), (4, bz_i a4)]) dM_deal_84 (by decide) rfl ?_
                refine j_aload_n X dM_deal_86 rfl 2 rfl ?_
                refine j_aload_n X dM_deal_87 rfl 2 rfl ?_
                refine j_geti X gf_M_216_81 dM_deal_88 ?_
                obtain ⟨x1, hzx1, hf⟩ := q_cl hf
                refine j_cv X (st := []) (cM_isOpen E F hzx1) gyM_isOpen gv_M_isOpen_81 rfl (by decide) (by decide) wd_1415 rfl (Nat.le_of_ble_eq_true rfl) dM_deal_91 ?_
                show bz_J _ _ 94 _ _ _
                obtain ⟨resJ2, hf0, hkJ2⟩ := q_l1 hf
                have J2 : ∀ (v3 : Int), some v3 = some resJ2 → bz_J K 8 136 [(6, bz_i l6), (5, bz_i l5), (0, bz_rf E 81), (2, bz_i a2), (3, bz_i a3)] [bz_i v3] M := by
                  intro v3 he
                  have hf := hkJ2 _ he
                  refine j_istore X (lv' := [(7, bz_i v3), (6, bz_i l6), (5, bz_i l5), (0, bz_rf E 81), (2, bz_i a2), (3, bz_i a3)]) dM_deal_136 (by decide) rfl ?_
                  refine j_iload X dM_deal_138 0 rfl ?_
                  obtain ⟨resJ8, hf0, hkJ8⟩ := q_l1 hf
                  have J8 : ∀ (l6 : Int), some l6 = some resJ8 → bz_J K 8 169 [(6, bz_i l6), (5, bz_i l5), (0, bz_rf E 81), (2, bz_i a2), (3, bz_i a3)] [] M := by
                    intro l6 he
                    have hf := hkJ8 _ he
                    refine j_iload X dM_deal_169 0 rfl ?_
                    refine j_sipush X dM_deal_171 rfl ?_
                    refine j_icmp_lt X (tgt := 179) rfl (w32_lit rfl) dM_deal_174 (by decide) hf (fun hf => ?_) (fun hf => ?_)
                    · refine j_aload_n X dM_deal_179 rfl 2 rfl ?_
                      refine j_geta X gf_M_74_81 dM_deal_180 ?_
                      refine j_aload_n X dM_deal_183 rfl 2 rfl ?_
                      refine j_geti X gf_M_302_81 dM_deal_184 ?_
                      refine j_iload X dM_deal_187 1 rfl ?_
                      refine j_iast X sh_103 dM_deal_189 hf (fun m11 hf => ?_)
                      refine j_aload_n X dM_deal_190 rfl 2 rfl ?_
                      show bz_J _ _ 191 _ _ _
                      refine j_geta X gf_M_77_81 dM_deal_191 ?_
                      refine j_aload_n X dM_deal_194 rfl 2 rfl ?_
                      refine j_geti X gf_M_302_81 dM_deal_195 ?_
                      refine j_iload_n X dM_deal_198 rfl 3 rfl ?_
                      refine j_iast X sh_104 dM_deal_199 hf (fun m12 hf => ?_)
                      refine j_aload_n X dM_deal_200 rfl 2 rfl ?_
                      refine j_geta X gf_M_80_81 dM_deal_201 ?_
                      refine j_aload_n X dM_deal_204 rfl 2 rfl ?_
                      show bz_J _ _ 205 _ _ _
                      refine j_geti X gf_M_302_81 dM_deal_205 ?_
                      refine j_iload_n X dM_deal_208 rfl 4 rfl ?_
                      refine j_iast X sh_105 dM_deal_209 hf (fun m13 hf => ?_)
                      refine j_aload_n X dM_deal_210 rfl 2 rfl ?_
                      refine j_geta X gf_M_83_81 dM_deal_211 ?_
                      refine j_aload_n X dM_deal_214 rfl 2 rfl ?_
                      refine j_geti X gf_M_302_81 dM_deal_215 ?_
                      refine j_iload X dM_deal_218 0 rfl ?_
                      show bz_J _ _ 220 _ _ _
                      refine j_iast X sh_106 dM_deal_220 hf (fun m14 hf => ?_)
                      refine j_aload_n X dM_deal_221 rfl 2 rfl ?_
                      refine j_dup X dM_deal_222 rfl ?_
                      refine j_geti X gf_M_302_81 dM_deal_223 ?_
                      refine j_iconst X dM_deal_226 ?_
                      refine j_iadd X dM_deal_227 ?_
                      refine j_puti X pf_M_302_81 dM_deal_228 hf (fun m15 hf => ?_)
                      refine j_aload_n X dM_deal_231 rfl 2 rfl ?_
                      show bz_J _ _ 232 _ _ _
                      refine j_geti X gf_M_302_81 dM_deal_232 ?_
                      refine j_iconst X dM_deal_235 ?_
                      refine j_isub X dM_deal_236 ?_
                      cases hf
                      exact j_iret X dM_deal_237 rfl rfl
                    · refine j_iconst X dM_deal_177 ?_
                      cases hf
                      exact j_iret X dM_deal_178 rfl rfl
                  clear hf
                  have hf := hf0
                  clear hf0
                  refine j_if_ne X (tgt := 169) rfl dM_deal_140 (by decide) hf (fun hf => ?_) (fun hf => ?_)
                  · exact j_sub [1, 2, 3, 4, 5] rfl (J8 _ hf)
                  · refine j_iinc X (y := l6 + 1) (lv' := [(6, bz_i (l6 + 1)), (7, bz_i v3), (5, bz_i l5), (0, bz_rf E 81), (2, bz_i a2), (3, bz_i a3)]) dM_deal_143 1 rfl rfl (by decide) rfl ?_
                    obtain ⟨res10, hz10, hk10⟩ := q_l1 hf
                    clear hf
                    refine j_sub [0, 2, 3, 4, 5] rfl ?_
                    refine lM_deal_L146 E F X (fun l6 he => ?_) F (l6 + 1) hz10
                    have hf := hk10 _ he
                    exact J8 _ hf
                clear hf
                have hf := hf0
                clear hf0
                refine j_if_eq X (tgt := 135) rfl dM_deal_94 (by decide) hf (fun hf => ?_) (fun hf => ?_)
                · refine j_iconst X dM_deal_135 ?_
                  exact j_sub [0, 1, 2, 4, 5] rfl (J2 _ hf)
                · refine j_iload X dM_deal_97 6 rfl ?_
                  refine j_iload X dM_deal_99 1 rfl ?_
                  refine j_bipush X dM_deal_101 rfl ?_
                  obtain ⟨resJ4, hf0, hkJ4⟩ := q_l1 hf
                  have J4 : ∀ (v5 : Int), some v5 = some resJ4 → bz_J K 8 117 [(6, bz_i l6), (5, bz_i l5), (0, bz_rf E 81), (2, bz_i a2), (3, bz_i a3)] [bz_i v5, bz_i a4] M := by
                    intro v5 he
                    have hf := hkJ4 _ he
                    refine j_isub X dM_deal_117 ?_
                    refine j_aload_n X dM_deal_118 rfl 2 rfl ?_
                    refine j_iload_n X dM_deal_119 rfl 3 rfl ?_
                    refine j_aload_n X dM_deal_120 rfl 2 rfl ?_
                    refine j_geti X gf_M_216_81 dM_deal_121 ?_
                    refine j_iconst X dM_deal_124 ?_
                    obtain ⟨x7, hzx7, hf⟩ := q_cl hf
                    refine j_cv X (st := [bz_i (a4 - v5)]) (cM_ruleOf E F hzx7) gyM_ruleOf gv_M_ruleOf_81 rfl (by decide) (by decide) wd_1494 rfl (Nat.le_of_ble_eq_true rfl) dM_deal_125 ?_
                    show bz_J _ _ 128 _ _ _
                    refine j_icmp_ge X (tgt := 135) rfl rfl dM_deal_128 (by decide) hf (fun hf => ?_) (fun hf => ?_)
                    · refine j_iconst X dM_deal_135 ?_
                      exact J2 _ hf
                    · refine j_iconst X dM_deal_131 ?_
                      refine j_goto X (tgt := 136) dM_deal_132 (by decide) ?_
                      exact J2 _ hf
                  clear hf
                  have hf := hf0
                  clear hf0
                  refine j_icmp_ge X (tgt := 116) rfl (w32_lit rfl) dM_deal_103 (by decide) hf (fun hf => ?_) (fun hf => ?_)
                  · refine j_iconst X dM_deal_116 ?_
                    exact j_sub [0, 1, 2, 4, 5] rfl (J4 _ hf)
                  · refine j_aload_n X dM_deal_106 rfl 2 rfl ?_
                    refine j_geta X gf_M_47_81 dM_deal_107 ?_
                    refine j_iload X dM_deal_110 1 rfl ?_
                    refine j_iald X sh_94 dM_deal_112 hf (fun x6 hf => ?_)
                    refine j_goto X (tgt := 117) dM_deal_113 (by decide) ?_
                    exact j_sub [0, 1, 2, 4, 5] rfl (J4 _ hf)
              · refine j_iconst X dM_deal_78 ?_
                cases hf
                exact j_iret X dM_deal_79 rfl rfl
      · refine j_iload_n X dM_deal_28 rfl 3 rfl ?_
        refine j_iload X dM_deal_29 0 rfl ?_
        refine j_bipush X dM_deal_31 rfl ?_
        refine j_isub X dM_deal_33 ?_
        refine j_icmp_ge X (tgt := 78) rfl rfl dM_deal_34 (by decide) hf (fun hf => ?_) (fun hf => ?_)
        · refine j_iconst X dM_deal_78 ?_
          cases hf
          exact j_iret X dM_deal_79 rfl rfl
        · refine j_iload X dM_deal_37 5 rfl ?_
          refine j_i2l X rfl dM_deal_39 ?_
          refine j_lconst X (v := 0) dM_deal_40 rfl ?_
          refine j_ldc2 X (v := 23) wd_1493 dM_deal_41 ?_
          refine j_cs X (st := []) (cM_in E) gyM_in wd_1409 rfl (by decide) (by decide) wd_1408 rfl (Nat.le_of_ble_eq_true rfl) dM_deal_44 ?_
          refine j_if_eq X (tgt := 78) rfl dM_deal_47 (by decide) hf (fun hf => ?_) (fun hf => ?_)
          · refine j_iconst X dM_deal_78 ?_
            cases hf
            exact j_iret X dM_deal_79 rfl rfl
          · refine j_iload_n X dM_deal_50 rfl 4 rfl ?_
            refine j_i2l X rfl dM_deal_51 ?_
            refine j_ldc2 X (v := -10000) wd_1483 dM_deal_52 ?_
            refine j_ldc2 X (v := 10000) wd_1432 dM_deal_55 ?_
            refine j_cs X (st := []) (cM_in E) gyM_in wd_1409 rfl (by decide) (by decide) wd_1408 rfl (Nat.le_of_ble_eq_true rfl) dM_deal_58 ?_
            refine j_if_eq X (tgt := 78) rfl dM_deal_61 (by decide) hf (fun hf => ?_) (fun hf => ?_)
            · refine j_iconst X dM_deal_78 ?_
              cases hf
              exact j_iret X dM_deal_79 rfl rfl
            · refine j_iload_n X dM_deal_64 rfl 4 rfl ?_
              refine j_if_eq X (tgt := 78) rfl dM_deal_65 (by decide) hf (fun hf => ?_) (fun hf => ?_)
              · refine j_iconst X dM_deal_78 ?_
                cases hf
                exact j_iret X dM_deal_79 rfl rfl
              · refine j_aload_n X dM_deal_68 rfl 1 rfl ?_
                refine j_geti X gf_M_302_81 dM_deal_69 ?_
                refine j_sipush X dM_deal_72 rfl ?_
                refine j_icmp_ne X (tgt := 80) rfl (w32_lit rfl) dM_deal_75 (by decide) hf (fun hf => ?_) (fun hf => ?_)
                · refine j_aload_n X dM_deal_80 rfl 1 rfl ?_
                  refine j_geti X gf_M_216_81 dM_deal_81 ?_
                  refine j_lt (g := bz_i) hf (fun l6 hf => ?_)
                  refine j_istore X (lv' := [(6, bz_i l6), (5, bz_i l5), (0, bz_rf E 81), (1, bz_i a1), (2, bz_i a2), (3, bz_i a3), (4, bz_i a4)]) dM_deal_84 (by decide) rfl ?_
                  refine j_aload_n X dM_deal_86 rfl 2 rfl ?_
                  refine j_aload_n X dM_deal_87 rfl 2 rfl ?_
                  refine j_geti X gf_M_216_81 dM_deal_88 ?_
                  obtain ⟨x16, hzx16, hf⟩ := q_cl hf
                  refine j_cv X (st := []) (cM_isOpen E F hzx16) gyM_isOpen gv_M_isOpen_81 rfl (by decide) (by decide) wd_1415 rfl (Nat.le_of_ble_eq_true rfl) dM_deal_91 ?_
                  show bz_J _ _ 94 _ _ _
                  obtain ⟨resJ17, hf0, hkJ17⟩ := q_l1 hf
                  have J17 : ∀ (v18 : Int), some v18 = some resJ17 → bz_J K 8 136 [(6, bz_i l6), (5, bz_i l5), (0, bz_rf E 81), (2, bz_i a2), (3, bz_i a3)] [bz_i v18] M := by
                    intro v18 he
                    have hf := hkJ17 _ he
                    refine j_istore X (lv' := [(7, bz_i v18), (6, bz_i l6), (5, bz_i l5), (0, bz_rf E 81), (2, bz_i a2), (3, bz_i a3)]) dM_deal_136 (by decide) rfl ?_
                    refine j_iload X dM_deal_138 0 rfl ?_
                    obtain ⟨resJ23, hf0, hkJ23⟩ := q_l1 hf
                    have J23 : ∀ (l6 : Int), some l6 = some resJ23 → bz_J K 8 169 [(6, bz_i l6), (5, bz_i l5), (0, bz_rf E 81), (2, bz_i a2), (3, bz_i a3)] [] M := by
                      intro l6 he
                      have hf := hkJ23 _ he
                      refine j_iload X dM_deal_169 0 rfl ?_
                      refine j_sipush X dM_deal_171 rfl ?_
                      refine j_icmp_lt X (tgt := 179) rfl (w32_lit rfl) dM_deal_174 (by decide) hf (fun hf => ?_) (fun hf => ?_)
                      · refine j_aload_n X dM_deal_179 rfl 2 rfl ?_
                        refine j_geta X gf_M_74_81 dM_deal_180 ?_
                        refine j_aload_n X dM_deal_183 rfl 2 rfl ?_
                        refine j_geti X gf_M_302_81 dM_deal_184 ?_
                        refine j_iload X dM_deal_187 1 rfl ?_
                        refine j_iast X sh_103 dM_deal_189 hf (fun m26 hf => ?_)
                        refine j_aload_n X dM_deal_190 rfl 2 rfl ?_
                        show bz_J _ _ 191 _ _ _
                        refine j_geta X gf_M_77_81 dM_deal_191 ?_
                        refine j_aload_n X dM_deal_194 rfl 2 rfl ?_
                        refine j_geti X gf_M_302_81 dM_deal_195 ?_
                        refine j_iload_n X dM_deal_198 rfl 3 rfl ?_
                        refine j_iast X sh_104 dM_deal_199 hf (fun m27 hf => ?_)
                        refine j_aload_n X dM_deal_200 rfl 2 rfl ?_
                        refine j_geta X gf_M_80_81 dM_deal_201 ?_
                        refine j_aload_n X dM_deal_204 rfl 2 rfl ?_
                        show bz_J _ _ 205 _ _ _
                        refine j_geti X gf_M_302_81 dM_deal_205 ?_
                        refine j_iload_n X dM_deal_208 rfl 4 rfl ?_
                        refine j_iast X sh_105 dM_deal_209 hf (fun m28 hf => ?_)
                        refine j_aload_n X dM_deal_210 rfl 2 rfl ?_
                        refine j_geta X gf_M_83_81 dM_deal_211 ?_
                        refine j_aload_n X dM_deal_214 rfl 2 rfl ?_
                        refine j_geti X gf_M_302_81 dM_deal_215 ?_
                        refine j_iload X dM_deal_218 0 rfl ?_
                        show bz_J _ _ 220 _ _ _
                        refine j_iast X sh_106 dM_deal_220 hf (fun m29 hf => ?_)
                        refine j_aload_n X dM_deal_221 rfl 2 rfl ?_
                        refine j_dup X dM_deal_222 rfl ?_
                        refine j_geti X gf_M_302_81 dM_deal_223 ?_
                        refine j_iconst X dM_deal_226 ?_
                        refine j_iadd X dM_deal_227 ?_
                        refine j_puti X pf_M_302_81 dM_deal_228 hf (fun m30 hf => ?_)
                        refine j_aload_n X dM_deal_231 rfl 2 rfl ?_
                        show bz_J _ _ 232 _ _ _
                        refine j_geti X gf_M_302_81 dM_deal_232 ?_
                        refine j_iconst X dM_deal_235 ?_
                        refine j_isub X dM_deal_236 ?_
                        cases hf
                        exact j_iret X dM_deal_237 rfl rfl
                      · refine j_iconst X dM_deal_177 ?_
                        cases hf
                        exact j_iret X dM_deal_178 rfl rfl
                    clear hf
                    have hf := hf0
                    clear hf0
                    refine j_if_ne X (tgt := 169) rfl dM_deal_140 (by decide) hf (fun hf => ?_) (fun hf => ?_)
                    · exact j_sub [1, 2, 3, 4, 5] rfl (J23 _ hf)
                    · refine j_iinc X (y := l6 + 1) (lv' := [(6, bz_i (l6 + 1)), (7, bz_i v18), (5, bz_i l5), (0, bz_rf E 81), (2, bz_i a2), (3, bz_i a3)]) dM_deal_143 1 rfl rfl (by decide) rfl ?_
                      obtain ⟨res25, hz25, hk25⟩ := q_l1 hf
                      clear hf
                      refine j_sub [0, 2, 3, 4, 5] rfl ?_
                      refine lM_deal_L146a E F X (fun l6 he => ?_) F (l6 + 1) hz25
                      have hf := hk25 _ he
                      exact J23 _ hf
                  clear hf
                  have hf := hf0
                  clear hf0
                  refine j_if_eq X (tgt := 135) rfl dM_deal_94 (by decide) hf (fun hf => ?_) (fun hf => ?_)
                  · refine j_iconst X dM_deal_135 ?_
                    exact j_sub [0, 1, 2, 4, 5] rfl (J17 _ hf)
                  · refine j_iload X dM_deal_97 6 rfl ?_
                    refine j_iload X dM_deal_99 1 rfl ?_
                    refine j_bipush X dM_deal_101 rfl ?_
                    obtain ⟨resJ19, hf0, hkJ19⟩ := q_l1 hf
                    have J19 : ∀ (v20 : Int), some v20 = some resJ19 → bz_J K 8 117 [(6, bz_i l6), (5, bz_i l5), (0, bz_rf E 81), (2, bz_i a2), (3, bz_i a3)] [bz_i v20, bz_i a4] M := by
                      intro v20 he
                      have hf := hkJ19 _ he
                      refine j_isub X dM_deal_117 ?_
                      refine j_aload_n X dM_deal_118 rfl 2 rfl ?_
                      refine j_iload_n X dM_deal_119 rfl 3 rfl ?_
                      refine j_aload_n X dM_deal_120 rfl 2 rfl ?_
                      refine j_geti X gf_M_216_81 dM_deal_121 ?_
                      refine j_iconst X dM_deal_124 ?_
                      obtain ⟨x22, hzx22, hf⟩ := q_cl hf
                      refine j_cv X (st := [bz_i (a4 - v20)]) (cM_ruleOf E F hzx22) gyM_ruleOf gv_M_ruleOf_81 rfl (by decide) (by decide) wd_1494 rfl (Nat.le_of_ble_eq_true rfl) dM_deal_125 ?_
                      show bz_J _ _ 128 _ _ _
                      refine j_icmp_ge X (tgt := 135) rfl rfl dM_deal_128 (by decide) hf (fun hf => ?_) (fun hf => ?_)
                      · refine j_iconst X dM_deal_135 ?_
                        exact J17 _ hf
                      · refine j_iconst X dM_deal_131 ?_
                        refine j_goto X (tgt := 136) dM_deal_132 (by decide) ?_
                        exact J17 _ hf
                    clear hf
                    have hf := hf0
                    clear hf0
                    refine j_icmp_ge X (tgt := 116) rfl (w32_lit rfl) dM_deal_103 (by decide) hf (fun hf => ?_) (fun hf => ?_)
                    · refine j_iconst X dM_deal_116 ?_
                      exact j_sub [0, 1, 2, 4, 5] rfl (J19 _ hf)
                    · refine j_aload_n X dM_deal_106 rfl 2 rfl ?_
                      refine j_geta X gf_M_47_81 dM_deal_107 ?_
                      refine j_iload X dM_deal_110 1 rfl ?_
                      refine j_iald X sh_94 dM_deal_112 hf (fun x21 hf => ?_)
                      refine j_goto X (tgt := 117) dM_deal_113 (by decide) ?_
                      exact j_sub [0, 1, 2, 4, 5] rfl (J19 _ hf)
                · refine j_iconst X dM_deal_78 ?_
                  cases hf
                  exact j_iret X dM_deal_79 rfl rfl
def M_feeds0_L2 (F : Nat) : Nat → Int → Int → bz_Mm → Option (bz_Mm)
  | 0, _, _, _ => none
  | n + 1, l1, l2, M =>
    if w32 l2 < 0 then
    (some M)
    else
    (wa_ M 110 (M 81 37) 600 (i2b_ (us_ l1 (8 * l2))) fun m1 =>
    wf_ m1 81 37 ((m1 81 37) + 1) fun m2 =>
    M_feeds0_L2 F n l1 (l2 + (-1)) m2)
theorem lM_feeds0_L2 (E : bz_E) (F : Nat) {K : bz_K} {rv : Option Value} {M1 : bz_Mm} (X : bz_X K E prog_14_method_24_code 3 "UnitsWrongModel" none 0 0 rv M1) {l1 : Int} {res : (bz_Mm)}
    (kx : ∀ (M : bz_Mm), some M = some res → bz_J K 3 38 [] [] M) :
    ∀ (n : Nat) (l2 : Int) (M : bz_Mm), M_feeds0_L2 F n l1 l2 M = some res → bz_J K 3 2 [(2, bz_i l2), (0, bz_rf E 81), (1, bz_i l1)] [] M := by
  intro n
  induction n with
  | zero => intro l2 M hf; cases hf
  | succ n ih =>
    intro l2 M hf
    rw [M_feeds0_L2] at hf
    refine j_iload_n X dM_feeds0_2 rfl 0 rfl ?_
    refine j_if_lt X (tgt := 38) rfl dM_feeds0_3 (by decide) hf (fun hf => ?_) (fun hf => ?_)
    · exact j_sub [] rfl (kx _ hf)
    · refine j_aload_n X dM_feeds0_6 rfl 1 rfl ?_
      refine j_geta X gf_M_96_81 dM_feeds0_7 ?_
      refine j_aload_n X dM_feeds0_10 rfl 1 rfl ?_
      refine j_geti X gf_M_309_81 dM_feeds0_11 ?_
      refine j_iload_n X dM_feeds0_14 rfl 2 rfl ?_
      refine j_bipush X dM_feeds0_15 rfl ?_
      refine j_iload_n X dM_feeds0_17 rfl 0 rfl ?_
      show bz_J _ _ 18 _ _ _
      refine j_imul X dM_feeds0_18 ?_
      refine j_iushr X dM_feeds0_19 ?_
      refine j_i2b X dM_feeds0_20 ?_
      refine j_bast X sh_110 (bz_nb _) dM_feeds0_21 hf (fun m1 hf => ?_)
      refine j_aload_n X dM_feeds0_22 rfl 1 rfl ?_
      refine j_dup X dM_feeds0_23 rfl ?_
      refine j_geti X gf_M_309_81 dM_feeds0_24 ?_
      refine j_iconst X dM_feeds0_27 ?_
      show bz_J _ _ 28 _ _ _
      refine j_iadd X dM_feeds0_28 ?_
      refine j_puti X pf_M_309_81 dM_feeds0_29 hf (fun m2 hf => ?_)
      refine j_iinc X (y := l2 + (-1)) (lv' := [(2, bz_i (l2 + (-1))), (0, bz_rf E 81), (1, bz_i l1)]) dM_feeds0_32 0 rfl rfl (by decide) rfl ?_
      refine j_goto X (tgt := 2) dM_feeds0_35 (by decide) ?_
      exact ih _ _ hf
def fM_feeds0 (F : Nat) (M : bz_Mm) (a1 : Int) : Option (bz_Mm) :=
  cl1_ (M_feeds0_L2 F F a1 3 M) fun m3 =>
  some m3
set_option maxHeartbeats 4000000 in
set_option maxRecDepth 20000 in
theorem cM_feeds0 (E : bz_E) (F : Nat)  {M : bz_Mm} {a1 : Int} {x0 : bz_Mm} (hf : fM_feeds0 F M a1 = some x0) : bz_Ct E yM_feeds0 (.code yM_feeds0 prog_14_method_24_code 3 none) 0 0 [bz_rf E 81, bz_i a1] M (none) x0 := by
  refine bz_met (by decide +kernel) (Nat.le_of_ble_eq_true rfl) (fun K X => ?_)
  have X : bz_X K E prog_14_method_24_code 3 "UnitsWrongModel" none 0 0 _ _ := X
  unfold fM_feeds0 at hf
  show bz_J K 3 0 [(0, bz_rf E 81), (1, bz_i a1)] [] M
  refine j_iconst X dM_feeds0_0 ?_
  refine j_istore_n X (lv' := [(2, bz_i 3), (0, bz_rf E 81), (1, bz_i a1)]) dM_feeds0_1 rfl (by decide) rfl ?_
  obtain ⟨res4, hz4, hk4⟩ := q_l1 hf
  clear hf
  refine lM_feeds0_L2 E F X (fun m3 he => ?_) F 3 M hz4
  have hf := hk4 _ he
  cases hf
  exact j_vret X dM_feeds0_38 rfl rfl
def fM_feed (F : Nat) (M : bz_Mm) (a1 : Int) (a2 : Int) (a3 : Int) (a4 : Int) (a5 : Int) : Option (Int × bz_Mm) :=
  if 600 < w32 ((M 81 37) + 20) then
  (some (((-1), M)))
  else
  (cl_ (fM_feeds0 F M a1) fun m1 =>
  cl_ (fM_feeds0 F m1 a2) fun m2 =>
  cl_ (fM_feeds0 F m2 a3) fun m3 =>
  cl_ (fM_feeds0 F m3 a4) fun m4 =>
  cl_ (fM_feeds0 F m4 a5) fun m5 =>
  some ((m5 81 37, m5)))
set_option maxHeartbeats 4000000 in
set_option maxRecDepth 20000 in
theorem cM_feed (E : bz_E) (F : Nat)  {M : bz_Mm} {a1 : Int} {a2 : Int} {a3 : Int} {a4 : Int} {a5 : Int} {x0 : Int × bz_Mm} (hf : fM_feed F M a1 a2 a3 a4 a5 = some x0) : bz_Ct E yM_feed (.code yM_feed prog_14_method_25_code 6 (some .int)) 1 22 [bz_rf E 81, bz_i a1, bz_i a2, bz_i a3, bz_i a4, bz_i a5] M (some (bz_i x0.1)) x0.2 := by
  refine bz_met (by decide +kernel) (Nat.le_of_ble_eq_true rfl) (fun K X => ?_)
  have X : bz_X K E prog_14_method_25_code 6 "UnitsWrongModel" (some .int) 1 22 _ _ := X
  unfold fM_feed at hf
  show bz_J K 6 0 [(0, bz_rf E 81), (1, bz_i a1), (2, bz_i a2), (3, bz_i a3), (4, bz_i a4), (5, bz_i a5)] [] M
  refine j_aload_n X dM_feed_0 rfl 0 rfl ?_
  refine j_geti X gf_M_309_81 dM_feed_1 ?_
  refine j_bipush X dM_feed_4 rfl ?_
  refine j_iadd X dM_feed_6 ?_
  refine j_sipush X dM_feed_7 rfl ?_
  refine j_icmp_le X (tgt := 15) rfl (w32_lit rfl) dM_feed_10 (by decide) hf (fun hf => ?_) (fun hf => ?_)
  · refine j_aload_n X dM_feed_15 rfl 0 rfl ?_
    refine j_iload_n X dM_feed_16 rfl 1 rfl ?_
    obtain ⟨m1, hz, hf⟩ := q_cl hf
    refine j_cv X (st := []) (cM_feeds0 E F hz) gyM_feeds0 gv_M_feeds0_81 rfl (by decide) (by decide) wd_1502 rfl (Nat.le_of_ble_eq_true rfl) dM_feed_17 ?_
    clear hz
    refine j_aload_n X dM_feed_20 rfl 0 rfl ?_
    refine j_iload_n X dM_feed_21 rfl 2 rfl ?_
    obtain ⟨m2, hz, hf⟩ := q_cl hf
    refine j_cv X (st := []) (cM_feeds0 E F hz) gyM_feeds0 gv_M_feeds0_81 rfl (by decide) (by decide) wd_1502 rfl (Nat.le_of_ble_eq_true rfl) dM_feed_22 ?_
    clear hz
    refine j_aload_n X dM_feed_25 rfl 0 rfl ?_
    show bz_J _ _ 26 _ _ _
    refine j_iload_n X dM_feed_26 rfl 3 rfl ?_
    obtain ⟨m3, hz, hf⟩ := q_cl hf
    refine j_cv X (st := []) (cM_feeds0 E F hz) gyM_feeds0 gv_M_feeds0_81 rfl (by decide) (by decide) wd_1502 rfl (Nat.le_of_ble_eq_true rfl) dM_feed_27 ?_
    clear hz
    refine j_aload_n X dM_feed_30 rfl 0 rfl ?_
    refine j_iload X dM_feed_31 4 rfl ?_
    obtain ⟨m4, hz, hf⟩ := q_cl hf
    refine j_cv X (st := []) (cM_feeds0 E F hz) gyM_feeds0 gv_M_feeds0_81 rfl (by decide) (by decide) wd_1502 rfl (Nat.le_of_ble_eq_true rfl) dM_feed_33 ?_
    clear hz
    refine j_aload_n X dM_feed_36 rfl 0 rfl ?_
    refine j_iload X dM_feed_37 5 rfl ?_
    obtain ⟨m5, hz, hf⟩ := q_cl hf
    refine j_cv X (st := []) (cM_feeds0 E F hz) gyM_feeds0 gv_M_feeds0_81 rfl (by decide) (by decide) wd_1502 rfl (Nat.le_of_ble_eq_true rfl) dM_feed_39 ?_
    clear hz
    show bz_J _ _ 42 _ _ _
    refine j_aload_n X dM_feed_42 rfl 0 rfl ?_
    refine j_geti X gf_M_309_81 dM_feed_43 ?_
    cases hf
    exact j_iret X dM_feed_46 rfl rfl
  · refine j_iconst X dM_feed_13 ?_
    cases hf
    exact j_iret X dM_feed_14 rfl rfl
def fM_end (F : Nat) (M : bz_Mm) (a1 : Int) : Option (Int × bz_Mm) :=
  if w32 (fM_in (w32 a1) 0 (w32 (M 81 37))) = 0 then
  (some ((0, M)))
  else
  (wf_ M 81 37 a1 fun m1 =>
  some ((1, m1)))
set_option maxHeartbeats 4000000 in
set_option maxRecDepth 20000 in
theorem cM_end (E : bz_E) (F : Nat)  {M : bz_Mm} {a1 : Int} {x0 : Int × bz_Mm} (hf : fM_end F M a1 = some x0) : bz_Ct E yM_end (.code yM_end prog_14_method_26_code 2 (some .boolean)) 1 25 [bz_rf E 81, bz_i a1] M (some (bz_i x0.1)) x0.2 := by
  refine bz_met (by decide +kernel) (Nat.le_of_ble_eq_true rfl) (fun K X => ?_)
  have X : bz_X K E prog_14_method_26_code 2 "UnitsWrongModel" (some .boolean) 1 25 _ _ := X
  unfold fM_end at hf
  show bz_J K 2 0 [(0, bz_rf E 81), (1, bz_i a1)] [] M
  refine j_iload_n X dM_end_0 rfl 1 rfl ?_
  refine j_i2l X rfl dM_end_1 ?_
  refine j_lconst X (v := 0) dM_end_2 rfl ?_
  refine j_aload_n X dM_end_3 rfl 0 rfl ?_
  refine j_geti X gf_M_309_81 dM_end_4 ?_
  refine j_i2l X rfl dM_end_7 ?_
  refine j_cs X (st := []) (cM_in E) gyM_in wd_1409 rfl (by decide) (by decide) wd_1408 rfl (Nat.le_of_ble_eq_true rfl) dM_end_8 ?_
  show bz_J _ _ 11 _ _ _
  refine j_if_ne X (tgt := 16) rfl dM_end_11 (by decide) hf (fun hf => ?_) (fun hf => ?_)
  · refine j_aload_n X dM_end_16 rfl 0 rfl ?_
    refine j_iload_n X dM_end_17 rfl 1 rfl ?_
    refine j_puti X pf_M_309_81 dM_end_18 hf (fun m1 hf => ?_)
    refine j_iconst X dM_end_21 ?_
    cases hf
    exact j_zret X (by decide +kernel) dM_end_22 rfl rfl
  · refine j_iconst X dM_end_14 ?_
    cases hf
    exact j_zret X (by decide +kernel) dM_end_15 rfl rfl
def M_skips_L0 (F : Nat) : Nat → bz_Mm → Option (bz_Mm)
  | 0, _ => none
  | n + 1, M =>
    if w32 (M 81 38) < w32 (M 81 39) then
    (rd_ M 110 (M 81 38) 600 fun x1 =>
    if w32 x1 = 32 then
    (wf_ M 81 38 ((M 81 38) + 1) fun m2 =>
    M_skips_L0 F n m2)
    else
    (some M))
    else
    (some M)
theorem lM_skips_L0 (E : bz_E) (F : Nat) {K : bz_K} {rv : Option Value} {M1 : bz_Mm} (X : bz_X K E prog_14_method_28_code 1 "UnitsWrongModel" none 0 0 rv M1) {res : (bz_Mm)}
    (kx : ∀ (M : bz_Mm), some M = some res → bz_J K 1 38 [] [] M) :
    ∀ (n : Nat) (M : bz_Mm), M_skips_L0 F n M = some res → bz_J K 1 0 [(0, bz_rf E 81)] [] M := by
  intro n
  induction n with
  | zero => intro M hf; cases hf
  | succ n ih =>
    intro M hf
    rw [M_skips_L0] at hf
    refine j_aload_n X dM_skips_0 rfl 0 rfl ?_
    refine j_geti X gf_M_319_81 dM_skips_1 ?_
    refine j_aload_n X dM_skips_4 rfl 0 rfl ?_
    refine j_geti X gf_M_322_81 dM_skips_5 ?_
    refine j_icmp_ge X (tgt := 38) rfl rfl dM_skips_8 (by decide) hf (fun hf => ?_) (fun hf => ?_)
    · exact j_sub [] rfl (kx _ hf)
    · refine j_aload_n X dM_skips_11 rfl 0 rfl ?_
      refine j_geta X gf_M_96_81 dM_skips_12 ?_
      refine j_aload_n X dM_skips_15 rfl 0 rfl ?_
      refine j_geti X gf_M_319_81 dM_skips_16 ?_
      refine j_bald X sh_110 dM_skips_19 hf (fun x1 hf => ?_)
      refine j_bipush X dM_skips_20 rfl ?_
      refine j_icmp_ne X (tgt := 38) rfl (w32_lit rfl) dM_skips_22 (by decide) hf (fun hf => ?_) (fun hf => ?_)
      · exact j_sub [] rfl (kx _ hf)
      · refine j_aload_n X dM_skips_25 rfl 0 rfl ?_
        refine j_dup X dM_skips_26 rfl ?_
        refine j_geti X gf_M_319_81 dM_skips_27 ?_
        refine j_iconst X dM_skips_30 ?_
        refine j_iadd X dM_skips_31 ?_
        refine j_puti X pf_M_319_81 dM_skips_32 hf (fun m2 hf => ?_)
        refine j_goto X (tgt := 0) dM_skips_35 (by decide) ?_
        exact ih _ hf
def fM_skips (F : Nat) (M : bz_Mm) : Option (bz_Mm) :=
  cl1_ (M_skips_L0 F F M) fun m3 =>
  some m3
set_option maxHeartbeats 4000000 in
set_option maxRecDepth 20000 in
theorem cM_skips (E : bz_E) (F : Nat)  {M : bz_Mm} {x0 : bz_Mm} (hf : fM_skips F M = some x0) : bz_Ct E yM_skips (.code yM_skips prog_14_method_28_code 1 none) 0 0 [bz_rf E 81] M (none) x0 := by
  refine bz_met (by decide +kernel) (Nat.le_of_ble_eq_true rfl) (fun K X => ?_)
  have X : bz_X K E prog_14_method_28_code 1 "UnitsWrongModel" none 0 0 _ _ := X
  unfold fM_skips at hf
  show bz_J K 1 0 [(0, bz_rf E 81)] [] M
  obtain ⟨res4, hz4, hk4⟩ := q_l1 hf
  clear hf
  refine lM_skips_L0 E F X (fun m3 he => ?_) F M hz4
  have hf := hk4 _ he
  cases hf
  exact j_vret X dM_skips_38 rfl rfl
def gM_isLetter (a0 : Int) : Option Int :=
  if w32 a0 < 97 then
  (some 0)
  else
  (if 122 < w32 a0 then
  (some 0)
  else
  (some 1))
def fM_isLetter (a0 : Int) : Int :=
  if w32 a0 < 97 then
  (0)
  else
  (if 122 < w32 a0 then
  (0)
  else
  (1))
theorem tM_isLetter (a0 : Int) : gM_isLetter a0 = some (fM_isLetter a0) := by
  unfold gM_isLetter fM_isLetter
  (repeat' (first | rfl | split))
theorem zM_isLetter {a0 : Int} : fM_isLetter a0 = 0 ∨ fM_isLetter a0 = 1 := by
  unfold fM_isLetter
  (repeat' (first | exact Or.inl rfl | exact Or.inr rfl | split))
set_option maxHeartbeats 4000000 in
set_option maxRecDepth 20000 in
theorem cM_isLetter (E : bz_E) {M : bz_Mm} {a0 : Int} : bz_Ct E yM_isLetter (.code yM_isLetter prog_14_method_29_code 1 (some .boolean)) 0 0 [bz_i a0] M (some (bz_i (fM_isLetter a0))) M := by
  have hf := tM_isLetter a0
  refine bz_met (by decide +kernel) (Nat.le_of_ble_eq_true rfl) (fun K X => ?_)
  have X : bz_X K E prog_14_method_29_code 1 "UnitsWrongModel" (some .boolean) 0 0 _ _ := X
  unfold gM_isLetter at hf
  generalize fM_isLetter a0 = rr at hf X
  show bz_J K 1 0 [(0, bz_i a0)] [] M
  refine j_iload_n X dM_isLetter_0 rfl 0 rfl ?_
  refine j_bipush X dM_isLetter_1 rfl ?_
  refine j_icmp_lt X (tgt := 16) rfl (w32_lit rfl) dM_isLetter_3 (by decide) hf (fun hf => ?_) (fun hf => ?_)
  · refine j_iconst X dM_isLetter_16 ?_
    cases hf
    exact j_zret X (by decide +kernel) dM_isLetter_17 rfl rfl
  · refine j_iload_n X dM_isLetter_6 rfl 0 rfl ?_
    refine j_bipush X dM_isLetter_7 rfl ?_
    refine j_icmp_gt X (tgt := 16) rfl (w32_lit rfl) dM_isLetter_9 (by decide) hf (fun hf => ?_) (fun hf => ?_)
    · refine j_iconst X dM_isLetter_16 ?_
      cases hf
      exact j_zret X (by decide +kernel) dM_isLetter_17 rfl rfl
    · refine j_iconst X dM_isLetter_12 ?_
      refine j_goto X (tgt := 17) dM_isLetter_13 (by decide) ?_
      cases hf
      exact j_zret X (by decide +kernel) dM_isLetter_17 rfl rfl
def M_wordEnd_L5 (F : Nat) : Nat → bz_Mm → Int → Option (Int)
  | 0, _, _ => none
  | n + 1, M, l1 =>
    if w32 l1 < w32 (M 81 39) then
    (rd_ M 110 l1 600 fun x1 =>
    if w32 (fM_isLetter x1) = 0 then
    (some l1)
    else
    (M_wordEnd_L5 F n M (l1 + 1)))
    else
    (some l1)
theorem lM_wordEnd_L5 (E : bz_E) (F : Nat) {K : bz_K} {rv : Option Value} {M1 : bz_Mm} (X : bz_X K E prog_14_method_31_code 2 "UnitsWrongModel" (some .int) 1 20 rv M1) {M : bz_Mm} {res : (Int)}
    (kx : ∀ (l1 : Int), some l1 = some res → bz_J K 2 31 [(1, bz_i l1)] [] M) :
    ∀ (n : Nat) (l1 : Int), M_wordEnd_L5 F n M l1 = some res → bz_J K 2 5 [(1, bz_i l1), (0, bz_rf E 81)] [] M := by
  intro n
  induction n with
  | zero => intro l1 hf; cases hf
  | succ n ih =>
    intro l1 hf
    rw [M_wordEnd_L5] at hf
    refine j_iload_n X dM_wordEnd_5 rfl 0 rfl ?_
    refine j_aload_n X dM_wordEnd_6 rfl 1 rfl ?_
    refine j_geti X gf_M_322_81 dM_wordEnd_7 ?_
    refine j_icmp_ge X (tgt := 31) rfl rfl dM_wordEnd_10 (by decide) hf (fun hf => ?_) (fun hf => ?_)
    · exact j_sub [0] rfl (kx _ hf)
    · refine j_aload_n X dM_wordEnd_13 rfl 1 rfl ?_
      refine j_geta X gf_M_96_81 dM_wordEnd_14 ?_
      refine j_iload_n X dM_wordEnd_17 rfl 0 rfl ?_
      refine j_bald X sh_110 dM_wordEnd_18 hf (fun x1 hf => ?_)
      refine j_cs X (st := []) (cM_isLetter E) gyM_isLetter wd_1539 rfl (by decide) (by decide) wd_1538 rfl (Nat.le_of_ble_eq_true rfl) dM_wordEnd_19 ?_
      refine j_if_eq X (tgt := 31) rfl dM_wordEnd_22 (by decide) hf (fun hf => ?_) (fun hf => ?_)
      · exact j_sub [0] rfl (kx _ hf)
      · refine j_iinc X (y := l1 + 1) (lv' := [(1, bz_i (l1 + 1)), (0, bz_rf E 81)]) dM_wordEnd_25 0 rfl rfl (by decide) rfl ?_
        refine j_goto X (tgt := 5) dM_wordEnd_28 (by decide) ?_
        exact ih _ hf
def fM_wordEnd (F : Nat) (M : bz_Mm) : Option (Int) :=
  lt_ (M 81 38) fun l1 =>
  cl1_ (M_wordEnd_L5 F F M l1) fun l1 =>
  some l1
set_option maxHeartbeats 4000000 in
set_option maxRecDepth 20000 in
theorem cM_wordEnd (E : bz_E) (F : Nat)  {M : bz_Mm} {x0 : Int} (hf : fM_wordEnd F M = some x0) : bz_Ct E yM_wordEnd (.code yM_wordEnd prog_14_method_31_code 2 (some .int)) 1 20 [bz_rf E 81] M (some (bz_i x0)) M := by
  refine bz_met (by decide +kernel) (Nat.le_of_ble_eq_true rfl) (fun K X => ?_)
  have X : bz_X K E prog_14_method_31_code 2 "UnitsWrongModel" (some .int) 1 20 _ _ := X
  unfold fM_wordEnd at hf
  show bz_J K 2 0 [(0, bz_rf E 81)] [] M
  refine j_aload_n X dM_wordEnd_0 rfl 0 rfl ?_
  refine j_geti X gf_M_319_81 dM_wordEnd_1 ?_
  refine j_lt (g := bz_i) hf (fun l1 hf => ?_)
  refine j_istore_n X (lv' := [(1, bz_i l1), (0, bz_rf E 81)]) dM_wordEnd_4 rfl (by decide) rfl ?_
  obtain ⟨res2, hz2, hk2⟩ := q_l1 hf
  clear hf
  refine lM_wordEnd_L5 E F X (fun l1 he => ?_) F l1 hz2
  have hf := hk2 _ he
  refine j_iload_n X dM_wordEnd_31 rfl 0 rfl ?_
  cases hf
  exact j_iret X dM_wordEnd_32 rfl rfl
def M_isWord_L20 (F : Nat) : Nat → bz_Mm → Nat → Int → Option (Int ⊕ (Int))
  | 0, _, _, _ => none
  | n + 1, M, w1, l2 =>
    if w32 l2 < w32 (fJS_length w1) then
    (rd_ M 110 ((M 81 38) + l2) 600 fun x2 =>
    cl_ (fJS_charAt F M w1 l2) fun x3 =>
    if w32 x2 = w32 x3 then
    (M_isWord_L20 F n M w1 (l2 + 1))
    else
    (some (.inl 0)))
    else
    (some (.inr 0))
theorem lM_isWord_L20 (E : bz_E) (F : Nat) {K : bz_K} {rv : Option Value} {M1 : bz_Mm} (X : bz_X K E prog_14_method_32_code 3 "UnitsWrongModel" (some .boolean) 4 85 rv M1) {M : bz_Mm} {w1 : Nat} (hw1 : w1 < 18) {res : (Int ⊕ (Int))}
    (kx : ∀ (_u : Int), some (.inr _u) = some res → bz_J K 3 55 [] [] M) (kr : ∀ b : Int, some (.inl b) = some res → some (bz_i b) = rv ∧ M = M1) :
    ∀ (n : Nat) (l2 : Int), M_isWord_L20 F n M w1 l2 = some res → bz_J K 3 20 [(2, bz_i l2), (0, bz_rf E 81), (1, bz_rf E (900 + w1))] [] M := by
  intro n
  induction n with
  | zero => intro l2 hf; cases hf
  | succ n ih =>
    intro l2 hf
    rw [M_isWord_L20] at hf
    refine j_iload_n X dM_isWord_20 rfl 0 rfl ?_
    refine j_aload_n X dM_isWord_21 rfl 2 rfl ?_
    refine j_cw X hw1 (st := [bz_i l2]) (cJS_length E hw1) gyJS_length gvJS_length rfl (by decide) (by decide) wd_1541 rfl (Nat.le_of_ble_eq_true rfl) dM_isWord_22 ?_
    refine j_icmp_ge X (tgt := 55) rfl rfl dM_isWord_25 (by decide) hf (fun hf => ?_) (fun hf => ?_)
    · exact j_sub [] rfl (kx _ hf)
    · refine j_aload_n X dM_isWord_28 rfl 1 rfl ?_
      refine j_geta X gf_M_96_81 dM_isWord_29 ?_
      refine j_aload_n X dM_isWord_32 rfl 1 rfl ?_
      refine j_geti X gf_M_319_81 dM_isWord_33 ?_
      refine j_iload_n X dM_isWord_36 rfl 0 rfl ?_
      refine j_iadd X dM_isWord_37 ?_
      refine j_bald X sh_110 dM_isWord_38 hf (fun x2 hf => ?_)
      show bz_J _ _ 39 _ _ _
      refine j_aload_n X dM_isWord_39 rfl 2 rfl ?_
      refine j_iload_n X dM_isWord_40 rfl 0 rfl ?_
      obtain ⟨x3, hzx3, hf⟩ := q_cl hf
      refine j_cw X hw1 (st := [bz_i x2]) (cJS_charAt E F hw1 hzx3) gyJS_charAt gvJS_charAt rfl (by decide) (by decide) wd_1542 rfl (Nat.le_of_ble_eq_true rfl) dM_isWord_41 ?_
      refine j_icmp_eq X (tgt := 49) rfl rfl dM_isWord_44 (by decide) hf (fun hf => ?_) (fun hf => ?_)
      · refine j_iinc X (y := l2 + 1) (lv' := [(2, bz_i (l2 + 1)), (0, bz_rf E 81), (1, bz_rf E (900 + w1))]) dM_isWord_49 0 rfl rfl (by decide) rfl ?_
        refine j_goto X (tgt := 20) dM_isWord_52 (by decide) ?_
        exact ih _ hf
      · refine j_iconst X dM_isWord_47 ?_
        exact j_zret X (by decide +kernel) dM_isWord_48 (kr _ hf).1 (kr _ hf).2
def fM_isWord (F : Nat) (M : bz_Mm) (w1 : Nat) : Option (Int) :=
  cl_ (fM_wordEnd F M) fun x1 =>
  if w32 (x1 - (M 81 38)) = w32 (fJS_length w1) then
  (cs1_ (M_isWord_L20 F F M w1 0) (fun b => some b) fun _u =>
  some 1)
  else
  (some 0)
set_option maxHeartbeats 4000000 in
set_option maxRecDepth 20000 in
theorem cM_isWord (E : bz_E) (F : Nat)  {M : bz_Mm} {w1 : Nat} {x0 : Int} (hw1 : w1 < 18) (hf : fM_isWord F M w1 = some x0) : bz_Ct E yM_isWord (.code yM_isWord prog_14_method_32_code 3 (some .boolean)) 4 85 [bz_rf E 81, bz_rf E (900 + w1)] M (some (bz_i x0)) M := by
  refine bz_met (by decide +kernel) (Nat.le_of_ble_eq_true rfl) (fun K X => ?_)
  have X : bz_X K E prog_14_method_32_code 3 "UnitsWrongModel" (some .boolean) 4 85 _ _ := X
  unfold fM_isWord at hf
  show bz_J K 3 0 [(0, bz_rf E 81), (1, bz_rf E (900 + w1))] [] M
  refine j_aload_n X dM_isWord_0 rfl 0 rfl ?_
  obtain ⟨x1, hzx1, hf⟩ := q_cl hf
  refine j_cv X (st := []) (cM_wordEnd E F hzx1) gyM_wordEnd gv_M_wordEnd_81 rfl (by decide) (by decide) wd_1534 rfl (Nat.le_of_ble_eq_true rfl) dM_isWord_1 ?_
  refine j_aload_n X dM_isWord_4 rfl 0 rfl ?_
  refine j_geti X gf_M_319_81 dM_isWord_5 ?_
  refine j_isub X dM_isWord_8 ?_
  refine j_aload_n X dM_isWord_9 rfl 1 rfl ?_
  refine j_cw X hw1 (st := [bz_i (x1 - (M 81 38))]) (cJS_length E hw1) gyJS_length gvJS_length rfl (by decide) (by decide) wd_1541 rfl (Nat.le_of_ble_eq_true rfl) dM_isWord_10 ?_
  show bz_J _ _ 13 _ _ _
  refine j_icmp_eq X (tgt := 18) rfl rfl dM_isWord_13 (by decide) hf (fun hf => ?_) (fun hf => ?_)
  · refine j_iconst X dM_isWord_18 ?_
    refine j_istore_n X (lv' := [(2, bz_i 0), (0, bz_rf E 81), (1, bz_rf E (900 + w1))]) dM_isWord_19 rfl (by decide) rfl ?_
    obtain ⟨res4, hz4, hk4, hr4⟩ := q_s1 hf
    clear hf
    refine lM_isWord_L20 E F X hw1 (fun _u he => ?_) (fun b he => ?_) F 0 hz4
    · have hf := hk4 _ he
      refine j_iconst X dM_isWord_55 ?_
      cases hf
      exact j_zret X (by decide +kernel) dM_isWord_56 rfl rfl
    · have hf := hr4 _ he
      cases hf
      exact ⟨rfl, rfl⟩
  · refine j_iconst X dM_isWord_16 ?_
    cases hf
    exact j_zret X (by decide +kernel) dM_isWord_17 rfl rfl
def fM_takes (F : Nat) (M : bz_Mm) (w1 : Nat) : Option (Int × bz_Mm) :=
  cl_ (fM_isWord F M w1) fun x1 =>
  if w32 x1 = 0 then
  (some ((0, M)))
  else
  (cl_ (fM_wordEnd F M) fun x2 =>
  wf_ M 81 38 x2 fun m3 =>
  some ((1, m3)))
set_option maxHeartbeats 4000000 in
set_option maxRecDepth 20000 in
theorem cM_takes (E : bz_E) (F : Nat)  {M : bz_Mm} {w1 : Nat} {x0 : Int × bz_Mm} (hw1 : w1 < 18) (hf : fM_takes F M w1 = some x0) : bz_Ct E yM_takes (.code yM_takes prog_14_method_37_code 2 (some .boolean)) 5 107 [bz_rf E 81, bz_rf E (900 + w1)] M (some (bz_i x0.1)) x0.2 := by
  refine bz_met (by decide +kernel) (Nat.le_of_ble_eq_true rfl) (fun K X => ?_)
  have X : bz_X K E prog_14_method_37_code 2 "UnitsWrongModel" (some .boolean) 5 107 _ _ := X
  unfold fM_takes at hf
  show bz_J K 2 0 [(0, bz_rf E 81), (1, bz_rf E (900 + w1))] [] M
  refine j_aload_n X dM_takes_0 rfl 0 rfl ?_
  refine j_aload_n X dM_takes_1 rfl 1 rfl ?_
  obtain ⟨x1, hzx1, hf⟩ := q_cl hf
  refine j_cv X (st := []) (cM_isWord E F hw1 hzx1) gyM_isWord gv_M_isWord_81 rfl (by decide) (by decide) wd_1530 rfl (Nat.le_of_ble_eq_true rfl) dM_takes_2 ?_
  refine j_if_ne X (tgt := 10) rfl dM_takes_5 (by decide) hf (fun hf => ?_) (fun hf => ?_)
  · refine j_aload_n X dM_takes_10 rfl 0 rfl ?_
    refine j_aload_n X dM_takes_11 rfl 0 rfl ?_
    obtain ⟨x2, hzx2, hf⟩ := q_cl hf
    refine j_cv X (st := [bz_rf E 81]) (cM_wordEnd E F hzx2) gyM_wordEnd gv_M_wordEnd_81 rfl (by decide) (by decide) wd_1534 rfl (Nat.le_of_ble_eq_true rfl) dM_takes_12 ?_
    refine j_puti X pf_M_319_81 dM_takes_15 hf (fun m3 hf => ?_)
    refine j_iconst X dM_takes_18 ?_
    cases hf
    exact j_zret X (by decide +kernel) dM_takes_19 rfl rfl
  · refine j_iconst X dM_takes_8 ?_
    cases hf
    exact j_zret X (by decide +kernel) dM_takes_9 rfl rfl
def gM_isDigit (a0 : Int) : Option Int :=
  if w32 a0 < 48 then
  (some 0)
  else
  (if 57 < w32 a0 then
  (some 0)
  else
  (some 1))
def fM_isDigit (a0 : Int) : Int :=
  if w32 a0 < 48 then
  (0)
  else
  (if 57 < w32 a0 then
  (0)
  else
  (1))
theorem tM_isDigit (a0 : Int) : gM_isDigit a0 = some (fM_isDigit a0) := by
  unfold gM_isDigit fM_isDigit
  (repeat' (first | rfl | split))
theorem zM_isDigit {a0 : Int} : fM_isDigit a0 = 0 ∨ fM_isDigit a0 = 1 := by
  unfold fM_isDigit
  (repeat' (first | exact Or.inl rfl | exact Or.inr rfl | split))
set_option maxHeartbeats 4000000 in
set_option maxRecDepth 20000 in
theorem cM_isDigit (E : bz_E) {M : bz_Mm} {a0 : Int} : bz_Ct E yM_isDigit (.code yM_isDigit prog_14_method_30_code 1 (some .boolean)) 0 0 [bz_i a0] M (some (bz_i (fM_isDigit a0))) M := by
  have hf := tM_isDigit a0
  refine bz_met (by decide +kernel) (Nat.le_of_ble_eq_true rfl) (fun K X => ?_)
  have X : bz_X K E prog_14_method_30_code 1 "UnitsWrongModel" (some .boolean) 0 0 _ _ := X
  unfold gM_isDigit at hf
  generalize fM_isDigit a0 = rr at hf X
  show bz_J K 1 0 [(0, bz_i a0)] [] M
  refine j_iload_n X dM_isDigit_0 rfl 0 rfl ?_
  refine j_bipush X dM_isDigit_1 rfl ?_
  refine j_icmp_lt X (tgt := 16) rfl (w32_lit rfl) dM_isDigit_3 (by decide) hf (fun hf => ?_) (fun hf => ?_)
  · refine j_iconst X dM_isDigit_16 ?_
    cases hf
    exact j_zret X (by decide +kernel) dM_isDigit_17 rfl rfl
  · refine j_iload_n X dM_isDigit_6 rfl 0 rfl ?_
    refine j_bipush X dM_isDigit_7 rfl ?_
    refine j_icmp_gt X (tgt := 16) rfl (w32_lit rfl) dM_isDigit_9 (by decide) hf (fun hf => ?_) (fun hf => ?_)
    · refine j_iconst X dM_isDigit_16 ?_
      cases hf
      exact j_zret X (by decide +kernel) dM_isDigit_17 rfl rfl
    · refine j_iconst X dM_isDigit_12 ?_
      refine j_goto X (tgt := 17) dM_isDigit_13 (by decide) ?_
      cases hf
      exact j_zret X (by decide +kernel) dM_isDigit_17 rfl rfl
def gM_near (a0 : Int) (a1 : Int) (a2 : Int) : Option Int :=
  if w64 a0 < w64 a1 then
  (some a1)
  else
  (if w64 a2 < w64 a0 then
  (some a2)
  else
  (some a0))
def fM_near (a0 : Int) (a1 : Int) (a2 : Int) : Int :=
  if w64 a0 < w64 a1 then
  (a1)
  else
  (if w64 a2 < w64 a0 then
  (a2)
  else
  (a0))
theorem tM_near (a0 : Int) (a1 : Int) (a2 : Int) : gM_near a0 a1 a2 = some (fM_near a0 a1 a2) := by
  unfold gM_near fM_near
  (repeat' (first | rfl | split))
set_option maxHeartbeats 4000000 in
set_option maxRecDepth 20000 in
theorem cM_near (E : bz_E) {M : bz_Mm} {a0 : Int} {a1 : Int} {a2 : Int} : bz_Ct E yM_near (.code yM_near prog_14_method_3_code 6 (some .long)) 0 0 [bz_l a0, bz_l a1, bz_l a2] M (some (bz_l (fM_near a0 a1 a2))) M := by
  have hf := tM_near a0 a1 a2
  refine bz_met (by decide +kernel) (Nat.le_of_ble_eq_true rfl) (fun K X => ?_)
  have X : bz_X K E prog_14_method_3_code 6 "UnitsWrongModel" (some .long) 0 0 _ _ := X
  unfold gM_near at hf
  generalize fM_near a0 a1 a2 = rr at hf X
  show bz_J K 6 0 [(0, bz_l a0), (2, bz_l a1), (4, bz_l a2)] [] M
  refine j_lload_n X dM_near_0 rfl 0 rfl ?_
  refine j_lload_n X dM_near_1 rfl 1 rfl ?_
  refine j_lcmp_ge X (tgt := 10) rfl rfl dM_near_2 dM_near_3 (by decide) hf (fun hf => ?_) (fun hf => ?_)
  · refine j_lload_n X dM_near_10 rfl 0 rfl ?_
    refine j_lload X dM_near_11 2 rfl ?_
    refine j_lcmp_le X (tgt := 22) rfl rfl dM_near_13 dM_near_14 (by decide) hf (fun hf => ?_) (fun hf => ?_)
    · refine j_lload_n X dM_near_22 rfl 0 rfl ?_
      cases hf
      exact j_lret X dM_near_23 rfl rfl
    · refine j_lload X dM_near_17 2 rfl ?_
      refine j_goto X (tgt := 23) dM_near_19 (by decide) ?_
      cases hf
      exact j_lret X dM_near_23 rfl rfl
  · refine j_lload_n X dM_near_6 rfl 1 rfl ?_
    refine j_goto X (tgt := 23) dM_near_7 (by decide) ?_
    cases hf
    exact j_lret X dM_near_23 rfl rfl
def fM_fails (F : Nat) (M : bz_Mm) : Option (bz_Mm) :=
  if w32 (M 81 40) = (-1) then
  (wf_ M 81 40 (M 81 38) fun m1 =>
  some m1)
  else
  (some M)
set_option maxHeartbeats 4000000 in
set_option maxRecDepth 20000 in
theorem cM_fails (E : bz_E) (F : Nat)  {M : bz_Mm} {x0 : bz_Mm} (hf : fM_fails F M = some x0) : bz_Ct E yM_fails (.code yM_fails prog_14_method_27_code 1 none) 0 0 [bz_rf E 81] M (none) x0 := by
  refine bz_met (by decide +kernel) (Nat.le_of_ble_eq_true rfl) (fun K X => ?_)
  have X : bz_X K E prog_14_method_27_code 1 "UnitsWrongModel" none 0 0 _ _ := X
  unfold fM_fails at hf
  show bz_J K 1 0 [(0, bz_rf E 81)] [] M
  refine j_aload_n X dM_fails_0 rfl 0 rfl ?_
  refine j_geti X gf_M_316_81 dM_fails_1 ?_
  refine j_iconst X dM_fails_4 ?_
  refine j_icmp_ne X (tgt := 16) rfl (w32_lit rfl) dM_fails_5 (by decide) hf (fun hf => ?_) (fun hf => ?_)
  · cases hf
    exact j_vret X dM_fails_16 rfl rfl
  · refine j_aload_n X dM_fails_8 rfl 0 rfl ?_
    refine j_aload_n X dM_fails_9 rfl 0 rfl ?_
    refine j_geti X gf_M_319_81 dM_fails_10 ?_
    refine j_puti X pf_M_316_81 dM_fails_13 hf (fun m1 hf => ?_)
    cases hf
    exact j_vret X dM_fails_16 rfl rfl
def M_number_L21 (F : Nat) : Nat → bz_Mm → Int → Int → Int → Option (Int × Int)
  | 0, _, _, _, _ => none
  | n + 1, M, l1, l3, l2 =>
    if w32 l2 < w32 (M 81 39) then
    (rd_ M 110 l2 600 fun x2 =>
    if w32 (fM_isDigit x2) = 0 then
    (some (l3, l2))
    else
    (rd_ M 110 l2 600 fun x3 =>
    lt_ (fM_near (((10 * l3) + (w32 x3)) - 48) 0 2000000000) fun l3 =>
    M_number_L21 F n M l1 l3 (l2 + 1)))
    else
    (some (l3, l2))
theorem lM_number_L21 (E : bz_E) (F : Nat) {K : bz_K} {rv : Option Value} {M1 : bz_Mm} (X : bz_X K E prog_14_method_34_code 5 "UnitsWrongModel" (some .int) 1 25 rv M1) {M : bz_Mm} {l1 : Int} {res : (Int × Int)}
    (kx : ∀ (l3 : Int) (l2 : Int), some (l3, l2) = some res → bz_J K 5 72 [(3, bz_l l3), (2, bz_i l2), (0, bz_rf E 81), (1, bz_i l1)] [] M) :
    ∀ (n : Nat) (l3 : Int) (l2 : Int), M_number_L21 F n M l1 l3 l2 = some res → bz_J K 5 21 [(3, bz_l l3), (2, bz_i l2), (0, bz_rf E 81), (1, bz_i l1)] [] M := by
  intro n
  induction n with
  | zero => intro l3 l2 hf; cases hf
  | succ n ih =>
    intro l3 l2 hf
    rw [M_number_L21] at hf
    refine j_iload_n X dM_number_21 rfl 1 rfl ?_
    refine j_aload_n X dM_number_22 rfl 2 rfl ?_
    refine j_geti X gf_M_322_81 dM_number_23 ?_
    refine j_icmp_ge X (tgt := 72) rfl rfl dM_number_26 (by decide) hf (fun hf => ?_) (fun hf => ?_)
    · exact kx _ _ hf
    · refine j_aload_n X dM_number_29 rfl 2 rfl ?_
      refine j_geta X gf_M_96_81 dM_number_30 ?_
      refine j_iload_n X dM_number_33 rfl 1 rfl ?_
      refine j_bald X sh_110 dM_number_34 hf (fun x2 hf => ?_)
      refine j_cs X (st := []) (cM_isDigit E) gyM_isDigit wd_1548 rfl (by decide) (by decide) wd_1547 rfl (Nat.le_of_ble_eq_true rfl) dM_number_35 ?_
      refine j_if_eq X (tgt := 72) rfl dM_number_38 (by decide) hf (fun hf => ?_) (fun hf => ?_)
      · exact kx _ _ hf
      · refine j_ldc2 X (v := 10) wd_1550 dM_number_41 ?_
        refine j_lload_n X dM_number_44 rfl 0 rfl ?_
        refine j_lmul X dM_number_45 ?_
        refine j_aload_n X dM_number_46 rfl 2 rfl ?_
        refine j_geta X gf_M_96_81 dM_number_47 ?_
        refine j_iload_n X dM_number_50 rfl 1 rfl ?_
        refine j_bald X sh_110 dM_number_51 hf (fun x3 hf => ?_)
        show bz_J _ _ 52 _ _ _
        refine j_i2l X rfl dM_number_52 ?_
        refine j_ladd X dM_number_53 ?_
        refine j_ldc2 X (v := 48) wd_1551 dM_number_54 ?_
        refine j_lsub X dM_number_57 ?_
        refine j_lconst X (v := 0) dM_number_58 rfl ?_
        refine j_ldc2 X (v := 2000000000) wd_1552 dM_number_59 ?_
        refine j_cs X (st := []) (cM_near E) gyM_near wd_1554 rfl (by decide) (by decide) wd_1553 rfl (Nat.le_of_ble_eq_true rfl) dM_number_62 ?_
        refine j_lt (g := bz_l) hf (fun l3 hf => ?_)
        refine j_lstore_n X (lv' := [(3, bz_l l3), (2, bz_i l2), (0, bz_rf E 81), (1, bz_i l1)]) dM_number_65 rfl (by decide) rfl ?_
        show bz_J _ _ 66 _ _ _
        refine j_iinc X (y := l2 + 1) (lv' := [(2, bz_i (l2 + 1)), (3, bz_l l3), (0, bz_rf E 81), (1, bz_i l1)]) dM_number_66 1 rfl rfl (by decide) rfl ?_
        refine j_goto X (tgt := 21) dM_number_69 (by decide) ?_
        exact j_sub [1, 0, 2, 3] rfl (ih _ _ hf)
def fM_number (F : Nat) (M : bz_Mm) (a1 : Int) : Option (Int × bz_Mm) :=
  cl_ (fM_skips F M) fun m1 =>
  if w32 (m1 81 40) = (-1) then
  (lt_ (m1 81 38) fun l2 =>
  cl2_ (M_number_L21 F F m1 a1 0 l2) fun l3 l2 =>
  if w32 l2 = w32 (m1 81 38) then
  (cl_ (fM_fails F m1) fun m4 =>
  some ((0, m4)))
  else
  (if w64 (w32 a1) < w64 l3 then
  (cl_ (fM_fails F m1) fun m6 =>
  some ((0, m6)))
  else
  (wf_ m1 81 38 l2 fun m5 =>
  some ((l3, m5)))))
  else
  (some ((0, m1)))
set_option maxHeartbeats 4000000 in
set_option maxRecDepth 20000 in
theorem cM_number (E : bz_E) (F : Nat)  {M : bz_Mm} {a1 : Int} {x0 : Int × bz_Mm} (hf : fM_number F M a1 = some x0) : bz_Ct E yM_number (.code yM_number prog_14_method_34_code 5 (some .int)) 1 25 [bz_rf E 81, bz_i a1] M (some (bz_i x0.1)) x0.2 := by
  refine bz_met (by decide +kernel) (Nat.le_of_ble_eq_true rfl) (fun K X => ?_)
  have X : bz_X K E prog_14_method_34_code 5 "UnitsWrongModel" (some .int) 1 25 _ _ := X
  unfold fM_number at hf
  show bz_J K 5 0 [(0, bz_rf E 81), (1, bz_i a1)] [] M
  refine j_aload_n X dM_number_0 rfl 0 rfl ?_
  obtain ⟨m1, hz, hf⟩ := q_cl hf
  refine j_cv X (st := []) (cM_skips E F hz) gyM_skips gv_M_skips_81 rfl (by decide) (by decide) wd_1522 rfl (Nat.le_of_ble_eq_true rfl) dM_number_1 ?_
  clear hz
  refine j_aload_n X dM_number_4 rfl 0 rfl ?_
  refine j_geti X gf_M_316_81 dM_number_5 ?_
  refine j_iconst X dM_number_8 ?_
  refine j_icmp_eq X (tgt := 14) rfl (w32_lit rfl) dM_number_9 (by decide) hf (fun hf => ?_) (fun hf => ?_)
  · refine j_aload_n X dM_number_14 rfl 0 rfl ?_
    refine j_geti X gf_M_319_81 dM_number_15 ?_
    refine j_lt (g := bz_i) hf (fun l2 hf => ?_)
    refine j_istore_n X (lv' := [(2, bz_i l2), (0, bz_rf E 81), (1, bz_i a1)]) dM_number_18 rfl (by decide) rfl ?_
    refine j_lconst X (v := 0) dM_number_19 rfl ?_
    refine j_lstore_n X (lv' := [(3, bz_l 0), (2, bz_i l2), (0, bz_rf E 81), (1, bz_i a1)]) dM_number_20 rfl (by decide) rfl ?_
    obtain ⟨res7, hz7, hk7⟩ := q_l2 hf
    clear hf
    refine lM_number_L21 E F X (fun l3 l2 he => ?_) F 0 l2 hz7
    have hf := hk7 _ _ he
    refine j_iload_n X dM_number_72 rfl 1 rfl ?_
    refine j_aload_n X dM_number_73 rfl 2 rfl ?_
    refine j_geti X gf_M_319_81 dM_number_74 ?_
    refine j_icmp_eq X (tgt := 87) rfl rfl dM_number_77 (by decide) hf (fun hf => ?_) (fun hf => ?_)
    · refine j_aload_n X dM_number_87 rfl 2 rfl ?_
      obtain ⟨m4, hz, hf⟩ := q_cl hf
      refine j_cv X (st := []) (cM_fails E F hz) gyM_fails gv_M_fails_81 rfl (by decide) (by decide) wd_1556 rfl (Nat.le_of_ble_eq_true rfl) dM_number_88 ?_
      clear hz
      refine j_iconst X dM_number_91 ?_
      cases hf
      exact j_iret X dM_number_92 rfl rfl
    · refine j_lload_n X dM_number_80 rfl 0 rfl ?_
      refine j_iload_n X dM_number_81 rfl 3 rfl ?_
      refine j_i2l X rfl dM_number_82 ?_
      refine j_lcmp_le X (tgt := 93) rfl rfl dM_number_83 dM_number_84 (by decide) hf (fun hf => ?_) (fun hf => ?_)
      · refine j_aload_n X dM_number_93 rfl 2 rfl ?_
        refine j_iload_n X dM_number_94 rfl 1 rfl ?_
        refine j_puti X pf_M_319_81 dM_number_95 hf (fun m5 hf => ?_)
        refine j_lload_n X dM_number_98 rfl 0 rfl ?_
        refine j_l2i X dM_number_99 ?_
        cases hf
        exact j_iret X dM_number_100 rfl rfl
      · refine j_aload_n X dM_number_87 rfl 2 rfl ?_
        obtain ⟨m6, hz, hf⟩ := q_cl hf
        refine j_cv X (st := []) (cM_fails E F hz) gyM_fails gv_M_fails_81 rfl (by decide) (by decide) wd_1556 rfl (Nat.le_of_ble_eq_true rfl) dM_number_88 ?_
        clear hz
        refine j_iconst X dM_number_91 ?_
        cases hf
        exact j_iret X dM_number_92 rfl rfl
  · refine j_iconst X dM_number_12 ?_
    cases hf
    exact j_iret X dM_number_13 rfl rfl
def fM_sets (F : Nat) (M : bz_Mm) (a1 : Int) (a2 : Int) (a3 : Int) : Option (bz_Mm) :=
  if w32 (M 81 40) = (-1) then
  (ra_ 6 7 fun i1 =>
  ra_ a1 5 fun i2 =>
  wa_ M (119 + 5 * i1 + i2) a2 12 a3 fun m3 =>
  some m3)
  else
  (some M)
set_option maxHeartbeats 4000000 in
set_option maxRecDepth 20000 in
theorem cM_sets (E : bz_E) (F : Nat)  {M : bz_Mm} {a1 : Int} {a2 : Int} {a3 : Int} {x0 : bz_Mm} (hf : fM_sets F M a1 a2 a3 = some x0) : bz_Ct E yM_sets (.code yM_sets prog_14_method_36_code 4 none) 0 0 [bz_rf E 81, bz_i a1, bz_i a2, bz_i a3] M (none) x0 := by
  refine bz_met (by decide +kernel) (Nat.le_of_ble_eq_true rfl) (fun K X => ?_)
  have X : bz_X K E prog_14_method_36_code 4 "UnitsWrongModel" none 0 0 _ _ := X
  unfold fM_sets at hf
  show bz_J K 4 0 [(0, bz_rf E 81), (1, bz_i a1), (2, bz_i a2), (3, bz_i a3)] [] M
  refine j_aload_n X dM_sets_0 rfl 0 rfl ?_
  refine j_geti X gf_M_316_81 dM_sets_1 ?_
  refine j_iconst X dM_sets_4 ?_
  refine j_icmp_ne X (tgt := 20) rfl (w32_lit rfl) dM_sets_5 (by decide) hf (fun hf => ?_) (fun hf => ?_)
  · cases hf
    exact j_vret X dM_sets_20 rfl rfl
  · refine j_aload_n X dM_sets_8 rfl 0 rfl ?_
    refine j_geta X gf_M_102_81 dM_sets_9 ?_
    refine j_bipush X dM_sets_12 rfl ?_
    refine j_aald X sh_111 (by decide) (by decide) dM_sets_14 hf (fun i1 hi1 hf => ?_)
    refine j_iload_n X dM_sets_15 rfl 1 rfl ?_
    refine j_aald X (sr_111 i1 hi1) (by decide) (by decide) dM_sets_16 hf (fun i2 hi2 hf => ?_)
    refine j_iload_n X dM_sets_17 rfl 2 rfl ?_
    show bz_J _ _ 18 _ _ _
    refine j_iload_n X dM_sets_18 rfl 3 rfl ?_
    refine j_iast X (sq_111 i1 hi1 i2 hi2) dM_sets_19 hf (fun m3 hf => ?_)
    cases hf
    exact j_vret X dM_sets_20 rfl rfl
def fM_word (F : Nat) (M : bz_Mm) (w1 : Nat) : Option (bz_Mm) :=
  cl_ (fM_skips F M) fun m1 =>
  if w32 (m1 81 40) = (-1) then
  (cl_ (fM_isWord F m1 w1) fun x2 =>
  if w32 x2 = 0 then
  (cl_ (fM_fails F m1) fun m5 =>
  some m5)
  else
  (cl_ (fM_wordEnd F m1) fun x3 =>
  wf_ m1 81 38 x3 fun m4 =>
  some m4))
  else
  (some m1)
set_option maxHeartbeats 4000000 in
set_option maxRecDepth 20000 in
theorem cM_word (E : bz_E) (F : Nat)  {M : bz_Mm} {w1 : Nat} {x0 : bz_Mm} (hw1 : w1 < 18) (hf : fM_word F M w1 = some x0) : bz_Ct E yM_word (.code yM_word prog_14_method_33_code 2 none) 5 107 [bz_rf E 81, bz_rf E (900 + w1)] M (none) x0 := by
  refine bz_met (by decide +kernel) (Nat.le_of_ble_eq_true rfl) (fun K X => ?_)
  have X : bz_X K E prog_14_method_33_code 2 "UnitsWrongModel" none 5 107 _ _ := X
  unfold fM_word at hf
  show bz_J K 2 0 [(0, bz_rf E 81), (1, bz_rf E (900 + w1))] [] M
  refine j_aload_n X dM_word_0 rfl 0 rfl ?_
  obtain ⟨m1, hz, hf⟩ := q_cl hf
  refine j_cv X (st := []) (cM_skips E F hz) gyM_skips gv_M_skips_81 rfl (by decide) (by decide) wd_1522 rfl (Nat.le_of_ble_eq_true rfl) dM_word_1 ?_
  clear hz
  refine j_aload_n X dM_word_4 rfl 0 rfl ?_
  refine j_geti X gf_M_316_81 dM_word_5 ?_
  refine j_iconst X dM_word_8 ?_
  refine j_icmp_eq X (tgt := 13) rfl (w32_lit rfl) dM_word_9 (by decide) hf (fun hf => ?_) (fun hf => ?_)
  · refine j_aload_n X dM_word_13 rfl 0 rfl ?_
    refine j_aload_n X dM_word_14 rfl 1 rfl ?_
    obtain ⟨x2, hzx2, hf⟩ := q_cl hf
    refine j_cv X (st := []) (cM_isWord E F hw1 hzx2) gyM_isWord gv_M_isWord_81 rfl (by decide) (by decide) wd_1530 rfl (Nat.le_of_ble_eq_true rfl) dM_word_15 ?_
    refine j_if_ne X (tgt := 26) rfl dM_word_18 (by decide) hf (fun hf => ?_) (fun hf => ?_)
    · refine j_aload_n X dM_word_26 rfl 0 rfl ?_
      refine j_aload_n X dM_word_27 rfl 0 rfl ?_
      obtain ⟨x3, hzx3, hf⟩ := q_cl hf
      refine j_cv X (st := [bz_rf E 81]) (cM_wordEnd E F hzx3) gyM_wordEnd gv_M_wordEnd_81 rfl (by decide) (by decide) wd_1534 rfl (Nat.le_of_ble_eq_true rfl) dM_word_28 ?_
      refine j_puti X pf_M_319_81 dM_word_31 hf (fun m4 hf => ?_)
      cases hf
      exact j_vret X dM_word_34 rfl rfl
    · refine j_aload_n X dM_word_21 rfl 0 rfl ?_
      obtain ⟨m5, hz, hf⟩ := q_cl hf
      refine j_cv X (st := []) (cM_fails E F hz) gyM_fails gv_M_fails_81 rfl (by decide) (by decide) wd_1556 rfl (Nat.le_of_ble_eq_true rfl) dM_word_22 ?_
      clear hz
      cases hf
      exact j_vret X dM_word_25 rfl rfl
  · cases hf
    exact j_vret X dM_word_12 rfl rfl
def M_party_L16 (F : Nat) : Nat → bz_Mm → Int → Option ((Int × bz_Mm) ⊕ (Int))
  | 0, _, _ => none
  | n + 1, M, l1 =>
    if w32 l1 < 3 then
    (ra_ l1 3 fun i2 =>
    cl_ (fM_isWord F M i2) fun x3 =>
    if w32 x3 = 0 then
    (M_party_L16 F n M (l1 + 1))
    else
    (cl_ (fM_wordEnd F M) fun x4 =>
    wf_ M 81 38 x4 fun m5 =>
    some (.inl ((l1, m5)))))
    else
    (some (.inr 0))
theorem lM_party_L16 (E : bz_E) (F : Nat) {K : bz_K} {rv : Option Value} {M1 : bz_Mm} (X : bz_X K E prog_14_method_35_code 2 "UnitsWrongModel" (some .int) 5 107 rv M1) {M : bz_Mm} {res : ((Int × bz_Mm) ⊕ (Int))}
    (kx : ∀ (_u : Int), some (.inr _u) = some res → bz_J K 2 53 [(0, bz_rf E 81)] [] M) (kr : ∀ b : Int × bz_Mm, some (.inl b) = some res → some (bz_i b.1) = rv ∧ b.2 = M1) :
    ∀ (n : Nat) (l1 : Int), M_party_L16 F n M l1 = some res → bz_J K 2 16 [(1, bz_i l1), (0, bz_rf E 81)] [] M := by
  intro n
  induction n with
  | zero => intro l1 hf; cases hf
  | succ n ih =>
    intro l1 hf
    rw [M_party_L16] at hf
    refine j_iload_n X dM_party_16 rfl 0 rfl ?_
    refine j_iconst X dM_party_17 ?_
    refine j_icmp_ge X (tgt := 53) rfl (w32_lit rfl) dM_party_18 (by decide) hf (fun hf => ?_) (fun hf => ?_)
    · exact j_sub [1] rfl (kx _ hf)
    · refine j_aload_n X dM_party_21 rfl 1 rfl ?_
      refine j_aload_n X dM_party_22 rfl 1 rfl ?_
      refine j_geta X gf_M_119_81 dM_party_23 ?_
      refine j_iload_n X dM_party_26 rfl 0 rfl ?_
      refine j_aald X sh_156 (by decide) (by decide) dM_party_27 hf (fun i2 hi2 hf => ?_)
      obtain ⟨x3, hzx3, hf⟩ := q_cl hf
      refine j_cv X (st := []) (cM_isWord E F (Nat.lt_of_lt_of_le hi2 (by decide)) hzx3) gyM_isWord gv_M_isWord_81 rfl (by decide) (by decide) wd_1530 rfl (Nat.le_of_ble_eq_true rfl) dM_party_28 ?_
      refine j_if_ne X (tgt := 37) rfl dM_party_31 (by decide) hf (fun hf => ?_) (fun hf => ?_)
      · refine j_aload_n X dM_party_37 rfl 1 rfl ?_
        refine j_aload_n X dM_party_38 rfl 1 rfl ?_
        obtain ⟨x4, hzx4, hf⟩ := q_cl hf
        refine j_cv X (st := [bz_rf E 81]) (cM_wordEnd E F hzx4) gyM_wordEnd gv_M_wordEnd_81 rfl (by decide) (by decide) wd_1534 rfl (Nat.le_of_ble_eq_true rfl) dM_party_39 ?_
        refine j_puti X pf_M_319_81 dM_party_42 hf (fun m5 hf => ?_)
        refine j_iload_n X dM_party_45 rfl 0 rfl ?_
        exact j_iret X dM_party_46 (kr _ hf).1 (kr _ hf).2
      · refine j_goto X (tgt := 47) dM_party_34 (by decide) ?_
        refine j_iinc X (y := l1 + 1) (lv' := [(1, bz_i (l1 + 1)), (0, bz_rf E 81)]) dM_party_47 0 rfl rfl (by decide) rfl ?_
        refine j_goto X (tgt := 16) dM_party_50 (by decide) ?_
        exact ih _ hf
def fM_party (F : Nat) (M : bz_Mm) : Option (Int × bz_Mm) :=
  cl_ (fM_skips F M) fun m1 =>
  if w32 (m1 81 40) = (-1) then
  (cs1_ (M_party_L16 F F m1 0) (fun b => some b) fun _u =>
  cl_ (fM_fails F m1) fun m6 =>
  some ((0, m6)))
  else
  (some ((0, m1)))
set_option maxHeartbeats 4000000 in
set_option maxRecDepth 20000 in
theorem cM_party (E : bz_E) (F : Nat)  {M : bz_Mm} {x0 : Int × bz_Mm} (hf : fM_party F M = some x0) : bz_Ct E yM_party (.code yM_party prog_14_method_35_code 2 (some .int)) 5 107 [bz_rf E 81] M (some (bz_i x0.1)) x0.2 := by
  refine bz_met (by decide +kernel) (Nat.le_of_ble_eq_true rfl) (fun K X => ?_)
  have X : bz_X K E prog_14_method_35_code 2 "UnitsWrongModel" (some .int) 5 107 _ _ := X
  unfold fM_party at hf
  show bz_J K 2 0 [(0, bz_rf E 81)] [] M
  refine j_aload_n X dM_party_0 rfl 0 rfl ?_
  obtain ⟨m1, hz, hf⟩ := q_cl hf
  refine j_cv X (st := []) (cM_skips E F hz) gyM_skips gv_M_skips_81 rfl (by decide) (by decide) wd_1522 rfl (Nat.le_of_ble_eq_true rfl) dM_party_1 ?_
  clear hz
  refine j_aload_n X dM_party_4 rfl 0 rfl ?_
  refine j_geti X gf_M_316_81 dM_party_5 ?_
  refine j_iconst X dM_party_8 ?_
  refine j_icmp_eq X (tgt := 14) rfl (w32_lit rfl) dM_party_9 (by decide) hf (fun hf => ?_) (fun hf => ?_)
  · refine j_iconst X dM_party_14 ?_
    refine j_istore_n X (lv' := [(1, bz_i 0), (0, bz_rf E 81)]) dM_party_15 rfl (by decide) rfl ?_
    obtain ⟨res7, hz7, hk7, hr7⟩ := q_s1 hf
    clear hf
    refine lM_party_L16 E F X (fun _u he => ?_) (fun b he => ?_) F 0 hz7
    · have hf := hk7 _ he
      refine j_aload_n X dM_party_53 rfl 0 rfl ?_
      obtain ⟨m6, hz, hf⟩ := q_cl hf
      refine j_cv X (st := []) (cM_fails E F hz) gyM_fails gv_M_fails_81 rfl (by decide) (by decide) wd_1556 rfl (Nat.le_of_ble_eq_true rfl) dM_party_54 ?_
      clear hz
      refine j_iconst X dM_party_57 ?_
      cases hf
      exact j_iret X dM_party_58 rfl rfl
    · have hf := hr7 _ he
      cases hf
      exact ⟨rfl, rfl⟩
  · refine j_iconst X dM_party_12 ?_
    cases hf
    exact j_iret X dM_party_13 rfl rfl
def fM_gains (F : Nat) (M : bz_Mm) (a1 : Int) : Option (bz_Mm) :=
  cl_ (fM_skips F M) fun m1 =>
  cl2_ (fM_takes F m1 16) fun x3 m2 =>
  if w32 x3 = 0 then
  (cl_ (fM_word F m2 17) fun m4 =>
  cl_ (fM_word F m4 8) fun m5 =>
  cl2_ (fM_number F m5 100000) fun x7 m6 =>
  cl_ (fM_sets F m6 a1 7 x7) fun m8 =>
  some m8)
  else
  (cl_ (fM_sets F m2 a1 7 ((-1))) fun m9 =>
  some m9)
set_option maxHeartbeats 4000000 in
set_option maxRecDepth 20000 in
theorem cM_gains (E : bz_E) (F : Nat)  {M : bz_Mm} {a1 : Int} {x0 : bz_Mm} (hf : fM_gains F M a1 = some x0) : bz_Ct E yM_gains (.code yM_gains prog_14_method_39_code 2 none) 6 128 [bz_rf E 81, bz_i a1] M (none) x0 := by
  refine bz_met (by decide +kernel) (Nat.le_of_ble_eq_true rfl) (fun K X => ?_)
  have X : bz_X K E prog_14_method_39_code 2 "UnitsWrongModel" none 6 128 _ _ := X
  unfold fM_gains at hf
  show bz_J K 2 0 [(0, bz_rf E 81), (1, bz_i a1)] [] M
  refine j_aload_n X dM_gains_0 rfl 0 rfl ?_
  obtain ⟨m1, hz, hf⟩ := q_cl hf
  refine j_cv X (st := []) (cM_skips E F hz) gyM_skips gv_M_skips_81 rfl (by decide) (by decide) wd_1522 rfl (Nat.le_of_ble_eq_true rfl) dM_gains_1 ?_
  clear hz
  refine j_aload_n X dM_gains_4 rfl 0 rfl ?_
  refine j_ldcwS X (w := 16) (tx := "stay") (by decide +kernel) dM_gains_5 ?_
  obtain ⟨x3, m2, hz, hf⟩ := q_cl2 hf
  refine j_cv X (st := []) (cM_takes E F (by decide) hz) gyM_takes gv_M_takes_81 rfl (by decide) (by decide) wd_1526 rfl (Nat.le_of_ble_eq_true rfl) dM_gains_8 ?_
  clear hz
  refine j_if_eq X (tgt := 23) rfl dM_gains_11 (by decide) hf (fun hf => ?_) (fun hf => ?_)
  · refine j_aload_n X dM_gains_23 rfl 0 rfl ?_
    refine j_ldcwS X (w := 17) (tx := "back") (by decide +kernel) dM_gains_24 ?_
    obtain ⟨m4, hz, hf⟩ := q_cl hf
    refine j_cv X (st := []) (cM_word E F (by decide) hz) gyM_word gv_M_word_81 rfl (by decide) (by decide) wd_1571 rfl (Nat.le_of_ble_eq_true rfl) dM_gains_27 ?_
    clear hz
    refine j_aload_n X dM_gains_30 rfl 0 rfl ?_
    refine j_ldcwS X (w := 8) (tx := "beyond") (by decide +kernel) dM_gains_31 ?_
    obtain ⟨m5, hz, hf⟩ := q_cl hf
    refine j_cv X (st := []) (cM_word E F (by decide) hz) gyM_word gv_M_word_81 rfl (by decide) (by decide) wd_1571 rfl (Nat.le_of_ble_eq_true rfl) dM_gains_34 ?_
    clear hz
    refine j_aload_n X dM_gains_37 rfl 0 rfl ?_
    show bz_J _ _ 38 _ _ _
    refine j_iload_n X dM_gains_38 rfl 1 rfl ?_
    refine j_bipush X dM_gains_39 rfl ?_
    refine j_aload_n X dM_gains_41 rfl 0 rfl ?_
    refine j_ldcw X (v := 100000) wd_1579 dM_gains_42 ?_
    obtain ⟨x7, m6, hz, hf⟩ := q_cl2 hf
    refine j_cv X (st := [bz_i 7, bz_i a1, bz_rf E 81]) (cM_number E F hz) gyM_number gv_M_number_81 rfl (by decide) (by decide) wd_1543 rfl (Nat.le_of_ble_eq_true rfl) dM_gains_45 ?_
    clear hz
    obtain ⟨m8, hz, hf⟩ := q_cl hf
    refine j_cv X (st := []) (cM_sets E F hz) gyM_sets gv_M_sets_81 rfl (by decide) (by decide) wd_1565 rfl (Nat.le_of_ble_eq_true rfl) dM_gains_48 ?_
    clear hz
    cases hf
    exact j_vret X dM_gains_51 rfl rfl
  · refine j_aload_n X dM_gains_14 rfl 0 rfl ?_
    refine j_iload_n X dM_gains_15 rfl 1 rfl ?_
    refine j_bipush X dM_gains_16 rfl ?_
    refine j_iconst X dM_gains_18 ?_
    obtain ⟨m9, hz, hf⟩ := q_cl hf
    refine j_cv X (st := []) (cM_sets E F hz) gyM_sets gv_M_sets_81 rfl (by decide) (by decide) wd_1565 rfl (Nat.le_of_ble_eq_true rfl) dM_gains_19 ?_
    clear hz
    cases hf
    exact j_vret X dM_gains_22 rfl rfl
def fM_rule0 (F : Nat) (M : bz_Mm) (a1 : Int) : Option (bz_Mm) :=
  cl2_ (fM_takes F M 3) fun x2 m1 =>
  if w32 x2 = 0 then
  (cl2_ (fM_takes F m1 4) fun x4 m3 =>
  if w32 x4 = 0 then
  (cl2_ (fM_takes F m3 6) fun x6 m5 =>
  if w32 x6 = 0 then
  (cl2_ (fM_takes F m5 7) fun x8 m7 =>
  if w32 x8 = 0 then
  (cl2_ (fM_takes F m7 9) fun x10 m9 =>
  if w32 x10 = 0 then
  (cl2_ (fM_takes F m9 11) fun x12 m11 =>
  if w32 x12 = 0 then
  (cl2_ (fM_takes F m11 12) fun x14 m13 =>
  if w32 x14 = 0 then
  (cl2_ (fM_takes F m13 14) fun x16 m15 =>
  if w32 x16 = 0 then
  (cl2_ (fM_takes F m15 15) fun x18 m17 =>
  if w32 x18 = 0 then
  (cl_ (fM_fails F m17) fun m19 =>
  some m19)
  else
  (cl2_ (fM_number F m17 60) fun x21 m20 =>
  cl_ (fM_sets F m20 a1 11 x21) fun m22 =>
  cl_ (fM_word F m22 13) fun m23 =>
  some m23))
  else
  (cl2_ (fM_number F m15 90) fun x25 m24 =>
  cl_ (fM_sets F m24 a1 10 x25) fun m26 =>
  some m26))
  else
  (cl2_ (fM_number F m13 300) fun x28 m27 =>
  cl_ (fM_sets F m27 a1 8 x28) fun m29 =>
  cl_ (fM_word F m29 13) fun m30 =>
  cl_ (fM_word F m30 10) fun m31 =>
  cl2_ (fM_party F m31) fun x33 m32 =>
  cl_ (fM_sets F m32 a1 9 x33) fun m34 =>
  some m34))
  else
  (cl_ (fM_gains F m11 a1) fun m35 =>
  some m35))
  else
  (cl2_ (fM_number F m9 100000) fun x37 m36 =>
  cl_ (fM_sets F m36 a1 5 x37) fun m38 =>
  cl_ (fM_word F m38 10) fun m39 =>
  cl2_ (fM_party F m39) fun x41 m40 =>
  cl_ (fM_sets F m40 a1 6 x41) fun m42 =>
  some m42))
  else
  (cl_ (fM_word F m7 8) fun m43 =>
  cl2_ (fM_number F m43 5000) fun x45 m44 =>
  cl_ (fM_sets F m44 a1 4 x45) fun m46 =>
  some m46))
  else
  (cl2_ (fM_number F m5 24) fun x48 m47 =>
  cl_ (fM_sets F m47 a1 3 x48) fun m49 =>
  some m49))
  else
  (cl2_ (fM_number F m3 1000) fun x51 m50 =>
  cl_ (fM_sets F m50 a1 1 x51) fun m52 =>
  cl_ (fM_word F m52 5) fun m53 =>
  cl2_ (fM_number F m53 10000) fun x55 m54 =>
  cl_ (fM_sets F m54 a1 2 x55) fun m56 =>
  some m56))
  else
  (cl2_ (fM_number F m1 5000) fun x58 m57 =>
  cl_ (fM_sets F m57 a1 0 x58) fun m59 =>
  some m59)
set_option maxHeartbeats 4000000 in
set_option maxRecDepth 20000 in
theorem cM_rule0 (E : bz_E) (F : Nat)  {M : bz_Mm} {a1 : Int} {x0 : bz_Mm} (hf : fM_rule0 F M a1 = some x0) : bz_Ct E yM_rule0 (.code yM_rule0 prog_14_method_38_code 2 none) 7 149 [bz_rf E 81, bz_i a1] M (none) x0 := by
  refine bz_met (by decide +kernel) (Nat.le_of_ble_eq_true rfl) (fun K X => ?_)
  have X : bz_X K E prog_14_method_38_code 2 "UnitsWrongModel" none 7 149 _ _ := X
  unfold fM_rule0 at hf
  show bz_J K 2 0 [(0, bz_rf E 81), (1, bz_i a1)] [] M
  refine j_aload_n X dM_rule0_0 rfl 0 rfl ?_
  refine j_ldcwS X (w := 3) (tx := "fee") (by decide +kernel) dM_rule0_1 ?_
  obtain ⟨x2, m1, hz, hf⟩ := q_cl2 hf
  refine j_cv X (st := []) (cM_takes E F (by decide) hz) gyM_takes gv_M_takes_81 rfl (by decide) (by decide) wd_1526 rfl (Nat.le_of_ble_eq_true rfl) dM_rule0_4 ?_
  clear hz
  refine j_if_eq X (tgt := 26) rfl dM_rule0_7 (by decide) hf (fun hf => ?_) (fun hf => ?_)
  · refine j_aload_n X dM_rule0_26 rfl 0 rfl ?_
    refine j_ldcwS X (w := 4) (tx := "swing") (by decide +kernel) dM_rule0_27 ?_
    obtain ⟨x4, m3, hz, hf⟩ := q_cl2 hf
    refine j_cv X (st := []) (cM_takes E F (by decide) hz) gyM_takes gv_M_takes_81 rfl (by decide) (by decide) wd_1526 rfl (Nat.le_of_ble_eq_true rfl) dM_rule0_30 ?_
    clear hz
    refine j_if_eq X (tgt := 72) rfl dM_rule0_33 (by decide) hf (fun hf => ?_) (fun hf => ?_)
    · refine j_aload_n X dM_rule0_72 rfl 0 rfl ?_
      refine j_ldcwS X (w := 6) (tx := "cut") (by decide +kernel) dM_rule0_73 ?_
      obtain ⟨x6, m5, hz, hf⟩ := q_cl2 hf
      refine j_cv X (st := []) (cM_takes E F (by decide) hz) gyM_takes gv_M_takes_81 rfl (by decide) (by decide) wd_1526 rfl (Nat.le_of_ble_eq_true rfl) dM_rule0_76 ?_
      clear hz
      refine j_if_eq X (tgt := 97) rfl dM_rule0_79 (by decide) hf (fun hf => ?_) (fun hf => ?_)
      · refine j_aload_n X dM_rule0_97 rfl 0 rfl ?_
        refine j_ldcwS X (w := 7) (tx := "error") (by decide +kernel) dM_rule0_98 ?_
        obtain ⟨x8, m7, hz, hf⟩ := q_cl2 hf
        refine j_cv X (st := []) (cM_takes E F (by decide) hz) gyM_takes gv_M_takes_81 rfl (by decide) (by decide) wd_1526 rfl (Nat.le_of_ble_eq_true rfl) dM_rule0_101 ?_
        clear hz
        refine j_if_eq X (tgt := 130) rfl dM_rule0_104 (by decide) hf (fun hf => ?_) (fun hf => ?_)
        · refine j_aload_n X dM_rule0_130 rfl 0 rfl ?_
          refine j_ldcwS X (w := 9) (tx := "least") (by decide +kernel) dM_rule0_131 ?_
          obtain ⟨x10, m9, hz, hf⟩ := q_cl2 hf
          refine j_cv X (st := []) (cM_takes E F (by decide) hz) gyM_takes gv_M_takes_81 rfl (by decide) (by decide) wd_1526 rfl (Nat.le_of_ble_eq_true rfl) dM_rule0_134 ?_
          clear hz
          refine j_if_eq X (tgt := 174) rfl dM_rule0_137 (by decide) hf (fun hf => ?_) (fun hf => ?_)
          · refine j_aload_n X dM_rule0_174 rfl 0 rfl ?_
            refine j_ldcwS X (w := 11) (tx := "gains") (by decide +kernel) dM_rule0_175 ?_
            obtain ⟨x12, m11, hz, hf⟩ := q_cl2 hf
            refine j_cv X (st := []) (cM_takes E F (by decide) hz) gyM_takes gv_M_takes_81 rfl (by decide) (by decide) wd_1526 rfl (Nat.le_of_ble_eq_true rfl) dM_rule0_178 ?_
            clear hz
            refine j_if_eq X (tgt := 192) rfl dM_rule0_181 (by decide) hf (fun hf => ?_) (fun hf => ?_)
            · refine j_aload_n X dM_rule0_192 rfl 0 rfl ?_
              refine j_ldcwS X (w := 12) (tx := "gone") (by decide +kernel) dM_rule0_193 ?_
              obtain ⟨x14, m13, hz, hf⟩ := q_cl2 hf
              refine j_cv X (st := []) (cM_takes E F (by decide) hz) gyM_takes gv_M_takes_81 rfl (by decide) (by decide) wd_1526 rfl (Nat.le_of_ble_eq_true rfl) dM_rule0_196 ?_
              clear hz
              refine j_if_eq X (tgt := 244) rfl dM_rule0_199 (by decide) hf (fun hf => ?_) (fun hf => ?_)
              · refine j_aload_n X dM_rule0_244 rfl 0 rfl ?_
                refine j_ldcwS X (w := 14) (tx := "tax") (by decide +kernel) dM_rule0_245 ?_
                obtain ⟨x16, m15, hz, hf⟩ := q_cl2 hf
                refine j_cv X (st := []) (cM_takes E F (by decide) hz) gyM_takes gv_M_takes_81 rfl (by decide) (by decide) wd_1526 rfl (Nat.le_of_ble_eq_true rfl) dM_rule0_248 ?_
                clear hz
                refine j_if_eq X (tgt := 270) rfl dM_rule0_251 (by decide) hf (fun hf => ?_) (fun hf => ?_)
                · refine j_aload_n X dM_rule0_270 rfl 0 rfl ?_
                  refine j_ldcwS X (w := 15) (tx := "report") (by decide +kernel) dM_rule0_271 ?_
                  obtain ⟨x18, m17, hz, hf⟩ := q_cl2 hf
                  refine j_cv X (st := []) (cM_takes E F (by decide) hz) gyM_takes gv_M_takes_81 rfl (by decide) (by decide) wd_1526 rfl (Nat.le_of_ble_eq_true rfl) dM_rule0_274 ?_
                  clear hz
                  refine j_if_eq X (tgt := 303) rfl dM_rule0_277 (by decide) hf (fun hf => ?_) (fun hf => ?_)
                  · refine j_aload_n X dM_rule0_303 rfl 0 rfl ?_
                    obtain ⟨m19, hz, hf⟩ := q_cl hf
                    refine j_cv X (st := []) (cM_fails E F hz) gyM_fails gv_M_fails_81 rfl (by decide) (by decide) wd_1556 rfl (Nat.le_of_ble_eq_true rfl) dM_rule0_304 ?_
                    clear hz
                    cases hf
                    exact j_vret X dM_rule0_307 rfl rfl
                  · refine j_aload_n X dM_rule0_280 rfl 0 rfl ?_
                    refine j_iload_n X dM_rule0_281 rfl 1 rfl ?_
                    refine j_bipush X dM_rule0_282 rfl ?_
                    refine j_aload_n X dM_rule0_284 rfl 0 rfl ?_
                    refine j_bipush X dM_rule0_285 rfl ?_
                    obtain ⟨x21, m20, hz, hf⟩ := q_cl2 hf
                    refine j_cv X (st := [bz_i 11, bz_i a1, bz_rf E 81]) (cM_number E F hz) gyM_number gv_M_number_81 rfl (by decide) (by decide) wd_1543 rfl (Nat.le_of_ble_eq_true rfl) dM_rule0_287 ?_
                    clear hz
                    obtain ⟨m22, hz, hf⟩ := q_cl hf
                    refine j_cv X (st := []) (cM_sets E F hz) gyM_sets gv_M_sets_81 rfl (by decide) (by decide) wd_1565 rfl (Nat.le_of_ble_eq_true rfl) dM_rule0_290 ?_
                    clear hz
                    show bz_J _ _ 293 _ _ _
                    refine j_aload_n X dM_rule0_293 rfl 0 rfl ?_
                    refine j_ldcwS X (w := 13) (tx := "days") (by decide +kernel) dM_rule0_294 ?_
                    obtain ⟨m23, hz, hf⟩ := q_cl hf
                    refine j_cv X (st := []) (cM_word E F (by decide) hz) gyM_word gv_M_word_81 rfl (by decide) (by decide) wd_1571 rfl (Nat.le_of_ble_eq_true rfl) dM_rule0_297 ?_
                    clear hz
                    refine j_goto X (tgt := 307) dM_rule0_300 (by decide) ?_
                    cases hf
                    exact j_vret X dM_rule0_307 rfl rfl
                · refine j_aload_n X dM_rule0_254 rfl 0 rfl ?_
                  refine j_iload_n X dM_rule0_255 rfl 1 rfl ?_
                  refine j_bipush X dM_rule0_256 rfl ?_
                  refine j_aload_n X dM_rule0_258 rfl 0 rfl ?_
                  refine j_bipush X dM_rule0_259 rfl ?_
                  obtain ⟨x25, m24, hz, hf⟩ := q_cl2 hf
                  refine j_cv X (st := [bz_i 10, bz_i a1, bz_rf E 81]) (cM_number E F hz) gyM_number gv_M_number_81 rfl (by decide) (by decide) wd_1543 rfl (Nat.le_of_ble_eq_true rfl) dM_rule0_261 ?_
                  clear hz
                  obtain ⟨m26, hz, hf⟩ := q_cl hf
                  refine j_cv X (st := []) (cM_sets E F hz) gyM_sets gv_M_sets_81 rfl (by decide) (by decide) wd_1565 rfl (Nat.le_of_ble_eq_true rfl) dM_rule0_264 ?_
                  clear hz
                  show bz_J _ _ 267 _ _ _
                  refine j_goto X (tgt := 307) dM_rule0_267 (by decide) ?_
                  cases hf
                  exact j_vret X dM_rule0_307 rfl rfl
              · refine j_aload_n X dM_rule0_202 rfl 0 rfl ?_
                refine j_iload_n X dM_rule0_203 rfl 1 rfl ?_
                refine j_bipush X dM_rule0_204 rfl ?_
                refine j_aload_n X dM_rule0_206 rfl 0 rfl ?_
                refine j_sipush X dM_rule0_207 rfl ?_
                obtain ⟨x28, m27, hz, hf⟩ := q_cl2 hf
                refine j_cv X (st := [bz_i 8, bz_i a1, bz_rf E 81]) (cM_number E F hz) gyM_number gv_M_number_81 rfl (by decide) (by decide) wd_1543 rfl (Nat.le_of_ble_eq_true rfl) dM_rule0_210 ?_
                clear hz
                obtain ⟨m29, hz, hf⟩ := q_cl hf
                refine j_cv X (st := []) (cM_sets E F hz) gyM_sets gv_M_sets_81 rfl (by decide) (by decide) wd_1565 rfl (Nat.le_of_ble_eq_true rfl) dM_rule0_213 ?_
                clear hz
                show bz_J _ _ 216 _ _ _
                refine j_aload_n X dM_rule0_216 rfl 0 rfl ?_
                refine j_ldcwS X (w := 13) (tx := "days") (by decide +kernel) dM_rule0_217 ?_
                obtain ⟨m30, hz, hf⟩ := q_cl hf
                refine j_cv X (st := []) (cM_word E F (by decide) hz) gyM_word gv_M_word_81 rfl (by decide) (by decide) wd_1571 rfl (Nat.le_of_ble_eq_true rfl) dM_rule0_220 ?_
                clear hz
                refine j_aload_n X dM_rule0_223 rfl 0 rfl ?_
                refine j_ldcwS X (w := 10) (tx := "to") (by decide +kernel) dM_rule0_224 ?_
                obtain ⟨m31, hz, hf⟩ := q_cl hf
                refine j_cv X (st := []) (cM_word E F (by decide) hz) gyM_word gv_M_word_81 rfl (by decide) (by decide) wd_1571 rfl (Nat.le_of_ble_eq_true rfl) dM_rule0_227 ?_
                clear hz
                refine j_aload_n X dM_rule0_230 rfl 0 rfl ?_
                refine j_iload_n X dM_rule0_231 rfl 1 rfl ?_
                show bz_J _ _ 232 _ _ _
                refine j_bipush X dM_rule0_232 rfl ?_
                refine j_aload_n X dM_rule0_234 rfl 0 rfl ?_
                obtain ⟨x33, m32, hz, hf⟩ := q_cl2 hf
                refine j_cv X (st := [bz_i 9, bz_i a1, bz_rf E 81]) (cM_party E F hz) gyM_party gv_M_party_81 rfl (by decide) (by decide) wd_1581 rfl (Nat.le_of_ble_eq_true rfl) dM_rule0_235 ?_
                clear hz
                obtain ⟨m34, hz, hf⟩ := q_cl hf
                refine j_cv X (st := []) (cM_sets E F hz) gyM_sets gv_M_sets_81 rfl (by decide) (by decide) wd_1565 rfl (Nat.le_of_ble_eq_true rfl) dM_rule0_238 ?_
                clear hz
                refine j_goto X (tgt := 307) dM_rule0_241 (by decide) ?_
                cases hf
                exact j_vret X dM_rule0_307 rfl rfl
            · refine j_aload_n X dM_rule0_184 rfl 0 rfl ?_
              refine j_iload_n X dM_rule0_185 rfl 1 rfl ?_
              obtain ⟨m35, hz, hf⟩ := q_cl hf
              refine j_cv X (st := []) (cM_gains E F hz) gyM_gains gv_M_gains_81 rfl (by decide) (by decide) wd_1586 rfl (Nat.le_of_ble_eq_true rfl) dM_rule0_186 ?_
              clear hz
              refine j_goto X (tgt := 307) dM_rule0_189 (by decide) ?_
              cases hf
              exact j_vret X dM_rule0_307 rfl rfl
          · refine j_aload_n X dM_rule0_140 rfl 0 rfl ?_
            refine j_iload_n X dM_rule0_141 rfl 1 rfl ?_
            refine j_iconst X dM_rule0_142 ?_
            refine j_aload_n X dM_rule0_143 rfl 0 rfl ?_
            refine j_ldcw X (v := 100000) wd_1579 dM_rule0_144 ?_
            obtain ⟨x37, m36, hz, hf⟩ := q_cl2 hf
            refine j_cv X (st := [bz_i 5, bz_i a1, bz_rf E 81]) (cM_number E F hz) gyM_number gv_M_number_81 rfl (by decide) (by decide) wd_1543 rfl (Nat.le_of_ble_eq_true rfl) dM_rule0_147 ?_
            clear hz
            obtain ⟨m38, hz, hf⟩ := q_cl hf
            refine j_cv X (st := []) (cM_sets E F hz) gyM_sets gv_M_sets_81 rfl (by decide) (by decide) wd_1565 rfl (Nat.le_of_ble_eq_true rfl) dM_rule0_150 ?_
            clear hz
            show bz_J _ _ 153 _ _ _
            refine j_aload_n X dM_rule0_153 rfl 0 rfl ?_
            refine j_ldcwS X (w := 10) (tx := "to") (by decide +kernel) dM_rule0_154 ?_
            obtain ⟨m39, hz, hf⟩ := q_cl hf
            refine j_cv X (st := []) (cM_word E F (by decide) hz) gyM_word gv_M_word_81 rfl (by decide) (by decide) wd_1571 rfl (Nat.le_of_ble_eq_true rfl) dM_rule0_157 ?_
            clear hz
            refine j_aload_n X dM_rule0_160 rfl 0 rfl ?_
            refine j_iload_n X dM_rule0_161 rfl 1 rfl ?_
            refine j_bipush X dM_rule0_162 rfl ?_
            refine j_aload_n X dM_rule0_164 rfl 0 rfl ?_
            obtain ⟨x41, m40, hz, hf⟩ := q_cl2 hf
            refine j_cv X (st := [bz_i 6, bz_i a1, bz_rf E 81]) (cM_party E F hz) gyM_party gv_M_party_81 rfl (by decide) (by decide) wd_1581 rfl (Nat.le_of_ble_eq_true rfl) dM_rule0_165 ?_
            clear hz
            show bz_J _ _ 168 _ _ _
            obtain ⟨m42, hz, hf⟩ := q_cl hf
            refine j_cv X (st := []) (cM_sets E F hz) gyM_sets gv_M_sets_81 rfl (by decide) (by decide) wd_1565 rfl (Nat.le_of_ble_eq_true rfl) dM_rule0_168 ?_
            clear hz
            refine j_goto X (tgt := 307) dM_rule0_171 (by decide) ?_
            cases hf
            exact j_vret X dM_rule0_307 rfl rfl
        · refine j_aload_n X dM_rule0_107 rfl 0 rfl ?_
          refine j_ldcwS X (w := 8) (tx := "beyond") (by decide +kernel) dM_rule0_108 ?_
          obtain ⟨m43, hz, hf⟩ := q_cl hf
          refine j_cv X (st := []) (cM_word E F (by decide) hz) gyM_word gv_M_word_81 rfl (by decide) (by decide) wd_1571 rfl (Nat.le_of_ble_eq_true rfl) dM_rule0_111 ?_
          clear hz
          refine j_aload_n X dM_rule0_114 rfl 0 rfl ?_
          refine j_iload_n X dM_rule0_115 rfl 1 rfl ?_
          refine j_iconst X dM_rule0_116 ?_
          refine j_aload_n X dM_rule0_117 rfl 0 rfl ?_
          show bz_J _ _ 118 _ _ _
          refine j_sipush X dM_rule0_118 rfl ?_
          obtain ⟨x45, m44, hz, hf⟩ := q_cl2 hf
          refine j_cv X (st := [bz_i 4, bz_i a1, bz_rf E 81]) (cM_number E F hz) gyM_number gv_M_number_81 rfl (by decide) (by decide) wd_1543 rfl (Nat.le_of_ble_eq_true rfl) dM_rule0_121 ?_
          clear hz
          obtain ⟨m46, hz, hf⟩ := q_cl hf
          refine j_cv X (st := []) (cM_sets E F hz) gyM_sets gv_M_sets_81 rfl (by decide) (by decide) wd_1565 rfl (Nat.le_of_ble_eq_true rfl) dM_rule0_124 ?_
          clear hz
          refine j_goto X (tgt := 307) dM_rule0_127 (by decide) ?_
          cases hf
          exact j_vret X dM_rule0_307 rfl rfl
      · refine j_aload_n X dM_rule0_82 rfl 0 rfl ?_
        refine j_iload_n X dM_rule0_83 rfl 1 rfl ?_
        refine j_iconst X dM_rule0_84 ?_
        refine j_aload_n X dM_rule0_85 rfl 0 rfl ?_
        refine j_bipush X dM_rule0_86 rfl ?_
        obtain ⟨x48, m47, hz, hf⟩ := q_cl2 hf
        refine j_cv X (st := [bz_i 3, bz_i a1, bz_rf E 81]) (cM_number E F hz) gyM_number gv_M_number_81 rfl (by decide) (by decide) wd_1543 rfl (Nat.le_of_ble_eq_true rfl) dM_rule0_88 ?_
        clear hz
        obtain ⟨m49, hz, hf⟩ := q_cl hf
        refine j_cv X (st := []) (cM_sets E F hz) gyM_sets gv_M_sets_81 rfl (by decide) (by decide) wd_1565 rfl (Nat.le_of_ble_eq_true rfl) dM_rule0_91 ?_
        clear hz
        show bz_J _ _ 94 _ _ _
        refine j_goto X (tgt := 307) dM_rule0_94 (by decide) ?_
        cases hf
        exact j_vret X dM_rule0_307 rfl rfl
    · refine j_aload_n X dM_rule0_36 rfl 0 rfl ?_
      refine j_iload_n X dM_rule0_37 rfl 1 rfl ?_
      refine j_iconst X dM_rule0_38 ?_
      refine j_aload_n X dM_rule0_39 rfl 0 rfl ?_
      refine j_sipush X dM_rule0_40 rfl ?_
      obtain ⟨x51, m50, hz, hf⟩ := q_cl2 hf
      refine j_cv X (st := [bz_i 1, bz_i a1, bz_rf E 81]) (cM_number E F hz) gyM_number gv_M_number_81 rfl (by decide) (by decide) wd_1543 rfl (Nat.le_of_ble_eq_true rfl) dM_rule0_43 ?_
      clear hz
      obtain ⟨m52, hz, hf⟩ := q_cl hf
      refine j_cv X (st := []) (cM_sets E F hz) gyM_sets gv_M_sets_81 rfl (by decide) (by decide) wd_1565 rfl (Nat.le_of_ble_eq_true rfl) dM_rule0_46 ?_
      clear hz
      show bz_J _ _ 49 _ _ _
      refine j_aload_n X dM_rule0_49 rfl 0 rfl ?_
      refine j_ldcwS X (w := 5) (tx := "over") (by decide +kernel) dM_rule0_50 ?_
      obtain ⟨m53, hz, hf⟩ := q_cl hf
      refine j_cv X (st := []) (cM_word E F (by decide) hz) gyM_word gv_M_word_81 rfl (by decide) (by decide) wd_1571 rfl (Nat.le_of_ble_eq_true rfl) dM_rule0_53 ?_
      clear hz
      refine j_aload_n X dM_rule0_56 rfl 0 rfl ?_
      refine j_iload_n X dM_rule0_57 rfl 1 rfl ?_
      refine j_iconst X dM_rule0_58 ?_
      refine j_aload_n X dM_rule0_59 rfl 0 rfl ?_
      refine j_sipush X dM_rule0_60 rfl ?_
      show bz_J _ _ 63 _ _ _
      obtain ⟨x55, m54, hz, hf⟩ := q_cl2 hf
      refine j_cv X (st := [bz_i 2, bz_i a1, bz_rf E 81]) (cM_number E F hz) gyM_number gv_M_number_81 rfl (by decide) (by decide) wd_1543 rfl (Nat.le_of_ble_eq_true rfl) dM_rule0_63 ?_
      clear hz
      obtain ⟨m56, hz, hf⟩ := q_cl hf
      refine j_cv X (st := []) (cM_sets E F hz) gyM_sets gv_M_sets_81 rfl (by decide) (by decide) wd_1565 rfl (Nat.le_of_ble_eq_true rfl) dM_rule0_66 ?_
      clear hz
      refine j_goto X (tgt := 307) dM_rule0_69 (by decide) ?_
      cases hf
      exact j_vret X dM_rule0_307 rfl rfl
  · refine j_aload_n X dM_rule0_10 rfl 0 rfl ?_
    refine j_iload_n X dM_rule0_11 rfl 1 rfl ?_
    refine j_iconst X dM_rule0_12 ?_
    refine j_aload_n X dM_rule0_13 rfl 0 rfl ?_
    refine j_sipush X dM_rule0_14 rfl ?_
    obtain ⟨x58, m57, hz, hf⟩ := q_cl2 hf
    refine j_cv X (st := [bz_i 0, bz_i a1, bz_rf E 81]) (cM_number E F hz) gyM_number gv_M_number_81 rfl (by decide) (by decide) wd_1543 rfl (Nat.le_of_ble_eq_true rfl) dM_rule0_17 ?_
    clear hz
    obtain ⟨m59, hz, hf⟩ := q_cl hf
    refine j_cv X (st := []) (cM_sets E F hz) gyM_sets gv_M_sets_81 rfl (by decide) (by decide) wd_1565 rfl (Nat.le_of_ble_eq_true rfl) dM_rule0_20 ?_
    clear hz
    show bz_J _ _ 23 _ _ _
    refine j_goto X (tgt := 307) dM_rule0_23 (by decide) ?_
    cases hf
    exact j_vret X dM_rule0_307 rfl rfl
def fM_line (F : Nat) (M : bz_Mm) : Option (bz_Mm) :=
  cl_ (fM_skips F M) fun m1 =>
  if w32 (m1 81 38) = w32 (m1 81 39) then
  (some m1)
  else
  (cl2_ (fM_takes F m1 0) fun x3 m2 =>
  cl2_ (if w32 x3 = 0 then
  (some (4, m2))
  else
  (cl2_ (fM_number F m2 3) fun x6 m5 =>
  cl_ (fM_skips F m5) fun m7 =>
  cl1_ (if w32 (m7 81 40) = (-1) then
  (if w32 (m7 81 38) = w32 (m7 81 39) then
  (cl_ (fM_fails F m7) fun m9 =>
  some (m9))
  else
  (rd_ m7 110 (m7 81 38) 600 fun x10 =>
  if w32 x10 = 58 then
  (some (m7))
  else
  (cl_ (fM_fails F m7) fun m11 =>
  some (m11))))
  else
  (some (m7))) fun m12 =>
  wf_ m12 81 38 ((m12 81 38) + 1) fun m13 =>
  cl_ (fM_skips F m13) fun m14 =>
  some (x6, m14))) fun l1 m15 =>
  if w32 (m15 81 40) = (-1) then
  (cl_ (fM_rule0 F m15 l1) fun m16 =>
  cl_ (fM_skips F m16) fun m17 =>
  if w32 (m17 81 38) < w32 (m17 81 39) then
  (cl_ (fM_fails F m17) fun m18 =>
  some m18)
  else
  (some m17))
  else
  (some m15))
set_option maxHeartbeats 4000000 in
set_option maxRecDepth 20000 in
theorem cM_line (E : bz_E) (F : Nat)  {M : bz_Mm} {x0 : bz_Mm} (hf : fM_line F M = some x0) : bz_Ct E yM_line (.code yM_line prog_14_method_40_code 2 none) 8 170 [bz_rf E 81] M (none) x0 := by
  refine bz_met (by decide +kernel) (Nat.le_of_ble_eq_true rfl) (fun K X => ?_)
  have X : bz_X K E prog_14_method_40_code 2 "UnitsWrongModel" none 8 170 _ _ := X
  unfold fM_line at hf
  show bz_J K 2 0 [(0, bz_rf E 81)] [] M
  refine j_aload_n X dM_line_0 rfl 0 rfl ?_
  obtain ⟨m1, hz, hf⟩ := q_cl hf
  refine j_cv X (st := []) (cM_skips E F hz) gyM_skips gv_M_skips_81 rfl (by decide) (by decide) wd_1522 rfl (Nat.le_of_ble_eq_true rfl) dM_line_1 ?_
  clear hz
  refine j_aload_n X dM_line_4 rfl 0 rfl ?_
  refine j_geti X gf_M_319_81 dM_line_5 ?_
  refine j_aload_n X dM_line_8 rfl 0 rfl ?_
  refine j_geti X gf_M_322_81 dM_line_9 ?_
  refine j_icmp_ne X (tgt := 16) rfl rfl dM_line_12 (by decide) hf (fun hf => ?_) (fun hf => ?_)
  · refine j_iconst X dM_line_16 ?_
    refine j_istore_n X (lv' := [(1, bz_i 4), (0, bz_rf E 81)]) dM_line_17 rfl (by decide) rfl ?_
    refine j_aload_n X dM_line_18 rfl 1 rfl ?_
    refine j_ldcS X (w := 0) (tx := "fund") (by decide +kernel) dM_line_19 ?_
    obtain ⟨x3, m2, hz, hf⟩ := q_cl2 hf
    refine j_cv X (st := []) (cM_takes E F (by decide) hz) gyM_takes gv_M_takes_81 rfl (by decide) (by decide) wd_1526 rfl (Nat.le_of_ble_eq_true rfl) dM_line_21 ?_
    clear hz
    obtain ⟨resJ4, hf0, hkJ4⟩ := q_l2 hf
    have J4 : ∀ (l1 : Int) (m15 : bz_Mm), some (l1, m15) = some resJ4 → bz_J K 2 88 [(1, bz_i l1), (0, bz_rf E 81)] [] m15 := by
      intro l1 m15 he
      have hf := hkJ4 _ _ he
      refine j_aload_n X dM_line_88 rfl 1 rfl ?_
      refine j_geti X gf_M_316_81 dM_line_89 ?_
      refine j_iconst X dM_line_92 ?_
      refine j_icmp_eq X (tgt := 97) rfl (w32_lit rfl) dM_line_93 (by decide) hf (fun hf => ?_) (fun hf => ?_)
      · refine j_aload_n X dM_line_97 rfl 1 rfl ?_
        refine j_iload_n X dM_line_98 rfl 0 rfl ?_
        obtain ⟨m16, hz, hf⟩ := q_cl hf
        refine j_cv X (st := []) (cM_rule0 E F hz) gyM_rule0 gv_M_rule0_81 rfl (by decide) (by decide) wd_1560 rfl (Nat.le_of_ble_eq_true rfl) dM_line_99 ?_
        clear hz
        refine j_aload_n X dM_line_102 rfl 1 rfl ?_
        obtain ⟨m17, hz, hf⟩ := q_cl hf
        refine j_cv X (st := []) (cM_skips E F hz) gyM_skips gv_M_skips_81 rfl (by decide) (by decide) wd_1522 rfl (Nat.le_of_ble_eq_true rfl) dM_line_103 ?_
        clear hz
        refine j_aload_n X dM_line_106 rfl 1 rfl ?_
        refine j_geti X gf_M_319_81 dM_line_107 ?_
        show bz_J _ _ 110 _ _ _
        refine j_aload_n X dM_line_110 rfl 1 rfl ?_
        refine j_geti X gf_M_322_81 dM_line_111 ?_
        refine j_icmp_ge X (tgt := 121) rfl rfl dM_line_114 (by decide) hf (fun hf => ?_) (fun hf => ?_)
        · cases hf
          exact j_vret X dM_line_121 rfl rfl
        · refine j_aload_n X dM_line_117 rfl 1 rfl ?_
          obtain ⟨m18, hz, hf⟩ := q_cl hf
          refine j_cv X (st := []) (cM_fails E F hz) gyM_fails gv_M_fails_81 rfl (by decide) (by decide) wd_1556 rfl (Nat.le_of_ble_eq_true rfl) dM_line_118 ?_
          clear hz
          cases hf
          exact j_vret X dM_line_121 rfl rfl
      · cases hf
        exact j_vret X dM_line_96 rfl rfl
    clear hf
    have hf := hf0
    clear hf0
    refine j_if_eq X (tgt := 88) rfl dM_line_24 (by decide) hf (fun hf => ?_) (fun hf => ?_)
    · exact J4 _ _ hf
    · refine j_aload_n X dM_line_27 rfl 1 rfl ?_
      refine j_iconst X dM_line_28 ?_
      obtain ⟨x6, m5, hz, hf⟩ := q_cl2 hf
      refine j_cv X (st := []) (cM_number E F hz) gyM_number gv_M_number_81 rfl (by decide) (by decide) wd_1543 rfl (Nat.le_of_ble_eq_true rfl) dM_line_29 ?_
      clear hz
      refine j_istore_n X (lv' := [(1, bz_i x6), (0, bz_rf E 81)]) dM_line_32 rfl (by decide) rfl ?_
      refine j_aload_n X dM_line_33 rfl 1 rfl ?_
      obtain ⟨m7, hz, hf⟩ := q_cl hf
      refine j_cv X (st := []) (cM_skips E F hz) gyM_skips gv_M_skips_81 rfl (by decide) (by decide) wd_1522 rfl (Nat.le_of_ble_eq_true rfl) dM_line_34 ?_
      clear hz
      refine j_aload_n X dM_line_37 rfl 1 rfl ?_
      show bz_J _ _ 38 _ _ _
      refine j_geti X gf_M_316_81 dM_line_38 ?_
      refine j_iconst X dM_line_41 ?_
      obtain ⟨resJ8, hf0, hkJ8⟩ := q_l1 hf
      have J8 : ∀ (m12 : bz_Mm), some m12 = some resJ8 → bz_J K 2 74 [(1, bz_i x6), (0, bz_rf E 81)] [] m12 := by
        intro m12 he
        have hf := hkJ8 _ he
        refine j_aload_n X dM_line_74 rfl 1 rfl ?_
        refine j_dup X dM_line_75 rfl ?_
        refine j_geti X gf_M_319_81 dM_line_76 ?_
        refine j_iconst X dM_line_79 ?_
        refine j_iadd X dM_line_80 ?_
        refine j_puti X pf_M_319_81 dM_line_81 hf (fun m13 hf => ?_)
        refine j_aload_n X dM_line_84 rfl 1 rfl ?_
        show bz_J _ _ 85 _ _ _
        obtain ⟨m14, hz, hf⟩ := q_cl hf
        refine j_cv X (st := []) (cM_skips E F hz) gyM_skips gv_M_skips_81 rfl (by decide) (by decide) wd_1522 rfl (Nat.le_of_ble_eq_true rfl) dM_line_85 ?_
        clear hz
        exact J4 _ _ hf
      clear hf
      have hf := hf0
      clear hf0
      refine j_icmp_ne X (tgt := 74) rfl (w32_lit rfl) dM_line_42 (by decide) hf (fun hf => ?_) (fun hf => ?_)
      · exact J8 _ hf
      · refine j_aload_n X dM_line_45 rfl 1 rfl ?_
        refine j_geti X gf_M_319_81 dM_line_46 ?_
        refine j_aload_n X dM_line_49 rfl 1 rfl ?_
        refine j_geti X gf_M_322_81 dM_line_50 ?_
        refine j_icmp_eq X (tgt := 70) rfl rfl dM_line_53 (by decide) hf (fun hf => ?_) (fun hf => ?_)
        · refine j_aload_n X dM_line_70 rfl 1 rfl ?_
          obtain ⟨m9, hz, hf⟩ := q_cl hf
          refine j_cv X (st := []) (cM_fails E F hz) gyM_fails gv_M_fails_81 rfl (by decide) (by decide) wd_1556 rfl (Nat.le_of_ble_eq_true rfl) dM_line_71 ?_
          clear hz
          exact J8 _ hf
        · refine j_aload_n X dM_line_56 rfl 1 rfl ?_
          refine j_geta X gf_M_96_81 dM_line_57 ?_
          refine j_aload_n X dM_line_60 rfl 1 rfl ?_
          refine j_geti X gf_M_319_81 dM_line_61 ?_
          refine j_bald X sh_110 dM_line_64 hf (fun x10 hf => ?_)
          refine j_bipush X dM_line_65 rfl ?_
          refine j_icmp_eq X (tgt := 74) rfl (w32_lit rfl) dM_line_67 (by decide) hf (fun hf => ?_) (fun hf => ?_)
          · exact J8 _ hf
          · refine j_aload_n X dM_line_70 rfl 1 rfl ?_
            obtain ⟨m11, hz, hf⟩ := q_cl hf
            refine j_cv X (st := []) (cM_fails E F hz) gyM_fails gv_M_fails_81 rfl (by decide) (by decide) wd_1556 rfl (Nat.le_of_ble_eq_true rfl) dM_line_71 ?_
            clear hz
            exact J8 _ hf
  · cases hf
    exact j_vret X dM_line_15 rfl rfl
def M_reads_L14 (F : Nat) : Nat → Int → Int → bz_Mm → Option (bz_Mm)
  | 0, _, _, _ => none
  | n + 1, l1, l2, M =>
    if w32 l2 < 12 then
    (ra_ 6 7 fun i2 =>
    ra_ l1 5 fun i3 =>
    wa_ M (119 + 5 * i2 + i3) l2 12 ((-2147483648)) fun m4 =>
    M_reads_L14 F n l1 (l2 + 1) m4)
    else
    (some M)
def M_reads_L7 (F : Nat) : Nat → Int → bz_Mm → Option (bz_Mm)
  | 0, _, _ => none
  | n + 1, l1, M =>
    if 4 < w32 l1 then
    (some M)
    else
    (cl1_ (M_reads_L14 F F l1 0 M) fun m5 =>
    M_reads_L7 F n (l1 + 1) m5)
def M_reads_L78 (F : Nat) : Nat → bz_Mm → Option (bz_Mm)
  | 0, _ => none
  | n + 1, M =>
    if w32 (M 81 39) < w32 (M 81 37) then
    (rd_ M 110 (M 81 39) 600 fun x10 =>
    if w32 x10 = 10 then
    (some M)
    else
    (wf_ M 81 39 ((M 81 39) + 1) fun m11 =>
    M_reads_L78 F n m11))
    else
    (some M)
def M_reads_L51 (F : Nat) : Nat → bz_Mm → Option (bz_Mm)
  | 0, _ => none
  | n + 1, M =>
    if w32 (M 81 38) < w32 (M 81 37) then
    (if w32 (M 81 40) = (-1) then
    (wf_ M 81 39 (M 81 38) fun m9 =>
    cl1_ (M_reads_L78 F F m9) fun m12 =>
    cl_ (fM_line F m12) fun m13 =>
    wf_ m13 81 38 ((m13 81 39) + 1) fun m14 =>
    M_reads_L51 F n m14)
    else
    (some M))
    else
    (some M)
theorem lM_reads_L14 (E : bz_E) (F : Nat) {K : bz_K} {rv : Option Value} {M1 : bz_Mm} (X : bz_X K E prog_14_method_41_code 3 "UnitsWrongModel" none 9 191 rv M1) {l1 : Int} {res : (bz_Mm)}
    (kx : ∀ (M : bz_Mm), some M = some res → bz_J K 3 40 [(1, bz_i l1), (0, bz_rf E 81)] [] M) :
    ∀ (n : Nat) (l2 : Int) (M : bz_Mm), M_reads_L14 F n l1 l2 M = some res → bz_J K 3 14 [(2, bz_i l2), (1, bz_i l1), (0, bz_rf E 81)] [] M := by
  intro n
  induction n with
  | zero => intro l2 M hf; cases hf
  | succ n ih =>
    intro l2 M hf
    rw [M_reads_L14] at hf
    refine j_iload_n X dM_reads_14 rfl 0 rfl ?_
    refine j_bipush X dM_reads_15 rfl ?_
    refine j_icmp_ge X (tgt := 40) rfl (w32_lit rfl) dM_reads_17 (by decide) hf (fun hf => ?_) (fun hf => ?_)
    · exact j_sub [1, 2] rfl (kx _ hf)
    · refine j_aload_n X dM_reads_20 rfl 2 rfl ?_
      refine j_geta X gf_M_102_81 dM_reads_21 ?_
      refine j_bipush X dM_reads_24 rfl ?_
      refine j_aald X sh_111 (by decide) (by decide) dM_reads_26 hf (fun i2 hi2 hf => ?_)
      refine j_iload_n X dM_reads_27 rfl 1 rfl ?_
      refine j_aald X (sr_111 i2 hi2) (by decide) (by decide) dM_reads_28 hf (fun i3 hi3 hf => ?_)
      refine j_iload_n X dM_reads_29 rfl 0 rfl ?_
      show bz_J _ _ 30 _ _ _
      refine j_ldcw X (v := -2147483648) wd_1448 dM_reads_30 ?_
      refine j_iast X (sq_111 i2 hi2 i3 hi3) dM_reads_33 hf (fun m4 hf => ?_)
      refine j_iinc X (y := l2 + 1) (lv' := [(2, bz_i (l2 + 1)), (1, bz_i l1), (0, bz_rf E 81)]) dM_reads_34 0 rfl rfl (by decide) rfl ?_
      refine j_goto X (tgt := 14) dM_reads_37 (by decide) ?_
      exact ih _ _ hf
theorem lM_reads_L7 (E : bz_E) (F : Nat) {K : bz_K} {rv : Option Value} {M1 : bz_Mm} (X : bz_X K E prog_14_method_41_code 3 "UnitsWrongModel" none 9 191 rv M1) {res : (bz_Mm)}
    (kx : ∀ (M : bz_Mm), some M = some res → bz_J K 3 46 [(0, bz_rf E 81)] [] M) :
    ∀ (n : Nat) (l1 : Int) (M : bz_Mm), M_reads_L7 F n l1 M = some res → bz_J K 3 7 [(1, bz_i l1), (0, bz_rf E 81)] [] M := by
  intro n
  induction n with
  | zero => intro l1 M hf; cases hf
  | succ n ih =>
    intro l1 M hf
    rw [M_reads_L7] at hf
    refine j_iload_n X dM_reads_7 rfl 0 rfl ?_
    refine j_iconst X dM_reads_8 ?_
    refine j_icmp_gt X (tgt := 46) rfl (w32_lit rfl) dM_reads_9 (by decide) hf (fun hf => ?_) (fun hf => ?_)
    · exact j_sub [1] rfl (kx _ hf)
    · refine j_iconst X dM_reads_12 ?_
      refine j_istore_n X (lv' := [(2, bz_i 0), (1, bz_i l1), (0, bz_rf E 81)]) dM_reads_13 rfl (by decide) rfl ?_
      obtain ⟨res6, hz6, hk6⟩ := q_l1 hf
      clear hf
      refine lM_reads_L14 E F X (fun m5 he => ?_) F 0 M hz6
      have hf := hk6 _ he
      refine j_iinc X (y := l1 + 1) (lv' := [(1, bz_i (l1 + 1)), (0, bz_rf E 81)]) dM_reads_40 0 rfl rfl (by decide) rfl ?_
      refine j_goto X (tgt := 7) dM_reads_43 (by decide) ?_
      exact ih _ _ hf
theorem lM_reads_L78 (E : bz_E) (F : Nat) {K : bz_K} {rv : Option Value} {M1 : bz_Mm} (X : bz_X K E prog_14_method_41_code 3 "UnitsWrongModel" none 9 191 rv M1) {res : (bz_Mm)}
    (kx : ∀ (M : bz_Mm), some M = some res → bz_J K 3 116 [(0, bz_rf E 81)] [] M) :
    ∀ (n : Nat) (M : bz_Mm), M_reads_L78 F n M = some res → bz_J K 3 78 [(0, bz_rf E 81)] [] M := by
  intro n
  induction n with
  | zero => intro M hf; cases hf
  | succ n ih =>
    intro M hf
    rw [M_reads_L78] at hf
    refine j_aload_n X dM_reads_78 rfl 0 rfl ?_
    refine j_geti X gf_M_322_81 dM_reads_79 ?_
    refine j_aload_n X dM_reads_82 rfl 0 rfl ?_
    refine j_geti X gf_M_309_81 dM_reads_83 ?_
    refine j_icmp_ge X (tgt := 116) rfl rfl dM_reads_86 (by decide) hf (fun hf => ?_) (fun hf => ?_)
    · exact kx _ hf
    · refine j_aload_n X dM_reads_89 rfl 0 rfl ?_
      refine j_geta X gf_M_96_81 dM_reads_90 ?_
      refine j_aload_n X dM_reads_93 rfl 0 rfl ?_
      refine j_geti X gf_M_322_81 dM_reads_94 ?_
      refine j_bald X sh_110 dM_reads_97 hf (fun x10 hf => ?_)
      refine j_bipush X dM_reads_98 rfl ?_
      refine j_icmp_eq X (tgt := 116) rfl (w32_lit rfl) dM_reads_100 (by decide) hf (fun hf => ?_) (fun hf => ?_)
      · exact kx _ hf
      · refine j_aload_n X dM_reads_103 rfl 0 rfl ?_
        refine j_dup X dM_reads_104 rfl ?_
        refine j_geti X gf_M_322_81 dM_reads_105 ?_
        refine j_iconst X dM_reads_108 ?_
        refine j_iadd X dM_reads_109 ?_
        refine j_puti X pf_M_322_81 dM_reads_110 hf (fun m11 hf => ?_)
        refine j_goto X (tgt := 78) dM_reads_113 (by decide) ?_
        exact ih _ hf
theorem lM_reads_L51 (E : bz_E) (F : Nat) {K : bz_K} {rv : Option Value} {M1 : bz_Mm} (X : bz_X K E prog_14_method_41_code 3 "UnitsWrongModel" none 9 191 rv M1) {res : (bz_Mm)}
    (kx : ∀ (M : bz_Mm), some M = some res → bz_J K 3 133 [] [] M) :
    ∀ (n : Nat) (M : bz_Mm), M_reads_L51 F n M = some res → bz_J K 3 51 [(0, bz_rf E 81)] [] M := by
  intro n
  induction n with
  | zero => intro M hf; cases hf
  | succ n ih =>
    intro M hf
    rw [M_reads_L51] at hf
    refine j_aload_n X dM_reads_51 rfl 0 rfl ?_
    refine j_geti X gf_M_319_81 dM_reads_52 ?_
    refine j_aload_n X dM_reads_55 rfl 0 rfl ?_
    refine j_geti X gf_M_309_81 dM_reads_56 ?_
    refine j_icmp_ge X (tgt := 133) rfl rfl dM_reads_59 (by decide) hf (fun hf => ?_) (fun hf => ?_)
    · exact j_sub [] rfl (kx _ hf)
    · refine j_aload_n X dM_reads_62 rfl 0 rfl ?_
      refine j_geti X gf_M_316_81 dM_reads_63 ?_
      refine j_iconst X dM_reads_66 ?_
      refine j_icmp_ne X (tgt := 133) rfl (w32_lit rfl) dM_reads_67 (by decide) hf (fun hf => ?_) (fun hf => ?_)
      · exact j_sub [] rfl (kx _ hf)
      · refine j_aload_n X dM_reads_70 rfl 0 rfl ?_
        refine j_aload_n X dM_reads_71 rfl 0 rfl ?_
        refine j_geti X gf_M_319_81 dM_reads_72 ?_
        refine j_puti X pf_M_322_81 dM_reads_75 hf (fun m9 hf => ?_)
        obtain ⟨res15, hz15, hk15⟩ := q_l1 hf
        clear hf
        refine lM_reads_L78 E F X (fun m12 he => ?_) F m9 hz15
        have hf := hk15 _ he
        refine j_aload_n X dM_reads_116 rfl 0 rfl ?_
        obtain ⟨m13, hz, hf⟩ := q_cl hf
        refine j_cv X (st := []) (cM_line E F hz) gyM_line gv_M_line_81 rfl (by decide) (by decide) wd_1518 rfl (Nat.le_of_ble_eq_true rfl) dM_reads_117 ?_
        clear hz
        refine j_aload_n X dM_reads_120 rfl 0 rfl ?_
        refine j_aload_n X dM_reads_121 rfl 0 rfl ?_
        refine j_geti X gf_M_322_81 dM_reads_122 ?_
        refine j_iconst X dM_reads_125 ?_
        refine j_iadd X dM_reads_126 ?_
        show bz_J _ _ 127 _ _ _
        refine j_puti X pf_M_319_81 dM_reads_127 hf (fun m14 hf => ?_)
        refine j_goto X (tgt := 51) dM_reads_130 (by decide) ?_
        exact ih _ hf
def fM_reads (F : Nat) (M : bz_Mm) : Option (bz_Mm) :=
  wf_ M 81 40 ((-1)) fun m1 =>
  cl1_ (M_reads_L7 F F 0 m1) fun m7 =>
  wf_ m7 81 38 0 fun m8 =>
  cl1_ (M_reads_L51 F F m8) fun m16 =>
  some m16
set_option maxHeartbeats 4000000 in
set_option maxRecDepth 20000 in
theorem cM_reads (E : bz_E) (F : Nat)  {M : bz_Mm} {x0 : bz_Mm} (hf : fM_reads F M = some x0) : bz_Ct E yM_reads (.code yM_reads prog_14_method_41_code 3 none) 9 191 [bz_rf E 81] M (none) x0 := by
  refine bz_met (by decide +kernel) (Nat.le_of_ble_eq_true rfl) (fun K X => ?_)
  have X : bz_X K E prog_14_method_41_code 3 "UnitsWrongModel" none 9 191 _ _ := X
  unfold fM_reads at hf
  show bz_J K 3 0 [(0, bz_rf E 81)] [] M
  refine j_aload_n X dM_reads_0 rfl 0 rfl ?_
  refine j_iconst X dM_reads_1 ?_
  refine j_puti X pf_M_316_81 dM_reads_2 hf (fun m1 hf => ?_)
  refine j_iconst X dM_reads_5 ?_
  refine j_istore_n X (lv' := [(1, bz_i 0), (0, bz_rf E 81)]) dM_reads_6 rfl (by decide) rfl ?_
  obtain ⟨res18, hz18, hk18⟩ := q_l1 hf
  clear hf
  refine lM_reads_L7 E F X (fun m7 he => ?_) F 0 m1 hz18
  have hf := hk18 _ he
  refine j_aload_n X dM_reads_46 rfl 0 rfl ?_
  refine j_iconst X dM_reads_47 ?_
  refine j_puti X pf_M_319_81 dM_reads_48 hf (fun m8 hf => ?_)
  obtain ⟨res17, hz17, hk17⟩ := q_l1 hf
  clear hf
  refine lM_reads_L51 E F X (fun m16 he => ?_) F m8 hz17
  have hf := hk17 _ he
  cases hf
  exact j_vret X dM_reads_133 rfl rfl
def fM_fault (F : Nat) (M : bz_Mm) : Option (Int × bz_Mm) :=
  cl_ (fM_reads F M) fun m1 =>
  some ((m1 81 40, m1))
set_option maxHeartbeats 4000000 in
set_option maxRecDepth 20000 in
theorem cM_fault (E : bz_E) (F : Nat)  {M : bz_Mm} {x0 : Int × bz_Mm} (hf : fM_fault F M = some x0) : bz_Ct E yM_fault (.code yM_fault prog_14_method_42_code 1 (some .int)) 10 213 [bz_rf E 81] M (some (bz_i x0.1)) x0.2 := by
  refine bz_met (by decide +kernel) (Nat.le_of_ble_eq_true rfl) (fun K X => ?_)
  have X : bz_X K E prog_14_method_42_code 1 "UnitsWrongModel" (some .int) 10 213 _ _ := X
  unfold fM_fault at hf
  show bz_J K 1 0 [(0, bz_rf E 81)] [] M
  refine j_aload_n X dM_fault_0 rfl 0 rfl ?_
  obtain ⟨m1, hz, hf⟩ := q_cl hf
  refine j_cv X (st := []) (cM_reads E F hz) gyM_reads gv_M_reads_81 rfl (by decide) (by decide) wd_1514 rfl (Nat.le_of_ble_eq_true rfl) dM_fault_1 ?_
  clear hz
  refine j_aload_n X dM_fault_4 rfl 0 rfl ?_
  refine j_geti X gf_M_316_81 dM_fault_5 ?_
  cases hf
  exact j_iret X dM_fault_8 rfl rfl
def M_take_L49 (F : Nat) : Nat → Int → Int → bz_Mm → Option (bz_Mm)
  | 0, _, _, _ => none
  | n + 1, l1, l2, M =>
    if w32 l2 < 12 then
    (ra_ (M 81 43) 7 fun i3 =>
    ra_ l1 5 fun i4 =>
    ra_ 6 7 fun i5 =>
    ra_ l1 5 fun i6 =>
    rd_ M (119 + 5 * i5 + i6) l2 12 fun x7 =>
    wa_ M (119 + 5 * i3 + i4) l2 12 x7 fun m8 =>
    M_take_L49 F n l1 (l2 + 1) m8)
    else
    (some M)
def M_take_L42 (F : Nat) : Nat → Int → bz_Mm → Option (bz_Mm)
  | 0, _, _ => none
  | n + 1, l1, M =>
    if 4 < w32 l1 then
    (some M)
    else
    (cl1_ (M_take_L49 F F l1 0 M) fun m9 =>
    M_take_L42 F n (l1 + 1) m9)
theorem lM_take_L49 (E : bz_E) (F : Nat) {K : bz_K} {rv : Option Value} {M1 : bz_Mm} (X : bz_X K E prog_14_method_43_code 3 "UnitsWrongModel" (some .int) 10 213 rv M1) {l1 : Int} {res : (bz_Mm)}
    (kx : ∀ (M : bz_Mm), some M = some res → bz_J K 3 85 [(1, bz_i l1), (0, bz_rf E 81)] [] M) :
    ∀ (n : Nat) (l2 : Int) (M : bz_Mm), M_take_L49 F n l1 l2 M = some res → bz_J K 3 49 [(2, bz_i l2), (1, bz_i l1), (0, bz_rf E 81)] [] M := by
  intro n
  induction n with
  | zero => intro l2 M hf; cases hf
  | succ n ih =>
    intro l2 M hf
    rw [M_take_L49] at hf
    refine j_iload_n X dM_take_49 rfl 0 rfl ?_
    refine j_bipush X dM_take_50 rfl ?_
    refine j_icmp_ge X (tgt := 85) rfl (w32_lit rfl) dM_take_52 (by decide) hf (fun hf => ?_) (fun hf => ?_)
    · exact j_sub [1, 2] rfl (kx _ hf)
    · refine j_aload_n X dM_take_55 rfl 2 rfl ?_
      refine j_geta X gf_M_102_81 dM_take_56 ?_
      refine j_aload_n X dM_take_59 rfl 2 rfl ?_
      refine j_geti X gf_M_413_81 dM_take_60 ?_
      refine j_aald X sh_111 (by decide) (by decide) dM_take_63 hf (fun i3 hi3 hf => ?_)
      refine j_iload_n X dM_take_64 rfl 1 rfl ?_
      refine j_aald X (sr_111 i3 hi3) (by decide) (by decide) dM_take_65 hf (fun i4 hi4 hf => ?_)
      show bz_J _ _ 66 _ _ _
      refine j_iload_n X dM_take_66 rfl 0 rfl ?_
      refine j_aload_n X dM_take_67 rfl 2 rfl ?_
      refine j_geta X gf_M_102_81 dM_take_68 ?_
      refine j_bipush X dM_take_71 rfl ?_
      refine j_aald X sh_111 (by decide) (by decide) dM_take_73 hf (fun i5 hi5 hf => ?_)
      refine j_iload_n X dM_take_74 rfl 1 rfl ?_
      refine j_aald X (sr_111 i5 hi5) (by decide) (by decide) dM_take_75 hf (fun i6 hi6 hf => ?_)
      refine j_iload_n X dM_take_76 rfl 0 rfl ?_
      show bz_J _ _ 77 _ _ _
      refine j_iald X (sq_111 i5 hi5 i6 hi6) dM_take_77 hf (fun x7 hf => ?_)
      refine j_iast X (sq_111 i3 hi3 i4 hi4) dM_take_78 hf (fun m8 hf => ?_)
      refine j_iinc X (y := l2 + 1) (lv' := [(2, bz_i (l2 + 1)), (1, bz_i l1), (0, bz_rf E 81)]) dM_take_79 0 rfl rfl (by decide) rfl ?_
      refine j_goto X (tgt := 49) dM_take_82 (by decide) ?_
      exact ih _ _ hf
theorem lM_take_L42 (E : bz_E) (F : Nat) {K : bz_K} {rv : Option Value} {M1 : bz_Mm} (X : bz_X K E prog_14_method_43_code 3 "UnitsWrongModel" (some .int) 10 213 rv M1) {res : (bz_Mm)}
    (kx : ∀ (M : bz_Mm), some M = some res → bz_J K 3 91 [(0, bz_rf E 81)] [] M) :
    ∀ (n : Nat) (l1 : Int) (M : bz_Mm), M_take_L42 F n l1 M = some res → bz_J K 3 42 [(1, bz_i l1), (0, bz_rf E 81)] [] M := by
  intro n
  induction n with
  | zero => intro l1 M hf; cases hf
  | succ n ih =>
    intro l1 M hf
    rw [M_take_L42] at hf
    refine j_iload_n X dM_take_42 rfl 0 rfl ?_
    refine j_iconst X dM_take_43 ?_
    refine j_icmp_gt X (tgt := 91) rfl (w32_lit rfl) dM_take_44 (by decide) hf (fun hf => ?_) (fun hf => ?_)
    · exact j_sub [1] rfl (kx _ hf)
    · refine j_iconst X dM_take_47 ?_
      refine j_istore_n X (lv' := [(2, bz_i 0), (1, bz_i l1), (0, bz_rf E 81)]) dM_take_48 rfl (by decide) rfl ?_
      obtain ⟨res10, hz10, hk10⟩ := q_l1 hf
      clear hf
      refine lM_take_L49 E F X (fun m9 he => ?_) F 0 M hz10
      have hf := hk10 _ he
      refine j_iinc X (y := l1 + 1) (lv' := [(1, bz_i (l1 + 1)), (0, bz_rf E 81)]) dM_take_85 0 rfl rfl (by decide) rfl ?_
      refine j_goto X (tgt := 42) dM_take_88 (by decide) ?_
      exact ih _ _ hf
def fM_take (F : Nat) (M : bz_Mm) : Option (Int × bz_Mm) :=
  if w32 (M 81 43) = 6 then
  (some (((-1), M)))
  else
  (if w32 (M 81 0) = 260 then
  (some (((-1), M)))
  else
  (cl_ (fM_reads F M) fun m1 =>
  if w32 (m1 81 40) = (-1) then
  (wf_ m1 81 37 0 fun m2 =>
  cl1_ (M_take_L42 F F 0 m2) fun m11 =>
  wa_ m11 154 (m11 81 43) 6 (m11 81 0) fun m12 =>
  wf_ m12 81 43 ((m12 81 43) + 1) fun m13 =>
  some (((m13 81 43) - 1, m13)))
  else
  (some (((-1), m1)))))
set_option maxHeartbeats 4000000 in
set_option maxRecDepth 20000 in
theorem cM_take (E : bz_E) (F : Nat)  {M : bz_Mm} {x0 : Int × bz_Mm} (hf : fM_take F M = some x0) : bz_Ct E yM_take (.code yM_take prog_14_method_43_code 3 (some .int)) 10 213 [bz_rf E 81] M (some (bz_i x0.1)) x0.2 := by
  refine bz_met (by decide +kernel) (Nat.le_of_ble_eq_true rfl) (fun K X => ?_)
  have X : bz_X K E prog_14_method_43_code 3 "UnitsWrongModel" (some .int) 10 213 _ _ := X
  unfold fM_take at hf
  show bz_J K 3 0 [(0, bz_rf E 81)] [] M
  refine j_aload_n X dM_take_0 rfl 0 rfl ?_
  refine j_geti X gf_M_413_81 dM_take_1 ?_
  refine j_bipush X dM_take_4 rfl ?_
  refine j_icmp_eq X (tgt := 19) rfl (w32_lit rfl) dM_take_6 (by decide) hf (fun hf => ?_) (fun hf => ?_)
  · refine j_iconst X dM_take_19 ?_
    cases hf
    exact j_iret X dM_take_20 rfl rfl
  · refine j_aload_n X dM_take_9 rfl 0 rfl ?_
    refine j_geti X gf_M_216_81 dM_take_10 ?_
    refine j_sipush X dM_take_13 rfl ?_
    refine j_icmp_ne X (tgt := 21) rfl (w32_lit rfl) dM_take_16 (by decide) hf (fun hf => ?_) (fun hf => ?_)
    · refine j_aload_n X dM_take_21 rfl 0 rfl ?_
      obtain ⟨m1, hz, hf⟩ := q_cl hf
      refine j_cv X (st := []) (cM_reads E F hz) gyM_reads gv_M_reads_81 rfl (by decide) (by decide) wd_1514 rfl (Nat.le_of_ble_eq_true rfl) dM_take_22 ?_
      clear hz
      refine j_aload_n X dM_take_25 rfl 0 rfl ?_
      refine j_geti X gf_M_316_81 dM_take_26 ?_
      refine j_iconst X dM_take_29 ?_
      refine j_icmp_eq X (tgt := 35) rfl (w32_lit rfl) dM_take_30 (by decide) hf (fun hf => ?_) (fun hf => ?_)
      · refine j_aload_n X dM_take_35 rfl 0 rfl ?_
        refine j_iconst X dM_take_36 ?_
        refine j_puti X pf_M_309_81 dM_take_37 hf (fun m2 hf => ?_)
        refine j_iconst X dM_take_40 ?_
        refine j_istore_n X (lv' := [(1, bz_i 0), (0, bz_rf E 81)]) dM_take_41 rfl (by decide) rfl ?_
        obtain ⟨res14, hz14, hk14⟩ := q_l1 hf
        clear hf
        refine lM_take_L42 E F X (fun m11 he => ?_) F 0 m2 hz14
        have hf := hk14 _ he
        refine j_aload_n X dM_take_91 rfl 0 rfl ?_
        refine j_geta X gf_M_105_81 dM_take_92 ?_
        refine j_aload_n X dM_take_95 rfl 0 rfl ?_
        refine j_geti X gf_M_413_81 dM_take_96 ?_
        refine j_aload_n X dM_take_99 rfl 0 rfl ?_
        refine j_geti X gf_M_216_81 dM_take_100 ?_
        refine j_iast X sh_154 dM_take_103 hf (fun m12 hf => ?_)
        show bz_J _ _ 104 _ _ _
        refine j_aload_n X dM_take_104 rfl 0 rfl ?_
        refine j_dup X dM_take_105 rfl ?_
        refine j_geti X gf_M_413_81 dM_take_106 ?_
        refine j_iconst X dM_take_109 ?_
        refine j_iadd X dM_take_110 ?_
        refine j_puti X pf_M_413_81 dM_take_111 hf (fun m13 hf => ?_)
        refine j_aload_n X dM_take_114 rfl 0 rfl ?_
        refine j_geti X gf_M_413_81 dM_take_115 ?_
        show bz_J _ _ 118 _ _ _
        refine j_iconst X dM_take_118 ?_
        refine j_isub X dM_take_119 ?_
        cases hf
        exact j_iret X dM_take_120 rfl rfl
      · refine j_iconst X dM_take_33 ?_
        cases hf
        exact j_iret X dM_take_34 rfl rfl
    · refine j_iconst X dM_take_19 ?_
      cases hf
      exact j_iret X dM_take_20 rfl rfl
def fM_rule1 (F : Nat) (M : bz_Mm) (a1 : Int) (a2 : Int) (a3 : Int) : Option (Int) :=
  if w32 (fM_isFund M a1) = 0 then
  (some ((-2147483648)))
  else
  (if w32 (fM_in (w32 a2) 0 259) = 0 then
  (some ((-2147483648)))
  else
  (if w32 (fM_in (w32 a3) 0 11) = 0 then
  (some ((-2147483648)))
  else
  (cl_ (fM_ruleOf F M a1 a2 a3) fun x1 =>
  some x1)))
set_option maxHeartbeats 4000000 in
set_option maxRecDepth 20000 in
theorem cM_rule1 (E : bz_E) (F : Nat)  {M : bz_Mm} {a1 : Int} {a2 : Int} {a3 : Int} {x0 : Int} (hf : fM_rule1 F M a1 a2 a3 = some x0) : bz_Ct E yM_rule1 (.code yM_rule1 prog_14_method_45_code 4 (some .int)) 2 46 [bz_rf E 81, bz_i a1, bz_i a2, bz_i a3] M (some (bz_i x0)) M := by
  refine bz_met (by decide +kernel) (Nat.le_of_ble_eq_true rfl) (fun K X => ?_)
  have X : bz_X K E prog_14_method_45_code 4 "UnitsWrongModel" (some .int) 2 46 _ _ := X
  unfold fM_rule1 at hf
  show bz_J K 4 0 [(0, bz_rf E 81), (1, bz_i a1), (2, bz_i a2), (3, bz_i a3)] [] M
  refine j_aload_n X dM_rule1_0 rfl 0 rfl ?_
  refine j_iload_n X dM_rule1_1 rfl 1 rfl ?_
  refine j_cv X (st := []) (cM_isFund E) gyM_isFund gv_M_isFund_81 rfl (by decide) (by decide) wd_1479 rfl (Nat.le_of_ble_eq_true rfl) dM_rule1_2 ?_
  refine j_if_eq X (tgt := 42) rfl dM_rule1_5 (by decide) hf (fun hf => ?_) (fun hf => ?_)
  · refine j_ldcw X (v := -2147483648) wd_1448 dM_rule1_42 ?_
    cases hf
    exact j_iret X dM_rule1_45 rfl rfl
  · refine j_iload_n X dM_rule1_8 rfl 2 rfl ?_
    refine j_i2l X rfl dM_rule1_9 ?_
    refine j_lconst X (v := 0) dM_rule1_10 rfl ?_
    refine j_ldc2 X (v := 259) wd_1407 dM_rule1_11 ?_
    refine j_cs X (st := []) (cM_in E) gyM_in wd_1409 rfl (by decide) (by decide) wd_1408 rfl (Nat.le_of_ble_eq_true rfl) dM_rule1_14 ?_
    refine j_if_eq X (tgt := 42) rfl dM_rule1_17 (by decide) hf (fun hf => ?_) (fun hf => ?_)
    · refine j_ldcw X (v := -2147483648) wd_1448 dM_rule1_42 ?_
      cases hf
      exact j_iret X dM_rule1_45 rfl rfl
    · refine j_iload_n X dM_rule1_20 rfl 3 rfl ?_
      refine j_i2l X rfl dM_rule1_21 ?_
      refine j_lconst X (v := 0) dM_rule1_22 rfl ?_
      refine j_ldc2 X (v := 11) wd_1604 dM_rule1_23 ?_
      refine j_cs X (st := []) (cM_in E) gyM_in wd_1409 rfl (by decide) (by decide) wd_1408 rfl (Nat.le_of_ble_eq_true rfl) dM_rule1_26 ?_
      refine j_if_eq X (tgt := 42) rfl dM_rule1_29 (by decide) hf (fun hf => ?_) (fun hf => ?_)
      · refine j_ldcw X (v := -2147483648) wd_1448 dM_rule1_42 ?_
        cases hf
        exact j_iret X dM_rule1_45 rfl rfl
      · refine j_aload_n X dM_rule1_32 rfl 0 rfl ?_
        refine j_iload_n X dM_rule1_33 rfl 1 rfl ?_
        refine j_iload_n X dM_rule1_34 rfl 2 rfl ?_
        refine j_iload_n X dM_rule1_35 rfl 3 rfl ?_
        obtain ⟨x1, hzx1, hf⟩ := q_cl hf
        refine j_cv X (st := []) (cM_ruleOf E F hzx1) gyM_ruleOf gv_M_ruleOf_81 rfl (by decide) (by decide) wd_1494 rfl (Nat.le_of_ble_eq_true rfl) dM_rule1_36 ?_
        refine j_goto X (tgt := 45) dM_rule1_39 (by decide) ?_
        cases hf
        exact j_iret X dM_rule1_45 rfl rfl
def M_carries_L6 (F : Nat) : Nat → Nat → Int → Int → Int → bz_Mm → Option (bz_Mm)
  | 0, _, _, _, _, _ => none
  | n + 1, r3, l1, l2, l5, M =>
    if w32 l5 < 260 then
    (cl1_ (if w32 l5 = 0 then
    (some (fM_plain l1))
    else
    (rd_ M r3 (l5 - 1) 260 fun x3 =>
    some (x3))) fun v2 =>
    wa_ M r3 l5 260 v2 fun m4 =>
    if 1 < w32 l1 then
    (wa_ m4 r3 l5 260 (fM_plain l1) fun m5 =>
    M_carries_L6 F n r3 l1 l2 (l5 + 1) m5)
    else
    (M_carries_L6 F n r3 l1 l2 (l5 + 1) m4))
    else
    (some M)
def M_carries_L58 (F : Nat) : Nat → Nat → Int → Int → Int → bz_Mm → Option (bz_Mm)
  | 0, _, _, _, _, _ => none
  | n + 1, r3, l1, l2, l5, M =>
    if w32 l5 < 260 then
    (wa_ M 221 l5 260 0 fun m7 =>
    M_carries_L58 F n r3 l1 l2 (l5 + 1) m7)
    else
    (some M)
def M_carries_L83 (F : Nat) : Nat → Nat → Int → Int → Int → bz_Mm → Option (bz_Mm)
  | 0, _, _, _, _, _ => none
  | n + 1, r3, l1, l2, l5, M =>
    if w32 l5 < w32 (M 81 12) then
    (rd_ M 83 l5 407 fun x9 =>
    if w32 x9 = w32 l1 then
    (rd_ M 84 l5 407 fun x10 =>
    if w32 x10 = w32 l2 then
    (rd_ M 87 l5 407 fun x11 =>
    if w32 (M 81 61) < w32 x11 then
    (M_carries_L83 F n r3 l1 l2 (l5 + 1) M)
    else
    (rd_ M 85 l5 407 fun x12 =>
    rd_ M 86 l5 407 fun x13 =>
    wa_ M r3 x12 260 x13 fun m14 =>
    rd_ m14 85 l5 407 fun x15 =>
    wa_ m14 221 x15 260 1 fun m16 =>
    M_carries_L83 F n r3 l1 l2 (l5 + 1) m16))
    else
    (M_carries_L83 F n r3 l1 l2 (l5 + 1) M))
    else
    (M_carries_L83 F n r3 l1 l2 (l5 + 1) M))
    else
    (some M)
def M_carries_L169 (F : Nat) : Nat → Nat → Int → Int → bz_Mm → Option (bz_Mm)
  | 0, _, _, _, _ => none
  | n + 1, r3, l1, l5, M =>
    if w32 l5 < 260 then
    (if w32 l1 < 2 then
    (rd_ M 221 l5 260 fun x18 =>
    if w32 x18 = 0 then
    (rd_ M r3 (l5 - 1) 260 fun x19 =>
    wa_ M r3 l5 260 x19 fun m20 =>
    M_carries_L169 F n r3 l1 (l5 + 1) m20)
    else
    (M_carries_L169 F n r3 l1 (l5 + 1) M))
    else
    (some M))
    else
    (some M)
theorem lM_carries_L6 (E : bz_E) (F : Nat) {K : bz_K} {rv : Option Value} {M1 : bz_Mm} (X : bz_X K E prog_14_method_46_code 6 "UnitsWrongModel" none 1 20 rv M1) {r3 : Nat} {l1 : Int} {l2 : Int} (hr3 : bz_shl[r3]? = some (.inl (0, 260, 0))) {res : (bz_Mm)}
    (kx : ∀ (M : bz_Mm), some M = some res → bz_J K 6 55 [(0, bz_rf E 81), (1, bz_i l1), (2, bz_i l2), (3, bz_rf E r3)] [] M) :
    ∀ (n : Nat) (l5 : Int) (M : bz_Mm), M_carries_L6 F n r3 l1 l2 l5 M = some res → bz_J K 6 6 [(5, bz_i l5), (0, bz_rf E 81), (1, bz_i l1), (2, bz_i l2), (3, bz_rf E r3)] [] M := by
  intro n
  induction n with
  | zero => intro l5 M hf; cases hf
  | succ n ih =>
    intro l5 M hf
    rw [M_carries_L6] at hf
    refine j_iload X dM_carries_6 0 rfl ?_
    refine j_sipush X dM_carries_8 rfl ?_
    refine j_icmp_ge X (tgt := 55) rfl (w32_lit rfl) dM_carries_11 (by decide) hf (fun hf => ?_) (fun hf => ?_)
    · exact j_sub [1, 2, 3, 4] rfl (kx _ hf)
    · refine j_aload_n X dM_carries_14 rfl 4 rfl ?_
      refine j_iload X dM_carries_15 0 rfl ?_
      refine j_iload X dM_carries_17 0 rfl ?_
      obtain ⟨resJ1, hf0, hkJ1⟩ := q_l1 hf
      have J1 : ∀ (v2 : Int), some v2 = some resJ1 → bz_J K 6 35 [(5, bz_i l5), (0, bz_rf E 81), (1, bz_i l1), (2, bz_i l2), (3, bz_rf E r3)] [bz_i v2, bz_i l5, bz_rf E r3] M := by
        intro v2 he
        have hf := hkJ1 _ he
        refine j_iast X hr3 dM_carries_35 hf (fun m4 hf => ?_)
        refine j_iload_n X dM_carries_36 rfl 2 rfl ?_
        refine j_iconst X dM_carries_37 ?_
        refine j_icmp_le X (tgt := 49) rfl (w32_lit rfl) dM_carries_38 (by decide) hf (fun hf => ?_) (fun hf => ?_)
        · refine j_iinc X (y := l5 + 1) (lv' := [(5, bz_i (l5 + 1)), (0, bz_rf E 81), (1, bz_i l1), (2, bz_i l2), (3, bz_rf E r3)]) dM_carries_49 0 rfl rfl (by decide) rfl ?_
          refine j_goto X (tgt := 6) dM_carries_52 (by decide) ?_
          exact ih _ _ hf
        · refine j_aload_n X dM_carries_41 rfl 4 rfl ?_
          refine j_iload X dM_carries_42 0 rfl ?_
          refine j_iload_n X dM_carries_44 rfl 2 rfl ?_
          refine j_cs X (st := [bz_i l5, bz_rf E r3]) (cM_plain E) gyM_plain wd_1454 rfl (by decide) (by decide) wd_1453 rfl (Nat.le_of_ble_eq_true rfl) dM_carries_45 ?_
          refine j_iast X hr3 dM_carries_48 hf (fun m5 hf => ?_)
          refine j_iinc X (y := l5 + 1) (lv' := [(5, bz_i (l5 + 1)), (0, bz_rf E 81), (1, bz_i l1), (2, bz_i l2), (3, bz_rf E r3)]) dM_carries_49 0 rfl rfl (by decide) rfl ?_
          refine j_goto X (tgt := 6) dM_carries_52 (by decide) ?_
          exact ih _ _ hf
      clear hf
      have hf := hf0
      clear hf0
      refine j_if_ne X (tgt := 29) rfl dM_carries_19 (by decide) hf (fun hf => ?_) (fun hf => ?_)
      · refine j_aload_n X dM_carries_29 rfl 4 rfl ?_
        refine j_iload X dM_carries_30 0 rfl ?_
        refine j_iconst X dM_carries_32 ?_
        refine j_isub X dM_carries_33 ?_
        refine j_iald X hr3 dM_carries_34 hf (fun x3 hf => ?_)
        exact J1 _ hf
      · refine j_iload_n X dM_carries_22 rfl 2 rfl ?_
        refine j_cs X (st := [bz_i l5, bz_rf E r3]) (cM_plain E) gyM_plain wd_1454 rfl (by decide) (by decide) wd_1453 rfl (Nat.le_of_ble_eq_true rfl) dM_carries_23 ?_
        refine j_goto X (tgt := 35) dM_carries_26 (by decide) ?_
        exact J1 _ hf
theorem lM_carries_L58 (E : bz_E) (F : Nat) {K : bz_K} {rv : Option Value} {M1 : bz_Mm} (X : bz_X K E prog_14_method_46_code 6 "UnitsWrongModel" none 1 20 rv M1) {r3 : Nat} {l1 : Int} {l2 : Int} (hr3 : bz_shl[r3]? = some (.inl (0, 260, 0))) {res : (bz_Mm)}
    (kx : ∀ (M : bz_Mm), some M = some res → bz_J K 6 80 [(0, bz_rf E 81), (1, bz_i l1), (2, bz_i l2), (3, bz_rf E r3)] [] M) :
    ∀ (n : Nat) (l5 : Int) (M : bz_Mm), M_carries_L58 F n r3 l1 l2 l5 M = some res → bz_J K 6 58 [(5, bz_i l5), (0, bz_rf E 81), (1, bz_i l1), (2, bz_i l2), (3, bz_rf E r3)] [] M := by
  intro n
  induction n with
  | zero => intro l5 M hf; cases hf
  | succ n ih =>
    intro l5 M hf
    rw [M_carries_L58] at hf
    refine j_iload X dM_carries_58 0 rfl ?_
    refine j_sipush X dM_carries_60 rfl ?_
    refine j_icmp_ge X (tgt := 80) rfl (w32_lit rfl) dM_carries_63 (by decide) hf (fun hf => ?_) (fun hf => ?_)
    · exact j_sub [1, 2, 3, 4] rfl (kx _ hf)
    · refine j_aload_n X dM_carries_66 rfl 1 rfl ?_
      refine j_geta X gf_M_166_81 dM_carries_67 ?_
      refine j_iload X dM_carries_70 0 rfl ?_
      refine j_iconst X dM_carries_72 ?_
      refine j_zast X sh_221 (by decide +kernel) dM_carries_73 hf (fun m7 hf => ?_)
      refine j_iinc X (y := l5 + 1) (lv' := [(5, bz_i (l5 + 1)), (0, bz_rf E 81), (1, bz_i l1), (2, bz_i l2), (3, bz_rf E r3)]) dM_carries_74 0 rfl rfl (by decide) rfl ?_
      refine j_goto X (tgt := 58) dM_carries_77 (by decide) ?_
      exact ih _ _ hf
theorem lM_carries_L83 (E : bz_E) (F : Nat) {K : bz_K} {rv : Option Value} {M1 : bz_Mm} (X : bz_X K E prog_14_method_46_code 6 "UnitsWrongModel" none 1 20 rv M1) {r3 : Nat} {l1 : Int} {l2 : Int} (hr3 : bz_shl[r3]? = some (.inl (0, 260, 0))) {res : (bz_Mm)}
    (kx : ∀ (M : bz_Mm), some M = some res → bz_J K 6 166 [(0, bz_rf E 81), (1, bz_i l1), (3, bz_rf E r3)] [] M) :
    ∀ (n : Nat) (l5 : Int) (M : bz_Mm), M_carries_L83 F n r3 l1 l2 l5 M = some res → bz_J K 6 83 [(5, bz_i l5), (0, bz_rf E 81), (1, bz_i l1), (2, bz_i l2), (3, bz_rf E r3)] [] M := by
  intro n
  induction n with
  | zero => intro l5 M hf; cases hf
  | succ n ih =>
    intro l5 M hf
    rw [M_carries_L83] at hf
    refine j_iload X dM_carries_83 0 rfl ?_
    refine j_aload_n X dM_carries_85 rfl 1 rfl ?_
    refine j_geti X gf_M_251_81 dM_carries_86 ?_
    refine j_icmp_ge X (tgt := 166) rfl rfl dM_carries_89 (by decide) hf (fun hf => ?_) (fun hf => ?_)
    · exact j_sub [1, 2, 4] rfl (kx _ hf)
    · refine j_aload_n X dM_carries_92 rfl 1 rfl ?_
      refine j_geta X gf_M_13_81 dM_carries_93 ?_
      refine j_iload X dM_carries_96 0 rfl ?_
      refine j_iald X sh_83 dM_carries_98 hf (fun x9 hf => ?_)
      refine j_iload_n X dM_carries_99 rfl 2 rfl ?_
      refine j_icmp_ne X (tgt := 160) rfl rfl dM_carries_100 (by decide) hf (fun hf => ?_) (fun hf => ?_)
      · refine j_iinc X (y := l5 + 1) (lv' := [(5, bz_i (l5 + 1)), (0, bz_rf E 81), (1, bz_i l1), (2, bz_i l2), (3, bz_rf E r3)]) dM_carries_160 0 rfl rfl (by decide) rfl ?_
        refine j_goto X (tgt := 83) dM_carries_163 (by decide) ?_
        exact ih _ _ hf
      · refine j_aload_n X dM_carries_103 rfl 1 rfl ?_
        refine j_geta X gf_M_17_81 dM_carries_104 ?_
        refine j_iload X dM_carries_107 0 rfl ?_
        refine j_iald X sh_84 dM_carries_109 hf (fun x10 hf => ?_)
        refine j_iload_n X dM_carries_110 rfl 3 rfl ?_
        refine j_icmp_ne X (tgt := 160) rfl rfl dM_carries_111 (by decide) hf (fun hf => ?_) (fun hf => ?_)
        · refine j_iinc X (y := l5 + 1) (lv' := [(5, bz_i (l5 + 1)), (0, bz_rf E 81), (1, bz_i l1), (2, bz_i l2), (3, bz_rf E r3)]) dM_carries_160 0 rfl rfl (by decide) rfl ?_
          refine j_goto X (tgt := 83) dM_carries_163 (by decide) ?_
          exact ih _ _ hf
        · refine j_aload_n X dM_carries_114 rfl 1 rfl ?_
          refine j_geta X gf_M_26_81 dM_carries_115 ?_
          refine j_iload X dM_carries_118 0 rfl ?_
          refine j_iald X sh_87 dM_carries_120 hf (fun x11 hf => ?_)
          refine j_aload_n X dM_carries_121 rfl 1 rfl ?_
          refine j_geti X gf_M_418_81 dM_carries_122 ?_
          refine j_icmp_le X (tgt := 131) rfl rfl dM_carries_125 (by decide) hf (fun hf => ?_) (fun hf => ?_)
          · refine j_aload_n X dM_carries_131 rfl 4 rfl ?_
            refine j_aload_n X dM_carries_132 rfl 1 rfl ?_
            refine j_geta X gf_M_20_81 dM_carries_133 ?_
            refine j_iload X dM_carries_136 0 rfl ?_
            refine j_iald X sh_85 dM_carries_138 hf (fun x12 hf => ?_)
            refine j_aload_n X dM_carries_139 rfl 1 rfl ?_
            refine j_geta X gf_M_23_81 dM_carries_140 ?_
            show bz_J _ _ 143 _ _ _
            refine j_iload X dM_carries_143 0 rfl ?_
            refine j_iald X sh_86 dM_carries_145 hf (fun x13 hf => ?_)
            refine j_iast X hr3 dM_carries_146 hf (fun m14 hf => ?_)
            refine j_aload_n X dM_carries_147 rfl 1 rfl ?_
            refine j_geta X gf_M_166_81 dM_carries_148 ?_
            refine j_aload_n X dM_carries_151 rfl 1 rfl ?_
            refine j_geta X gf_M_20_81 dM_carries_152 ?_
            refine j_iload X dM_carries_155 0 rfl ?_
            show bz_J _ _ 157 _ _ _
            refine j_iald X sh_85 dM_carries_157 hf (fun x15 hf => ?_)
            refine j_iconst X dM_carries_158 ?_
            refine j_zast X sh_221 (by decide +kernel) dM_carries_159 hf (fun m16 hf => ?_)
            refine j_iinc X (y := l5 + 1) (lv' := [(5, bz_i (l5 + 1)), (0, bz_rf E 81), (1, bz_i l1), (2, bz_i l2), (3, bz_rf E r3)]) dM_carries_160 0 rfl rfl (by decide) rfl ?_
            refine j_goto X (tgt := 83) dM_carries_163 (by decide) ?_
            exact ih _ _ hf
          · refine j_goto X (tgt := 160) dM_carries_128 (by decide) ?_
            refine j_iinc X (y := l5 + 1) (lv' := [(5, bz_i (l5 + 1)), (0, bz_rf E 81), (1, bz_i l1), (2, bz_i l2), (3, bz_rf E r3)]) dM_carries_160 0 rfl rfl (by decide) rfl ?_
            refine j_goto X (tgt := 83) dM_carries_163 (by decide) ?_
            exact ih _ _ hf
theorem lM_carries_L169 (E : bz_E) (F : Nat) {K : bz_K} {rv : Option Value} {M1 : bz_Mm} (X : bz_X K E prog_14_method_46_code 6 "UnitsWrongModel" none 1 20 rv M1) {r3 : Nat} {l1 : Int} (hr3 : bz_shl[r3]? = some (.inl (0, 260, 0))) {res : (bz_Mm)}
    (kx : ∀ (M : bz_Mm), some M = some res → bz_J K 6 208 [] [] M) :
    ∀ (n : Nat) (l5 : Int) (M : bz_Mm), M_carries_L169 F n r3 l1 l5 M = some res → bz_J K 6 169 [(5, bz_i l5), (0, bz_rf E 81), (1, bz_i l1), (3, bz_rf E r3)] [] M := by
  intro n
  induction n with
  | zero => intro l5 M hf; cases hf
  | succ n ih =>
    intro l5 M hf
    rw [M_carries_L169] at hf
    refine j_iload X dM_carries_169 0 rfl ?_
    refine j_sipush X dM_carries_171 rfl ?_
    refine j_icmp_ge X (tgt := 208) rfl (w32_lit rfl) dM_carries_174 (by decide) hf (fun hf => ?_) (fun hf => ?_)
    · exact j_sub [] rfl (kx _ hf)
    · refine j_iload_n X dM_carries_177 rfl 2 rfl ?_
      refine j_iconst X dM_carries_178 ?_
      refine j_icmp_ge X (tgt := 208) rfl (w32_lit rfl) dM_carries_179 (by decide) hf (fun hf => ?_) (fun hf => ?_)
      · exact j_sub [] rfl (kx _ hf)
      · refine j_aload_n X dM_carries_182 rfl 1 rfl ?_
        refine j_geta X gf_M_166_81 dM_carries_183 ?_
        refine j_iload X dM_carries_186 0 rfl ?_
        refine j_zald X sh_221 dM_carries_188 hf (fun x18 hf => ?_)
        refine j_if_ne X (tgt := 202) rfl dM_carries_189 (by decide) hf (fun hf => ?_) (fun hf => ?_)
        · refine j_iinc X (y := l5 + 1) (lv' := [(5, bz_i (l5 + 1)), (0, bz_rf E 81), (1, bz_i l1), (3, bz_rf E r3)]) dM_carries_202 0 rfl rfl (by decide) rfl ?_
          refine j_goto X (tgt := 169) dM_carries_205 (by decide) ?_
          exact ih _ _ hf
        · refine j_aload_n X dM_carries_192 rfl 3 rfl ?_
          refine j_iload X dM_carries_193 0 rfl ?_
          refine j_aload_n X dM_carries_195 rfl 3 rfl ?_
          refine j_iload X dM_carries_196 0 rfl ?_
          refine j_iconst X dM_carries_198 ?_
          refine j_isub X dM_carries_199 ?_
          refine j_iald X hr3 dM_carries_200 hf (fun x19 hf => ?_)
          show bz_J _ _ 201 _ _ _
          refine j_iast X hr3 dM_carries_201 hf (fun m20 hf => ?_)
          refine j_iinc X (y := l5 + 1) (lv' := [(5, bz_i (l5 + 1)), (0, bz_rf E 81), (1, bz_i l1), (3, bz_rf E r3)]) dM_carries_202 0 rfl rfl (by decide) rfl ?_
          refine j_goto X (tgt := 169) dM_carries_205 (by decide) ?_
          exact ih _ _ hf
def fM_carries (F : Nat) (M : bz_Mm) (r3 : Nat) (a1 : Int) (a2 : Int) : Option (bz_Mm) :=
  cl1_ (M_carries_L6 F F r3 a1 a2 0 M) fun m6 =>
  cl1_ (M_carries_L58 F F r3 a1 a2 0 m6) fun m8 =>
  cl1_ (M_carries_L83 F F r3 a1 a2 0 m8) fun m17 =>
  cl1_ (M_carries_L169 F F r3 a1 1 m17) fun m21 =>
  some m21
set_option maxHeartbeats 4000000 in
set_option maxRecDepth 20000 in
theorem cM_carries (E : bz_E) (F : Nat)  {M : bz_Mm} {r3 : Nat} {a1 : Int} {a2 : Int} {x0 : bz_Mm} (hr3 : bz_shl[r3]? = some (.inl (0, 260, 0))) (hf : fM_carries F M r3 a1 a2 = some x0) : bz_Ct E yM_carries (.code yM_carries prog_14_method_46_code 6 none) 1 20 [bz_rf E 81, bz_i a1, bz_i a2, bz_rf E r3] M (none) x0 := by
  refine bz_met (by decide +kernel) (Nat.le_of_ble_eq_true rfl) (fun K X => ?_)
  have X : bz_X K E prog_14_method_46_code 6 "UnitsWrongModel" none 1 20 _ _ := X
  unfold fM_carries at hf
  show bz_J K 6 0 [(0, bz_rf E 81), (1, bz_i a1), (2, bz_i a2), (3, bz_rf E r3)] [] M
  refine j_iconst X dM_carries_0 ?_
  refine j_istore X (lv' := [(4, bz_i ((-1))), (0, bz_rf E 81), (1, bz_i a1), (2, bz_i a2), (3, bz_rf E r3)]) dM_carries_1 (by decide) rfl ?_
  refine j_iconst X dM_carries_3 ?_
  refine j_istore X (lv' := [(5, bz_i 0), (4, bz_i ((-1))), (0, bz_rf E 81), (1, bz_i a1), (2, bz_i a2), (3, bz_rf E r3)]) dM_carries_4 (by decide) rfl ?_
  obtain ⟨res25, hz25, hk25⟩ := q_l1 hf
  clear hf
  refine j_sub [0, 2, 3, 4, 5] rfl ?_
  refine lM_carries_L6 E F X hr3 (fun m6 he => ?_) F 0 M hz25
  have hf := hk25 _ he
  refine j_iconst X dM_carries_55 ?_
  refine j_istore X (lv' := [(5, bz_i 0), (0, bz_rf E 81), (1, bz_i a1), (2, bz_i a2), (3, bz_rf E r3)]) dM_carries_56 (by decide) rfl ?_
  obtain ⟨res24, hz24, hk24⟩ := q_l1 hf
  clear hf
  refine lM_carries_L58 E F X hr3 (fun m8 he => ?_) F 0 m6 hz24
  have hf := hk24 _ he
  refine j_iconst X dM_carries_80 ?_
  refine j_istore X (lv' := [(5, bz_i 0), (0, bz_rf E 81), (1, bz_i a1), (2, bz_i a2), (3, bz_rf E r3)]) dM_carries_81 (by decide) rfl ?_
  obtain ⟨res23, hz23, hk23⟩ := q_l1 hf
  clear hf
  refine lM_carries_L83 E F X hr3 (fun m17 he => ?_) F 0 m8 hz23
  have hf := hk23 _ he
  refine j_iconst X dM_carries_166 ?_
  refine j_istore X (lv' := [(5, bz_i 1), (0, bz_rf E 81), (1, bz_i a1), (3, bz_rf E r3)]) dM_carries_167 (by decide) rfl ?_
  obtain ⟨res22, hz22, hk22⟩ := q_l1 hf
  clear hf
  refine lM_carries_L169 E F X hr3 (fun m21 he => ?_) F 1 m17 hz22
  have hf := hk22 _ he
  cases hf
  exact j_vret X dM_carries_208 rfl rfl
def M_knows_L7 (F : Nat) : Nat → Int → bz_Mm → Option (bz_Mm)
  | 0, _, _ => none
  | n + 1, l2, M =>
    if w32 l2 < 8 then
    (ra_ l2 8 fun i2 =>
    cl_ (fM_carries F M (158 + i2) 0 l2) fun m3 =>
    ra_ l2 8 fun i4 =>
    cl_ (fM_carries F m3 (171 + i4) 2 l2) fun m5 =>
    ra_ l2 8 fun i6 =>
    cl_ (fM_carries F m5 (180 + i6) 3 l2) fun m7 =>
    M_knows_L7 F n (l2 + 1) m7)
    else
    (some M)
def M_knows_L57 (F : Nat) : Nat → Int → bz_Mm → Option (bz_Mm)
  | 0, _, _ => none
  | n + 1, l2, M =>
    if w32 l2 < 260 then
    (ra_ 0 3 fun i9 =>
    wa_ M (167 + i9) l2 260 1000 fun m10 =>
    M_knows_L57 F n (l2 + 1) m10)
    else
    (some M)
theorem lM_knows_L7 (E : bz_E) (F : Nat) {K : bz_K} {rv : Option Value} {M1 : bz_Mm} (X : bz_X K E prog_14_method_47_code 3 "UnitsWrongModel" none 2 45 rv M1) {res : (bz_Mm)}
    (kx : ∀ (M : bz_Mm), some M = some res → bz_J K 3 55 [(0, bz_rf E 81)] [] M) :
    ∀ (n : Nat) (l2 : Int) (M : bz_Mm), M_knows_L7 F n l2 M = some res → bz_J K 3 7 [(2, bz_i l2), (0, bz_rf E 81)] [] M := by
  intro n
  induction n with
  | zero => intro l2 M hf; cases hf
  | succ n ih =>
    intro l2 M hf
    rw [M_knows_L7] at hf
    refine j_iload_n X dM_knows_7 rfl 0 rfl ?_
    refine j_bipush X dM_knows_8 rfl ?_
    refine j_icmp_ge X (tgt := 55) rfl (w32_lit rfl) dM_knows_10 (by decide) hf (fun hf => ?_) (fun hf => ?_)
    · exact j_sub [1] rfl (kx _ hf)
    · refine j_aload_n X dM_knows_13 rfl 1 rfl ?_
      refine j_iconst X dM_knows_14 ?_
      refine j_iload_n X dM_knows_15 rfl 0 rfl ?_
      refine j_aload_n X dM_knows_16 rfl 1 rfl ?_
      refine j_geta X gf_M_125_81 dM_knows_17 ?_
      refine j_iload_n X dM_knows_20 rfl 0 rfl ?_
      refine j_aald X sh_157 (by decide) (by decide) dM_knows_21 hf (fun i2 hi2 hf => ?_)
      show bz_J _ _ 22 _ _ _
      obtain ⟨m3, hz, hf⟩ := q_cl hf
      refine j_cv X (st := []) (cM_carries E F (sr_157 i2 hi2) hz) gyM_carries gv_M_carries_81 rfl (by decide) (by decide) wd_1622 rfl (Nat.le_of_ble_eq_true rfl) dM_knows_22 ?_
      clear hz
      refine j_aload_n X dM_knows_25 rfl 1 rfl ?_
      refine j_iconst X dM_knows_26 ?_
      refine j_iload_n X dM_knows_27 rfl 0 rfl ?_
      refine j_aload_n X dM_knows_28 rfl 1 rfl ?_
      refine j_geta X gf_M_131_81 dM_knows_29 ?_
      refine j_iload_n X dM_knows_32 rfl 0 rfl ?_
      refine j_aald X sh_170 (by decide) (by decide) dM_knows_33 hf (fun i4 hi4 hf => ?_)
      show bz_J _ _ 34 _ _ _
      obtain ⟨m5, hz, hf⟩ := q_cl hf
      refine j_cv X (st := []) (cM_carries E F (sr_170 i4 hi4) hz) gyM_carries gv_M_carries_81 rfl (by decide) (by decide) wd_1622 rfl (Nat.le_of_ble_eq_true rfl) dM_knows_34 ?_
      clear hz
      refine j_aload_n X dM_knows_37 rfl 1 rfl ?_
      refine j_iconst X dM_knows_38 ?_
      refine j_iload_n X dM_knows_39 rfl 0 rfl ?_
      refine j_aload_n X dM_knows_40 rfl 1 rfl ?_
      refine j_geta X gf_M_134_81 dM_knows_41 ?_
      refine j_iload_n X dM_knows_44 rfl 0 rfl ?_
      refine j_aald X sh_179 (by decide) (by decide) dM_knows_45 hf (fun i6 hi6 hf => ?_)
      show bz_J _ _ 46 _ _ _
      obtain ⟨m7, hz, hf⟩ := q_cl hf
      refine j_cv X (st := []) (cM_carries E F (sr_179 i6 hi6) hz) gyM_carries gv_M_carries_81 rfl (by decide) (by decide) wd_1622 rfl (Nat.le_of_ble_eq_true rfl) dM_knows_46 ?_
      clear hz
      refine j_iinc X (y := l2 + 1) (lv' := [(2, bz_i (l2 + 1)), (0, bz_rf E 81)]) dM_knows_49 0 rfl rfl (by decide) rfl ?_
      refine j_goto X (tgt := 7) dM_knows_52 (by decide) ?_
      exact ih _ _ hf
theorem lM_knows_L57 (E : bz_E) (F : Nat) {K : bz_K} {rv : Option Value} {M1 : bz_Mm} (X : bz_X K E prog_14_method_47_code 3 "UnitsWrongModel" none 2 45 rv M1) {res : (bz_Mm)}
    (kx : ∀ (M : bz_Mm), some M = some res → bz_J K 3 81 [(0, bz_rf E 81)] [] M) :
    ∀ (n : Nat) (l2 : Int) (M : bz_Mm), M_knows_L57 F n l2 M = some res → bz_J K 3 57 [(2, bz_i l2), (0, bz_rf E 81)] [] M := by
  intro n
  induction n with
  | zero => intro l2 M hf; cases hf
  | succ n ih =>
    intro l2 M hf
    rw [M_knows_L57] at hf
    refine j_iload_n X dM_knows_57 rfl 0 rfl ?_
    refine j_sipush X dM_knows_58 rfl ?_
    refine j_icmp_ge X (tgt := 81) rfl (w32_lit rfl) dM_knows_61 (by decide) hf (fun hf => ?_) (fun hf => ?_)
    · exact j_sub [1] rfl (kx _ hf)
    · refine j_aload_n X dM_knows_64 rfl 1 rfl ?_
      refine j_geta X gf_M_128_81 dM_knows_65 ?_
      refine j_iconst X dM_knows_68 ?_
      refine j_aald X sh_166 (by decide) (by decide) dM_knows_69 hf (fun i9 hi9 hf => ?_)
      refine j_iload_n X dM_knows_70 rfl 0 rfl ?_
      refine j_sipush X dM_knows_71 rfl ?_
      refine j_iast X (sr_166 i9 hi9) dM_knows_74 hf (fun m10 hf => ?_)
      show bz_J _ _ 75 _ _ _
      refine j_iinc X (y := l2 + 1) (lv' := [(2, bz_i (l2 + 1)), (0, bz_rf E 81)]) dM_knows_75 0 rfl rfl (by decide) rfl ?_
      refine j_goto X (tgt := 57) dM_knows_78 (by decide) ?_
      exact ih _ _ hf
def fM_knows (F : Nat) (M : bz_Mm) (a1 : Int) : Option (bz_Mm) :=
  wf_ M 81 61 a1 fun m1 =>
  cl1_ (M_knows_L7 F F 0 m1) fun m8 =>
  cl1_ (M_knows_L57 F F 0 m8) fun m11 =>
  ra_ 1 3 fun i12 =>
  cl_ (fM_carries F m11 (167 + i12) 1 1) fun m13 =>
  ra_ 2 3 fun i14 =>
  cl_ (fM_carries F m13 (167 + i14) 1 2) fun m15 =>
  some m15
set_option maxHeartbeats 4000000 in
set_option maxRecDepth 20000 in
theorem cM_knows (E : bz_E) (F : Nat)  {M : bz_Mm} {a1 : Int} {x0 : bz_Mm} (hf : fM_knows F M a1 = some x0) : bz_Ct E yM_knows (.code yM_knows prog_14_method_47_code 3 none) 2 45 [bz_rf E 81, bz_i a1] M (none) x0 := by
  refine bz_met (by decide +kernel) (Nat.le_of_ble_eq_true rfl) (fun K X => ?_)
  have X : bz_X K E prog_14_method_47_code 3 "UnitsWrongModel" none 2 45 _ _ := X
  unfold fM_knows at hf
  show bz_J K 3 0 [(0, bz_rf E 81), (1, bz_i a1)] [] M
  refine j_aload_n X dM_knows_0 rfl 0 rfl ?_
  refine j_iload_n X dM_knows_1 rfl 1 rfl ?_
  refine j_puti X pf_M_418_81 dM_knows_2 hf (fun m1 hf => ?_)
  refine j_iconst X dM_knows_5 ?_
  refine j_istore_n X (lv' := [(2, bz_i 0), (0, bz_rf E 81), (1, bz_i a1)]) dM_knows_6 rfl (by decide) rfl ?_
  obtain ⟨res17, hz17, hk17⟩ := q_l1 hf
  clear hf
  refine j_sub [0, 1] rfl ?_
  refine lM_knows_L7 E F X (fun m8 he => ?_) F 0 m1 hz17
  have hf := hk17 _ he
  refine j_iconst X dM_knows_55 ?_
  refine j_istore_n X (lv' := [(2, bz_i 0), (0, bz_rf E 81)]) dM_knows_56 rfl (by decide) rfl ?_
  obtain ⟨res16, hz16, hk16⟩ := q_l1 hf
  clear hf
  refine lM_knows_L57 E F X (fun m11 he => ?_) F 0 m8 hz16
  have hf := hk16 _ he
  refine j_aload_n X dM_knows_81 rfl 0 rfl ?_
  refine j_iconst X dM_knows_82 ?_
  refine j_iconst X dM_knows_83 ?_
  refine j_aload_n X dM_knows_84 rfl 0 rfl ?_
  refine j_geta X gf_M_128_81 dM_knows_85 ?_
  refine j_iconst X dM_knows_88 ?_
  refine j_aald X sh_166 (by decide) (by decide) dM_knows_89 hf (fun i12 hi12 hf => ?_)
  show bz_J _ _ 90 _ _ _
  obtain ⟨m13, hz, hf⟩ := q_cl hf
  refine j_cv X (st := []) (cM_carries E F (sr_166 i12 hi12) hz) gyM_carries gv_M_carries_81 rfl (by decide) (by decide) wd_1622 rfl (Nat.le_of_ble_eq_true rfl) dM_knows_90 ?_
  clear hz
  refine j_aload_n X dM_knows_93 rfl 0 rfl ?_
  refine j_iconst X dM_knows_94 ?_
  refine j_iconst X dM_knows_95 ?_
  refine j_aload_n X dM_knows_96 rfl 0 rfl ?_
  refine j_geta X gf_M_128_81 dM_knows_97 ?_
  refine j_iconst X dM_knows_100 ?_
  refine j_aald X sh_166 (by decide) (by decide) dM_knows_101 hf (fun i14 hi14 hf => ?_)
  show bz_J _ _ 102 _ _ _
  obtain ⟨m15, hz, hf⟩ := q_cl hf
  refine j_cv X (st := []) (cM_carries E F (sr_166 i14 hi14) hz) gyM_carries gv_M_carries_81 rfl (by decide) (by decide) wd_1622 rfl (Nat.le_of_ble_eq_true rfl) dM_knows_102 ?_
  clear hz
  cases hf
  exact j_vret X dM_knows_105 rfl rfl
def M_begins_L29 (F : Nat) : Nat → Int → Int → bz_Mm → Option (bz_Mm)
  | 0, _, _, _ => none
  | n + 1, l1, l2, M =>
    if w32 l2 < 8 then
    (ra_ l1 4 fun i4 =>
    wa_ M (191 + i4) l2 8 0 fun m5 =>
    M_begins_L29 F n l1 (l2 + 1) m5)
    else
    (some M)
def M_begins_L52 (F : Nat) : Nat → Int → Int → bz_Mm → Option (bz_Mm)
  | 0, _, _, _ => none
  | n + 1, l1, l2, M =>
    if w32 l2 < 20 then
    (ra_ l1 4 fun i7 =>
    wa_ M (206 + i7) l2 20 0 fun m8 =>
    M_begins_L52 F n l1 (l2 + 1) m8)
    else
    (some M)
def M_begins_L2 (F : Nat) : Nat → Int → bz_Mm → Option (bz_Mm)
  | 0, _, _ => none
  | n + 1, l1, M =>
    if w32 l1 < 4 then
    (rd_ M 93 l1 4 fun x1 =>
    wa_ M 188 l1 4 (w32 x1) fun m2 =>
    wa_ m2 210 l1 4 0 fun m3 =>
    cl1_ (M_begins_L29 F F l1 0 m3) fun m6 =>
    cl1_ (M_begins_L52 F F l1 0 m6) fun m9 =>
    M_begins_L2 F n (l1 + 1) m9)
    else
    (some M)
def M_begins_L81 (F : Nat) : Nat → Int → bz_Mm → Option (bz_Mm)
  | 0, _, _ => none
  | n + 1, l1, M =>
    if w32 l1 < w32 (M 81 35) then
    (wa_ M 189 l1 200 0 fun m13 =>
    M_begins_L81 F n (l1 + 1) m13)
    else
    (some M)
theorem lM_begins_L29 (E : bz_E) (F : Nat) {K : bz_K} {rv : Option Value} {M1 : bz_Mm} (X : bz_X K E prog_14_method_48_code 3 "UnitsWrongModel" none 0 0 rv M1) {l1 : Int} {res : (bz_Mm)}
    (kx : ∀ (M : bz_Mm), some M = some res → bz_J K 3 50 [(1, bz_i l1), (0, bz_rf E 81)] [] M) :
    ∀ (n : Nat) (l2 : Int) (M : bz_Mm), M_begins_L29 F n l1 l2 M = some res → bz_J K 3 29 [(2, bz_i l2), (1, bz_i l1), (0, bz_rf E 81)] [] M := by
  intro n
  induction n with
  | zero => intro l2 M hf; cases hf
  | succ n ih =>
    intro l2 M hf
    rw [M_begins_L29] at hf
    refine j_iload_n X dM_begins_29 rfl 0 rfl ?_
    refine j_bipush X dM_begins_30 rfl ?_
    refine j_icmp_ge X (tgt := 50) rfl (w32_lit rfl) dM_begins_32 (by decide) hf (fun hf => ?_) (fun hf => ?_)
    · exact j_sub [1, 2] rfl (kx _ hf)
    · refine j_aload_n X dM_begins_35 rfl 2 rfl ?_
      refine j_geta X gf_M_145_81 dM_begins_36 ?_
      refine j_iload_n X dM_begins_39 rfl 1 rfl ?_
      refine j_aald X sh_190 (by decide) (by decide) dM_begins_40 hf (fun i4 hi4 hf => ?_)
      refine j_iload_n X dM_begins_41 rfl 0 rfl ?_
      refine j_lconst X (v := 0) dM_begins_42 rfl ?_
      refine j_last X (sr_190 i4 hi4) dM_begins_43 hf (fun m5 hf => ?_)
      show bz_J _ _ 44 _ _ _
      refine j_iinc X (y := l2 + 1) (lv' := [(2, bz_i (l2 + 1)), (1, bz_i l1), (0, bz_rf E 81)]) dM_begins_44 0 rfl rfl (by decide) rfl ?_
      refine j_goto X (tgt := 29) dM_begins_47 (by decide) ?_
      exact ih _ _ hf
theorem lM_begins_L52 (E : bz_E) (F : Nat) {K : bz_K} {rv : Option Value} {M1 : bz_Mm} (X : bz_X K E prog_14_method_48_code 3 "UnitsWrongModel" none 0 0 rv M1) {l1 : Int} {res : (bz_Mm)}
    (kx : ∀ (M : bz_Mm), some M = some res → bz_J K 3 73 [(1, bz_i l1), (0, bz_rf E 81)] [] M) :
    ∀ (n : Nat) (l2 : Int) (M : bz_Mm), M_begins_L52 F n l1 l2 M = some res → bz_J K 3 52 [(2, bz_i l2), (1, bz_i l1), (0, bz_rf E 81)] [] M := by
  intro n
  induction n with
  | zero => intro l2 M hf; cases hf
  | succ n ih =>
    intro l2 M hf
    rw [M_begins_L52] at hf
    refine j_iload_n X dM_begins_52 rfl 0 rfl ?_
    refine j_bipush X dM_begins_53 rfl ?_
    refine j_icmp_ge X (tgt := 73) rfl (w32_lit rfl) dM_begins_55 (by decide) hf (fun hf => ?_) (fun hf => ?_)
    · exact j_sub [1, 2] rfl (kx _ hf)
    · refine j_aload_n X dM_begins_58 rfl 2 rfl ?_
      refine j_geta X gf_M_154_81 dM_begins_59 ?_
      refine j_iload_n X dM_begins_62 rfl 1 rfl ?_
      refine j_aald X sh_205 (by decide) (by decide) dM_begins_63 hf (fun i7 hi7 hf => ?_)
      refine j_iload_n X dM_begins_64 rfl 0 rfl ?_
      refine j_lconst X (v := 0) dM_begins_65 rfl ?_
      refine j_last X (sr_205 i7 hi7) dM_begins_66 hf (fun m8 hf => ?_)
      show bz_J _ _ 67 _ _ _
      refine j_iinc X (y := l2 + 1) (lv' := [(2, bz_i (l2 + 1)), (1, bz_i l1), (0, bz_rf E 81)]) dM_begins_67 0 rfl rfl (by decide) rfl ?_
      refine j_goto X (tgt := 52) dM_begins_70 (by decide) ?_
      exact ih _ _ hf
theorem lM_begins_L2 (E : bz_E) (F : Nat) {K : bz_K} {rv : Option Value} {M1 : bz_Mm} (X : bz_X K E prog_14_method_48_code 3 "UnitsWrongModel" none 0 0 rv M1) {res : (bz_Mm)}
    (kx : ∀ (M : bz_Mm), some M = some res → bz_J K 3 79 [(0, bz_rf E 81)] [] M) :
    ∀ (n : Nat) (l1 : Int) (M : bz_Mm), M_begins_L2 F n l1 M = some res → bz_J K 3 2 [(1, bz_i l1), (0, bz_rf E 81)] [] M := by
  intro n
  induction n with
  | zero => intro l1 M hf; cases hf
  | succ n ih =>
    intro l1 M hf
    rw [M_begins_L2] at hf
    refine j_iload_n X dM_begins_2 rfl 0 rfl ?_
    refine j_iconst X dM_begins_3 ?_
    refine j_icmp_ge X (tgt := 79) rfl (w32_lit rfl) dM_begins_4 (by decide) hf (fun hf => ?_) (fun hf => ?_)
    · exact j_sub [1] rfl (kx _ hf)
    · refine j_aload_n X dM_begins_7 rfl 1 rfl ?_
      refine j_geta X gf_M_137_81 dM_begins_8 ?_
      refine j_iload_n X dM_begins_11 rfl 0 rfl ?_
      refine j_aload_n X dM_begins_12 rfl 1 rfl ?_
      refine j_geta X gf_M_44_81 dM_begins_13 ?_
      refine j_iload_n X dM_begins_16 rfl 0 rfl ?_
      refine j_iald X sh_93 dM_begins_17 hf (fun x1 hf => ?_)
      show bz_J _ _ 18 _ _ _
      refine j_i2l X rfl dM_begins_18 ?_
      refine j_last X sh_188 dM_begins_19 hf (fun m2 hf => ?_)
      refine j_aload_n X dM_begins_20 rfl 1 rfl ?_
      refine j_geta X gf_M_157_81 dM_begins_21 ?_
      refine j_iload_n X dM_begins_24 rfl 0 rfl ?_
      refine j_lconst X (v := 0) dM_begins_25 rfl ?_
      refine j_last X sh_210 dM_begins_26 hf (fun m3 hf => ?_)
      refine j_iconst X dM_begins_27 ?_
      show bz_J _ _ 28 _ _ _
      refine j_istore_n X (lv' := [(2, bz_i 0), (1, bz_i l1), (0, bz_rf E 81)]) dM_begins_28 rfl (by decide) rfl ?_
      obtain ⟨res11, hz11, hk11⟩ := q_l1 hf
      clear hf
      refine lM_begins_L29 E F X (fun m6 he => ?_) F 0 m3 hz11
      have hf := hk11 _ he
      refine j_iconst X dM_begins_50 ?_
      refine j_istore_n X (lv' := [(2, bz_i 0), (1, bz_i l1), (0, bz_rf E 81)]) dM_begins_51 rfl (by decide) rfl ?_
      obtain ⟨res10, hz10, hk10⟩ := q_l1 hf
      clear hf
      refine lM_begins_L52 E F X (fun m9 he => ?_) F 0 m6 hz10
      have hf := hk10 _ he
      refine j_iinc X (y := l1 + 1) (lv' := [(1, bz_i (l1 + 1)), (0, bz_rf E 81)]) dM_begins_73 0 rfl rfl (by decide) rfl ?_
      refine j_goto X (tgt := 2) dM_begins_76 (by decide) ?_
      exact ih _ _ hf
theorem lM_begins_L81 (E : bz_E) (F : Nat) {K : bz_K} {rv : Option Value} {M1 : bz_Mm} (X : bz_X K E prog_14_method_48_code 3 "UnitsWrongModel" none 0 0 rv M1) {res : (bz_Mm)}
    (kx : ∀ (M : bz_Mm), some M = some res → bz_J K 3 102 [] [] M) :
    ∀ (n : Nat) (l1 : Int) (M : bz_Mm), M_begins_L81 F n l1 M = some res → bz_J K 3 81 [(1, bz_i l1), (0, bz_rf E 81)] [] M := by
  intro n
  induction n with
  | zero => intro l1 M hf; cases hf
  | succ n ih =>
    intro l1 M hf
    rw [M_begins_L81] at hf
    refine j_iload_n X dM_begins_81 rfl 0 rfl ?_
    refine j_aload_n X dM_begins_82 rfl 1 rfl ?_
    refine j_geti X gf_M_302_81 dM_begins_83 ?_
    refine j_icmp_ge X (tgt := 102) rfl rfl dM_begins_86 (by decide) hf (fun hf => ?_) (fun hf => ?_)
    · exact j_sub [] rfl (kx _ hf)
    · refine j_aload_n X dM_begins_89 rfl 1 rfl ?_
      refine j_geta X gf_M_140_81 dM_begins_90 ?_
      refine j_iload_n X dM_begins_93 rfl 0 rfl ?_
      refine j_lconst X (v := 0) dM_begins_94 rfl ?_
      refine j_last X sh_189 dM_begins_95 hf (fun m13 hf => ?_)
      refine j_iinc X (y := l1 + 1) (lv' := [(1, bz_i (l1 + 1)), (0, bz_rf E 81)]) dM_begins_96 0 rfl rfl (by decide) rfl ?_
      refine j_goto X (tgt := 81) dM_begins_99 (by decide) ?_
      exact ih _ _ hf
def fM_begins (F : Nat) (M : bz_Mm) : Option (bz_Mm) :=
  cl1_ (M_begins_L2 F F 0 M) fun m12 =>
  cl1_ (M_begins_L81 F F 0 m12) fun m14 =>
  some m14
set_option maxHeartbeats 4000000 in
set_option maxRecDepth 20000 in
theorem cM_begins (E : bz_E) (F : Nat)  {M : bz_Mm} {x0 : bz_Mm} (hf : fM_begins F M = some x0) : bz_Ct E yM_begins (.code yM_begins prog_14_method_48_code 3 none) 0 0 [bz_rf E 81] M (none) x0 := by
  refine bz_met (by decide +kernel) (Nat.le_of_ble_eq_true rfl) (fun K X => ?_)
  have X : bz_X K E prog_14_method_48_code 3 "UnitsWrongModel" none 0 0 _ _ := X
  unfold fM_begins at hf
  show bz_J K 3 0 [(0, bz_rf E 81)] [] M
  refine j_iconst X dM_begins_0 ?_
  refine j_istore_n X (lv' := [(1, bz_i 0), (0, bz_rf E 81)]) dM_begins_1 rfl (by decide) rfl ?_
  obtain ⟨res16, hz16, hk16⟩ := q_l1 hf
  clear hf
  refine lM_begins_L2 E F X (fun m12 he => ?_) F 0 M hz16
  have hf := hk16 _ he
  refine j_iconst X dM_begins_79 ?_
  refine j_istore_n X (lv' := [(1, bz_i 0), (0, bz_rf E 81)]) dM_begins_80 rfl (by decide) rfl ?_
  obtain ⟨res15, hz15, hk15⟩ := q_l1 hf
  clear hf
  refine lM_begins_L81 E F X (fun m14 he => ?_) F 0 m12 hz15
  have hf := hk15 _ he
  cases hf
  exact j_vret X dM_begins_102 rfl rfl
def M_papers_L2 (F : Nat) : Nat → Int → Int → Int → bz_Mm → Option (bz_Mm)
  | 0, _, _, _, _ => none
  | n + 1, l1, l2, l3, M =>
    if w32 l3 < 8 then
    (ra_ l1 4 fun i1 =>
    ra_ l1 4 fun i2 =>
    rd_ M (191 + i2) l3 8 fun x3 =>
    ra_ l3 8 fun i4 =>
    rd_ M (180 + i4) l2 260 fun x5 =>
    wa_ M (191 + i1) l3 8 (fM_near ((w64 (x3 * (w32 x5))).tdiv 1000) ((-1000000)) 1000000) fun m6 =>
    M_papers_L2 F n l1 l2 (l3 + 1) m6)
    else
    (some M)
def M_papers_L55 (F : Nat) : Nat → Int → Int → Int → bz_Mm → Option (bz_Mm)
  | 0, _, _, _, _ => none
  | n + 1, l1, l2, l3, M =>
    if w32 l3 < 8 then
    (rd_ M 188 l1 4 fun x8 =>
    ra_ l1 4 fun i9 =>
    rd_ M (191 + i9) l3 8 fun x10 =>
    ra_ l3 8 fun i11 =>
    rd_ M (171 + i11) l2 260 fun x12 =>
    rd_ M 92 l3 8 fun x13 =>
    ra_ x13 3 fun i14 =>
    rd_ M (167 + i14) l2 260 fun x15 =>
    wa_ M 188 l1 4 (x8 + ((w64 ((x10 * (w32 x12)) * (w32 x15))).tdiv 1000)) fun m16 =>
    M_papers_L55 F n l1 l2 (l3 + 1) m16)
    else
    (some M)
def M_papers_L115 (F : Nat) : Nat → Int → Int → Int → bz_Mm → Option (bz_Mm)
  | 0, _, _, _, _ => none
  | n + 1, l1, l2, l3, M =>
    if w32 l3 < w32 (M 81 27) then
    (rd_ M 97 l3 120 fun x18 =>
    if w32 x18 = w32 l1 then
    (rd_ M 99 l3 120 fun x19 =>
    if w32 x19 = w32 l2 then
    (rd_ M 102 l3 120 fun x20 =>
    if w32 (M 81 61) < w32 x20 then
    (M_papers_L115 F n l1 l2 (l3 + 1) M)
    else
    (ra_ l1 4 fun i21 =>
    rd_ M 98 l3 120 fun x22 =>
    ra_ l1 4 fun i23 =>
    rd_ M 98 l3 120 fun x24 =>
    rd_ M (191 + i23) x24 8 fun x25 =>
    rd_ M 100 l3 120 fun x26 =>
    wa_ M (191 + i21) x22 8 (fM_near (x25 + (w32 x26)) ((-1000000)) 1000000) fun m27 =>
    rd_ m27 188 l1 4 fun x28 =>
    rd_ m27 101 l3 120 fun x29 =>
    wa_ m27 188 l1 4 (x28 + (w32 x29)) fun m30 =>
    M_papers_L115 F n l1 l2 (l3 + 1) m30))
    else
    (M_papers_L115 F n l1 l2 (l3 + 1) M))
    else
    (M_papers_L115 F n l1 l2 (l3 + 1) M))
    else
    (some M)
theorem lM_papers_L2 (E : bz_E) (F : Nat) {K : bz_K} {rv : Option Value} {M1 : bz_Mm} (X : bz_X K E prog_14_method_49_code 4 "UnitsWrongModel" none 1 25 rv M1) {l1 : Int} {l2 : Int} {res : (bz_Mm)}
    (kx : ∀ (M : bz_Mm), some M = some res → bz_J K 4 53 [(0, bz_rf E 81), (1, bz_i l1), (2, bz_i l2)] [] M) :
    ∀ (n : Nat) (l3 : Int) (M : bz_Mm), M_papers_L2 F n l1 l2 l3 M = some res → bz_J K 4 2 [(3, bz_i l3), (0, bz_rf E 81), (1, bz_i l1), (2, bz_i l2)] [] M := by
  intro n
  induction n with
  | zero => intro l3 M hf; cases hf
  | succ n ih =>
    intro l3 M hf
    rw [M_papers_L2] at hf
    refine j_iload_n X dM_papers_2 rfl 0 rfl ?_
    refine j_bipush X dM_papers_3 rfl ?_
    refine j_icmp_ge X (tgt := 53) rfl (w32_lit rfl) dM_papers_5 (by decide) hf (fun hf => ?_) (fun hf => ?_)
    · exact j_sub [1, 2, 3] rfl (kx _ hf)
    · refine j_aload_n X dM_papers_8 rfl 1 rfl ?_
      refine j_geta X gf_M_145_81 dM_papers_9 ?_
      refine j_iload_n X dM_papers_12 rfl 2 rfl ?_
      refine j_aald X sh_190 (by decide) (by decide) dM_papers_13 hf (fun i1 hi1 hf => ?_)
      refine j_iload_n X dM_papers_14 rfl 0 rfl ?_
      refine j_aload_n X dM_papers_15 rfl 1 rfl ?_
      refine j_geta X gf_M_145_81 dM_papers_16 ?_
      show bz_J _ _ 19 _ _ _
      refine j_iload_n X dM_papers_19 rfl 2 rfl ?_
      refine j_aald X sh_190 (by decide) (by decide) dM_papers_20 hf (fun i2 hi2 hf => ?_)
      refine j_iload_n X dM_papers_21 rfl 0 rfl ?_
      refine j_lald X (sr_190 i2 hi2) dM_papers_22 hf (fun x3 hf => ?_)
      refine j_aload_n X dM_papers_23 rfl 1 rfl ?_
      refine j_geta X gf_M_134_81 dM_papers_24 ?_
      refine j_iload_n X dM_papers_27 rfl 0 rfl ?_
      refine j_aald X sh_179 (by decide) (by decide) dM_papers_28 hf (fun i4 hi4 hf => ?_)
      show bz_J _ _ 29 _ _ _
      refine j_iload_n X dM_papers_29 rfl 3 rfl ?_
      refine j_iald X (sr_179 i4 hi4) dM_papers_30 hf (fun x5 hf => ?_)
      refine j_i2l X rfl dM_papers_31 ?_
      refine j_lmul X dM_papers_32 ?_
      refine j_ldc2 X (v := 1000) wd_1434 dM_papers_33 ?_
      refine j_ldl X (w64_lit rfl) (by decide) dM_papers_36 ?_
      refine j_ldc2 X (v := -1000000) wd_1638 dM_papers_37 ?_
      refine j_ldc2 X (v := 1000000) wd_1639 dM_papers_40 ?_
      show bz_J _ _ 43 _ _ _
      refine j_cs X (st := [bz_i l3, bz_rf E (191 + i1)]) (cM_near E) gyM_near wd_1554 rfl (by decide) (by decide) wd_1553 rfl (Nat.le_of_ble_eq_true rfl) dM_papers_43 ?_
      refine j_last X (sr_190 i1 hi1) dM_papers_46 hf (fun m6 hf => ?_)
      refine j_iinc X (y := l3 + 1) (lv' := [(3, bz_i (l3 + 1)), (0, bz_rf E 81), (1, bz_i l1), (2, bz_i l2)]) dM_papers_47 0 rfl rfl (by decide) rfl ?_
      refine j_goto X (tgt := 2) dM_papers_50 (by decide) ?_
      exact ih _ _ hf
theorem lM_papers_L55 (E : bz_E) (F : Nat) {K : bz_K} {rv : Option Value} {M1 : bz_Mm} (X : bz_X K E prog_14_method_49_code 4 "UnitsWrongModel" none 1 25 rv M1) {l1 : Int} {l2 : Int} {res : (bz_Mm)}
    (kx : ∀ (M : bz_Mm), some M = some res → bz_J K 4 113 [(0, bz_rf E 81), (1, bz_i l1), (2, bz_i l2)] [] M) :
    ∀ (n : Nat) (l3 : Int) (M : bz_Mm), M_papers_L55 F n l1 l2 l3 M = some res → bz_J K 4 55 [(3, bz_i l3), (0, bz_rf E 81), (1, bz_i l1), (2, bz_i l2)] [] M := by
  intro n
  induction n with
  | zero => intro l3 M hf; cases hf
  | succ n ih =>
    intro l3 M hf
    rw [M_papers_L55] at hf
    refine j_iload_n X dM_papers_55 rfl 0 rfl ?_
    refine j_bipush X dM_papers_56 rfl ?_
    refine j_icmp_ge X (tgt := 113) rfl (w32_lit rfl) dM_papers_58 (by decide) hf (fun hf => ?_) (fun hf => ?_)
    · exact j_sub [1, 2, 3] rfl (kx _ hf)
    · refine j_aload_n X dM_papers_61 rfl 1 rfl ?_
      refine j_geta X gf_M_137_81 dM_papers_62 ?_
      refine j_iload_n X dM_papers_65 rfl 2 rfl ?_
      refine j_dup2 X dM_papers_66 rfl rfl ?_
      refine j_lald X sh_188 dM_papers_67 hf (fun x8 hf => ?_)
      refine j_aload_n X dM_papers_68 rfl 1 rfl ?_
      refine j_geta X gf_M_145_81 dM_papers_69 ?_
      show bz_J _ _ 72 _ _ _
      refine j_iload_n X dM_papers_72 rfl 2 rfl ?_
      refine j_aald X sh_190 (by decide) (by decide) dM_papers_73 hf (fun i9 hi9 hf => ?_)
      refine j_iload_n X dM_papers_74 rfl 0 rfl ?_
      refine j_lald X (sr_190 i9 hi9) dM_papers_75 hf (fun x10 hf => ?_)
      refine j_aload_n X dM_papers_76 rfl 1 rfl ?_
      refine j_geta X gf_M_131_81 dM_papers_77 ?_
      refine j_iload_n X dM_papers_80 rfl 0 rfl ?_
      refine j_aald X sh_170 (by decide) (by decide) dM_papers_81 hf (fun i11 hi11 hf => ?_)
      show bz_J _ _ 82 _ _ _
      refine j_iload_n X dM_papers_82 rfl 3 rfl ?_
      refine j_iald X (sr_170 i11 hi11) dM_papers_83 hf (fun x12 hf => ?_)
      refine j_i2l X rfl dM_papers_84 ?_
      refine j_lmul X dM_papers_85 ?_
      refine j_aload_n X dM_papers_86 rfl 1 rfl ?_
      refine j_geta X gf_M_128_81 dM_papers_87 ?_
      refine j_aload_n X dM_papers_90 rfl 1 rfl ?_
      refine j_geta X gf_M_41_81 dM_papers_91 ?_
      show bz_J _ _ 94 _ _ _
      refine j_iload_n X dM_papers_94 rfl 0 rfl ?_
      refine j_iald X sh_92 dM_papers_95 hf (fun x13 hf => ?_)
      refine j_aald X sh_166 (by decide) (by decide) dM_papers_96 hf (fun i14 hi14 hf => ?_)
      refine j_iload_n X dM_papers_97 rfl 3 rfl ?_
      refine j_iald X (sr_166 i14 hi14) dM_papers_98 hf (fun x15 hf => ?_)
      refine j_i2l X rfl dM_papers_99 ?_
      refine j_lmul X dM_papers_100 ?_
      refine j_ldc2 X (v := 1000) wd_1434 dM_papers_101 ?_
      show bz_J _ _ 104 _ _ _
      refine j_ldl X (w64_lit rfl) (by decide) dM_papers_104 ?_
      refine j_ladd X dM_papers_105 ?_
      refine j_last X sh_188 dM_papers_106 hf (fun m16 hf => ?_)
      refine j_iinc X (y := l3 + 1) (lv' := [(3, bz_i (l3 + 1)), (0, bz_rf E 81), (1, bz_i l1), (2, bz_i l2)]) dM_papers_107 0 rfl rfl (by decide) rfl ?_
      refine j_goto X (tgt := 55) dM_papers_110 (by decide) ?_
      exact ih _ _ hf
theorem lM_papers_L115 (E : bz_E) (F : Nat) {K : bz_K} {rv : Option Value} {M1 : bz_Mm} (X : bz_X K E prog_14_method_49_code 4 "UnitsWrongModel" none 1 25 rv M1) {l1 : Int} {l2 : Int} {res : (bz_Mm)}
    (kx : ∀ (M : bz_Mm), some M = some res → bz_J K 4 224 [] [] M) :
    ∀ (n : Nat) (l3 : Int) (M : bz_Mm), M_papers_L115 F n l1 l2 l3 M = some res → bz_J K 4 115 [(3, bz_i l3), (0, bz_rf E 81), (1, bz_i l1), (2, bz_i l2)] [] M := by
  intro n
  induction n with
  | zero => intro l3 M hf; cases hf
  | succ n ih =>
    intro l3 M hf
    rw [M_papers_L115] at hf
    refine j_iload_n X dM_papers_115 rfl 0 rfl ?_
    refine j_aload_n X dM_papers_116 rfl 1 rfl ?_
    refine j_geti X gf_M_294_81 dM_papers_117 ?_
    refine j_icmp_ge X (tgt := 224) rfl rfl dM_papers_120 (by decide) hf (fun hf => ?_) (fun hf => ?_)
    · exact j_sub [] rfl (kx _ hf)
    · refine j_aload_n X dM_papers_123 rfl 1 rfl ?_
      refine j_geta X gf_M_56_81 dM_papers_124 ?_
      refine j_iload_n X dM_papers_127 rfl 0 rfl ?_
      refine j_iald X sh_97 dM_papers_128 hf (fun x18 hf => ?_)
      refine j_iload_n X dM_papers_129 rfl 2 rfl ?_
      refine j_icmp_ne X (tgt := 218) rfl rfl dM_papers_130 (by decide) hf (fun hf => ?_) (fun hf => ?_)
      · refine j_iinc X (y := l3 + 1) (lv' := [(3, bz_i (l3 + 1)), (0, bz_rf E 81), (1, bz_i l1), (2, bz_i l2)]) dM_papers_218 0 rfl rfl (by decide) rfl ?_
        refine j_goto X (tgt := 115) dM_papers_221 (by decide) ?_
        exact ih _ _ hf
      · refine j_aload_n X dM_papers_133 rfl 1 rfl ?_
        refine j_geta X gf_M_62_81 dM_papers_134 ?_
        refine j_iload_n X dM_papers_137 rfl 0 rfl ?_
        refine j_iald X sh_99 dM_papers_138 hf (fun x19 hf => ?_)
        refine j_iload_n X dM_papers_139 rfl 3 rfl ?_
        refine j_icmp_ne X (tgt := 218) rfl rfl dM_papers_140 (by decide) hf (fun hf => ?_) (fun hf => ?_)
        · refine j_iinc X (y := l3 + 1) (lv' := [(3, bz_i (l3 + 1)), (0, bz_rf E 81), (1, bz_i l1), (2, bz_i l2)]) dM_papers_218 0 rfl rfl (by decide) rfl ?_
          refine j_goto X (tgt := 115) dM_papers_221 (by decide) ?_
          exact ih _ _ hf
        · refine j_aload_n X dM_papers_143 rfl 1 rfl ?_
          refine j_geta X gf_M_71_81 dM_papers_144 ?_
          refine j_iload_n X dM_papers_147 rfl 0 rfl ?_
          refine j_iald X sh_102 dM_papers_148 hf (fun x20 hf => ?_)
          refine j_aload_n X dM_papers_149 rfl 1 rfl ?_
          refine j_geti X gf_M_418_81 dM_papers_150 ?_
          refine j_icmp_le X (tgt := 159) rfl rfl dM_papers_153 (by decide) hf (fun hf => ?_) (fun hf => ?_)
          · refine j_aload_n X dM_papers_159 rfl 1 rfl ?_
            refine j_geta X gf_M_145_81 dM_papers_160 ?_
            refine j_iload_n X dM_papers_163 rfl 2 rfl ?_
            refine j_aald X sh_190 (by decide) (by decide) dM_papers_164 hf (fun i21 hi21 hf => ?_)
            refine j_aload_n X dM_papers_165 rfl 1 rfl ?_
            refine j_geta X gf_M_59_81 dM_papers_166 ?_
            refine j_iload_n X dM_papers_169 rfl 0 rfl ?_
            show bz_J _ _ 170 _ _ _
            refine j_iald X sh_98 dM_papers_170 hf (fun x22 hf => ?_)
            refine j_aload_n X dM_papers_171 rfl 1 rfl ?_
            refine j_geta X gf_M_145_81 dM_papers_172 ?_
            refine j_iload_n X dM_papers_175 rfl 2 rfl ?_
            refine j_aald X sh_190 (by decide) (by decide) dM_papers_176 hf (fun i23 hi23 hf => ?_)
            refine j_aload_n X dM_papers_177 rfl 1 rfl ?_
            refine j_geta X gf_M_59_81 dM_papers_178 ?_
            refine j_iload_n X dM_papers_181 rfl 0 rfl ?_
            show bz_J _ _ 182 _ _ _
            refine j_iald X sh_98 dM_papers_182 hf (fun x24 hf => ?_)
            refine j_lald X (sr_190 i23 hi23) dM_papers_183 hf (fun x25 hf => ?_)
            refine j_aload_n X dM_papers_184 rfl 1 rfl ?_
            refine j_geta X gf_M_65_81 dM_papers_185 ?_
            refine j_iload_n X dM_papers_188 rfl 0 rfl ?_
            refine j_iald X sh_100 dM_papers_189 hf (fun x26 hf => ?_)
            refine j_i2l X rfl dM_papers_190 ?_
            refine j_ladd X dM_papers_191 ?_
            show bz_J _ _ 192 _ _ _
            refine j_ldc2 X (v := -1000000) wd_1638 dM_papers_192 ?_
            refine j_ldc2 X (v := 1000000) wd_1639 dM_papers_195 ?_
            refine j_cs X (st := [bz_i x22, bz_rf E (191 + i21)]) (cM_near E) gyM_near wd_1554 rfl (by decide) (by decide) wd_1553 rfl (Nat.le_of_ble_eq_true rfl) dM_papers_198 ?_
            refine j_last X (sr_190 i21 hi21) dM_papers_201 hf (fun m27 hf => ?_)
            refine j_aload_n X dM_papers_202 rfl 1 rfl ?_
            refine j_geta X gf_M_137_81 dM_papers_203 ?_
            refine j_iload_n X dM_papers_206 rfl 2 rfl ?_
            refine j_dup2 X dM_papers_207 rfl rfl ?_
            show bz_J _ _ 208 _ _ _
            refine j_lald X sh_188 dM_papers_208 hf (fun x28 hf => ?_)
            refine j_aload_n X dM_papers_209 rfl 1 rfl ?_
            refine j_geta X gf_M_68_81 dM_papers_210 ?_
            refine j_iload_n X dM_papers_213 rfl 0 rfl ?_
            refine j_iald X sh_101 dM_papers_214 hf (fun x29 hf => ?_)
            refine j_i2l X rfl dM_papers_215 ?_
            refine j_ladd X dM_papers_216 ?_
            refine j_last X sh_188 dM_papers_217 hf (fun m30 hf => ?_)
            show bz_J _ _ 218 _ _ _
            refine j_iinc X (y := l3 + 1) (lv' := [(3, bz_i (l3 + 1)), (0, bz_rf E 81), (1, bz_i l1), (2, bz_i l2)]) dM_papers_218 0 rfl rfl (by decide) rfl ?_
            refine j_goto X (tgt := 115) dM_papers_221 (by decide) ?_
            exact ih _ _ hf
          · refine j_goto X (tgt := 218) dM_papers_156 (by decide) ?_
            refine j_iinc X (y := l3 + 1) (lv' := [(3, bz_i (l3 + 1)), (0, bz_rf E 81), (1, bz_i l1), (2, bz_i l2)]) dM_papers_218 0 rfl rfl (by decide) rfl ?_
            refine j_goto X (tgt := 115) dM_papers_221 (by decide) ?_
            exact ih _ _ hf
def fM_papers (F : Nat) (M : bz_Mm) (a1 : Int) (a2 : Int) : Option (bz_Mm) :=
  cl1_ (M_papers_L2 F F a1 a2 0 M) fun m7 =>
  cl1_ (M_papers_L55 F F a1 a2 0 m7) fun m17 =>
  cl1_ (M_papers_L115 F F a1 a2 0 m17) fun m31 =>
  some m31
set_option maxHeartbeats 4000000 in
set_option maxRecDepth 20000 in
theorem cM_papers (E : bz_E) (F : Nat)  {M : bz_Mm} {a1 : Int} {a2 : Int} {x0 : bz_Mm} (hf : fM_papers F M a1 a2 = some x0) : bz_Ct E yM_papers (.code yM_papers prog_14_method_49_code 4 none) 1 25 [bz_rf E 81, bz_i a1, bz_i a2] M (none) x0 := by
  refine bz_met (by decide +kernel) (Nat.le_of_ble_eq_true rfl) (fun K X => ?_)
  have X : bz_X K E prog_14_method_49_code 4 "UnitsWrongModel" none 1 25 _ _ := X
  unfold fM_papers at hf
  show bz_J K 4 0 [(0, bz_rf E 81), (1, bz_i a1), (2, bz_i a2)] [] M
  refine j_iconst X dM_papers_0 ?_
  refine j_istore_n X (lv' := [(3, bz_i 0), (0, bz_rf E 81), (1, bz_i a1), (2, bz_i a2)]) dM_papers_1 rfl (by decide) rfl ?_
  obtain ⟨res34, hz34, hk34⟩ := q_l1 hf
  clear hf
  refine lM_papers_L2 E F X (fun m7 he => ?_) F 0 M hz34
  have hf := hk34 _ he
  refine j_iconst X dM_papers_53 ?_
  refine j_istore_n X (lv' := [(3, bz_i 0), (0, bz_rf E 81), (1, bz_i a1), (2, bz_i a2)]) dM_papers_54 rfl (by decide) rfl ?_
  obtain ⟨res33, hz33, hk33⟩ := q_l1 hf
  clear hf
  refine lM_papers_L55 E F X (fun m17 he => ?_) F 0 m7 hz33
  have hf := hk33 _ he
  refine j_iconst X dM_papers_113 ?_
  refine j_istore_n X (lv' := [(3, bz_i 0), (0, bz_rf E 81), (1, bz_i a1), (2, bz_i a2)]) dM_papers_114 rfl (by decide) rfl ?_
  obtain ⟨res32, hz32, hk32⟩ := q_l1 hf
  clear hf
  refine lM_papers_L115 E F X (fun m31 he => ?_) F 0 m17 hz32
  have hf := hk32 _ he
  cases hf
  exact j_vret X dM_papers_224 rfl rfl
def M_feeds1_L2 (F : Nat) : Nat → Int → Int → Int → bz_Mm → Option (bz_Mm)
  | 0, _, _, _, _ => none
  | n + 1, l1, l2, l3, M =>
    if w32 l3 < w32 (M 81 35) then
    (rd_ M 103 l3 200 fun x1 =>
    if w32 x1 = w32 (16 + l1) then
    (rd_ M 106 l3 200 fun x2 =>
    if w32 x2 = w32 l2 then
    (rd_ M 188 l1 4 fun x3 =>
    rd_ M 105 l3 200 fun x4 =>
    if 0 < w32 x4 then
    (rd_ M 189 l3 200 fun x7 =>
    wa_ M 188 l1 4 (x3 + (-x7)) fun m8 =>
    M_feeds1_L2 F n l1 l2 (l3 + 1) m8)
    else
    (rd_ M 189 l3 200 fun x5 =>
    wa_ M 188 l1 4 (x3 + x5) fun m6 =>
    M_feeds1_L2 F n l1 l2 (l3 + 1) m6))
    else
    (M_feeds1_L2 F n l1 l2 (l3 + 1) M))
    else
    (M_feeds1_L2 F n l1 l2 (l3 + 1) M))
    else
    (some M)
theorem lM_feeds1_L2 (E : bz_E) (F : Nat) {K : bz_K} {rv : Option Value} {M1 : bz_Mm} (X : bz_X K E prog_14_method_50_code 4 "UnitsWrongModel" none 0 0 rv M1) {l1 : Int} {l2 : Int} {res : (bz_Mm)}
    (kx : ∀ (M : bz_Mm), some M = some res → bz_J K 4 76 [] [] M) :
    ∀ (n : Nat) (l3 : Int) (M : bz_Mm), M_feeds1_L2 F n l1 l2 l3 M = some res → bz_J K 4 2 [(3, bz_i l3), (0, bz_rf E 81), (1, bz_i l1), (2, bz_i l2)] [] M := by
  intro n
  induction n with
  | zero => intro l3 M hf; cases hf
  | succ n ih =>
    intro l3 M hf
    rw [M_feeds1_L2] at hf
    refine j_iload_n X dM_feeds1_2 rfl 0 rfl ?_
    refine j_aload_n X dM_feeds1_3 rfl 1 rfl ?_
    refine j_geti X gf_M_302_81 dM_feeds1_4 ?_
    refine j_icmp_ge X (tgt := 76) rfl rfl dM_feeds1_7 (by decide) hf (fun hf => ?_) (fun hf => ?_)
    · exact j_sub [] rfl (kx _ hf)
    · refine j_aload_n X dM_feeds1_10 rfl 1 rfl ?_
      refine j_geta X gf_M_74_81 dM_feeds1_11 ?_
      refine j_iload_n X dM_feeds1_14 rfl 0 rfl ?_
      refine j_iald X sh_103 dM_feeds1_15 hf (fun x1 hf => ?_)
      refine j_bipush X dM_feeds1_16 rfl ?_
      refine j_iload_n X dM_feeds1_18 rfl 2 rfl ?_
      refine j_iadd X dM_feeds1_19 ?_
      show bz_J _ _ 20 _ _ _
      refine j_icmp_ne X (tgt := 70) rfl rfl dM_feeds1_20 (by decide) hf (fun hf => ?_) (fun hf => ?_)
      · refine j_iinc X (y := l3 + 1) (lv' := [(3, bz_i (l3 + 1)), (0, bz_rf E 81), (1, bz_i l1), (2, bz_i l2)]) dM_feeds1_70 0 rfl rfl (by decide) rfl ?_
        refine j_goto X (tgt := 2) dM_feeds1_73 (by decide) ?_
        exact ih _ _ hf
      · refine j_aload_n X dM_feeds1_23 rfl 1 rfl ?_
        refine j_geta X gf_M_83_81 dM_feeds1_24 ?_
        refine j_iload_n X dM_feeds1_27 rfl 0 rfl ?_
        refine j_iald X sh_106 dM_feeds1_28 hf (fun x2 hf => ?_)
        refine j_iload_n X dM_feeds1_29 rfl 3 rfl ?_
        refine j_icmp_eq X (tgt := 36) rfl rfl dM_feeds1_30 (by decide) hf (fun hf => ?_) (fun hf => ?_)
        · refine j_aload_n X dM_feeds1_36 rfl 1 rfl ?_
          refine j_geta X gf_M_137_81 dM_feeds1_37 ?_
          refine j_iload_n X dM_feeds1_40 rfl 2 rfl ?_
          refine j_dup2 X dM_feeds1_41 rfl rfl ?_
          refine j_lald X sh_188 dM_feeds1_42 hf (fun x3 hf => ?_)
          refine j_aload_n X dM_feeds1_43 rfl 1 rfl ?_
          refine j_geta X gf_M_80_81 dM_feeds1_44 ?_
          show bz_J _ _ 47 _ _ _
          refine j_iload_n X dM_feeds1_47 rfl 0 rfl ?_
          refine j_iald X sh_105 dM_feeds1_48 hf (fun x4 hf => ?_)
          refine j_if_le X (tgt := 62) rfl dM_feeds1_49 (by decide) hf (fun hf => ?_) (fun hf => ?_)
          · refine j_aload_n X dM_feeds1_62 rfl 1 rfl ?_
            refine j_geta X gf_M_140_81 dM_feeds1_63 ?_
            refine j_iload_n X dM_feeds1_66 rfl 0 rfl ?_
            refine j_lald X sh_189 dM_feeds1_67 hf (fun x5 hf => ?_)
            refine j_ladd X dM_feeds1_68 ?_
            refine j_last X sh_188 dM_feeds1_69 hf (fun m6 hf => ?_)
            refine j_iinc X (y := l3 + 1) (lv' := [(3, bz_i (l3 + 1)), (0, bz_rf E 81), (1, bz_i l1), (2, bz_i l2)]) dM_feeds1_70 0 rfl rfl (by decide) rfl ?_
            show bz_J _ _ 73 _ _ _
            refine j_goto X (tgt := 2) dM_feeds1_73 (by decide) ?_
            exact ih _ _ hf
          · refine j_aload_n X dM_feeds1_52 rfl 1 rfl ?_
            refine j_geta X gf_M_140_81 dM_feeds1_53 ?_
            refine j_iload_n X dM_feeds1_56 rfl 0 rfl ?_
            refine j_lald X sh_189 dM_feeds1_57 hf (fun x7 hf => ?_)
            refine j_lneg X dM_feeds1_58 ?_
            refine j_goto X (tgt := 68) dM_feeds1_59 (by decide) ?_
            refine j_ladd X dM_feeds1_68 ?_
            show bz_J _ _ 69 _ _ _
            refine j_last X sh_188 dM_feeds1_69 hf (fun m8 hf => ?_)
            refine j_iinc X (y := l3 + 1) (lv' := [(3, bz_i (l3 + 1)), (0, bz_rf E 81), (1, bz_i l1), (2, bz_i l2)]) dM_feeds1_70 0 rfl rfl (by decide) rfl ?_
            refine j_goto X (tgt := 2) dM_feeds1_73 (by decide) ?_
            exact ih _ _ hf
        · refine j_goto X (tgt := 70) dM_feeds1_33 (by decide) ?_
          refine j_iinc X (y := l3 + 1) (lv' := [(3, bz_i (l3 + 1)), (0, bz_rf E 81), (1, bz_i l1), (2, bz_i l2)]) dM_feeds1_70 0 rfl rfl (by decide) rfl ?_
          refine j_goto X (tgt := 2) dM_feeds1_73 (by decide) ?_
          exact ih _ _ hf
def fM_feeds1 (F : Nat) (M : bz_Mm) (a1 : Int) (a2 : Int) : Option (bz_Mm) :=
  cl1_ (M_feeds1_L2 F F a1 a2 0 M) fun m9 =>
  some m9
set_option maxHeartbeats 4000000 in
set_option maxRecDepth 20000 in
theorem cM_feeds1 (E : bz_E) (F : Nat)  {M : bz_Mm} {a1 : Int} {a2 : Int} {x0 : bz_Mm} (hf : fM_feeds1 F M a1 a2 = some x0) : bz_Ct E yM_feeds1 (.code yM_feeds1 prog_14_method_50_code 4 none) 0 0 [bz_rf E 81, bz_i a1, bz_i a2] M (none) x0 := by
  refine bz_met (by decide +kernel) (Nat.le_of_ble_eq_true rfl) (fun K X => ?_)
  have X : bz_X K E prog_14_method_50_code 4 "UnitsWrongModel" none 0 0 _ _ := X
  unfold fM_feeds1 at hf
  show bz_J K 4 0 [(0, bz_rf E 81), (1, bz_i a1), (2, bz_i a2)] [] M
  refine j_iconst X dM_feeds1_0 ?_
  refine j_istore_n X (lv' := [(3, bz_i 0), (0, bz_rf E 81), (1, bz_i a1), (2, bz_i a2)]) dM_feeds1_1 rfl (by decide) rfl ?_
  obtain ⟨res10, hz10, hk10⟩ := q_l1 hf
  clear hf
  refine lM_feeds1_L2 E F X (fun m9 he => ?_) F 0 M hz10
  have hf := hk10 _ he
  cases hf
  exact j_vret X dM_feeds1_76 rfl rfl
def M_assets_L10 (F : Nat) : Nat → bz_Mm → Int → Int → Int → Int → Option (Int)
  | 0, _, _, _, _, _ => none
  | n + 1, M, l1, l2, l5, l3 =>
    if w32 l5 < 8 then
    (ra_ l1 4 fun i2 =>
    rd_ M (191 + i2) l5 8 fun x3 =>
    ra_ l5 8 fun i4 =>
    rd_ M (158 + i4) l2 260 fun x5 =>
    rd_ M 92 l5 8 fun x6 =>
    ra_ x6 3 fun i7 =>
    rd_ M (167 + i7) l2 260 fun x8 =>
    lt_ (l3 + ((w64 ((x3 * (w32 x5)) * (w32 x8))).tdiv 1000)) fun l3 =>
    M_assets_L10 F n M l1 l2 (l5 + 1) l3)
    else
    (some l3)
def M_assets_L69 (F : Nat) : Nat → bz_Mm → Int → Int → Int → Int → Option (Int)
  | 0, _, _, _, _, _ => none
  | n + 1, M, l1, l2, l5, l3 =>
    if w32 l5 < w32 l1 then
    (ra_ l5 4 fun i9 =>
    rd_ M (206 + i9) (16 + l1) 20 fun x10 =>
    ra_ l5 4 fun i11 =>
    rd_ M (196 + i11) l2 260 fun x12 =>
    lt_ (l3 + ((w64 (x10 * x12)).tdiv 100)) fun l3 =>
    M_assets_L69 F n M l1 l2 (l5 + 1) l3)
    else
    (some l3)
theorem lM_assets_L10 (E : bz_E) (F : Nat) {K : bz_K} {rv : Option Value} {M1 : bz_Mm} (X : bz_X K E prog_14_method_51_code 6 "UnitsWrongModel" (some .long) 0 0 rv M1) {M : bz_Mm} {l1 : Int} {l2 : Int} {res : (Int)}
    (kx : ∀ (l3 : Int), some l3 = some res → bz_J K 6 66 [(3, bz_l l3), (0, bz_rf E 81), (1, bz_i l1), (2, bz_i l2)] [] M) :
    ∀ (n : Nat) (l5 : Int) (l3 : Int), M_assets_L10 F n M l1 l2 l5 l3 = some res → bz_J K 6 10 [(5, bz_i l5), (3, bz_l l3), (0, bz_rf E 81), (1, bz_i l1), (2, bz_i l2)] [] M := by
  intro n
  induction n with
  | zero => intro l5 l3 hf; cases hf
  | succ n ih =>
    intro l5 l3 hf
    rw [M_assets_L10] at hf
    refine j_iload X dM_assets_10 0 rfl ?_
    refine j_bipush X dM_assets_12 rfl ?_
    refine j_icmp_ge X (tgt := 66) rfl (w32_lit rfl) dM_assets_14 (by decide) hf (fun hf => ?_) (fun hf => ?_)
    · exact j_sub [1, 2, 3, 4] rfl (kx _ hf)
    · refine j_lload_n X dM_assets_17 rfl 1 rfl ?_
      refine j_aload_n X dM_assets_18 rfl 2 rfl ?_
      refine j_geta X gf_M_145_81 dM_assets_19 ?_
      refine j_iload_n X dM_assets_22 rfl 3 rfl ?_
      refine j_aald X sh_190 (by decide) (by decide) dM_assets_23 hf (fun i2 hi2 hf => ?_)
      refine j_iload X dM_assets_24 0 rfl ?_
      refine j_lald X (sr_190 i2 hi2) dM_assets_26 hf (fun x3 hf => ?_)
      show bz_J _ _ 27 _ _ _
      refine j_aload_n X dM_assets_27 rfl 2 rfl ?_
      refine j_geta X gf_M_125_81 dM_assets_28 ?_
      refine j_iload X dM_assets_31 0 rfl ?_
      refine j_aald X sh_157 (by decide) (by decide) dM_assets_33 hf (fun i4 hi4 hf => ?_)
      refine j_iload_n X dM_assets_34 rfl 4 rfl ?_
      refine j_iald X (sr_157 i4 hi4) dM_assets_35 hf (fun x5 hf => ?_)
      refine j_i2l X rfl dM_assets_36 ?_
      refine j_lmul X dM_assets_37 ?_
      show bz_J _ _ 38 _ _ _
      refine j_aload_n X dM_assets_38 rfl 2 rfl ?_
      refine j_geta X gf_M_128_81 dM_assets_39 ?_
      refine j_aload_n X dM_assets_42 rfl 2 rfl ?_
      refine j_geta X gf_M_41_81 dM_assets_43 ?_
      refine j_iload X dM_assets_46 0 rfl ?_
      refine j_iald X sh_92 dM_assets_48 hf (fun x6 hf => ?_)
      refine j_aald X sh_166 (by decide) (by decide) dM_assets_49 hf (fun i7 hi7 hf => ?_)
      refine j_iload_n X dM_assets_50 rfl 4 rfl ?_
      show bz_J _ _ 51 _ _ _
      refine j_iald X (sr_166 i7 hi7) dM_assets_51 hf (fun x8 hf => ?_)
      refine j_i2l X rfl dM_assets_52 ?_
      refine j_lmul X dM_assets_53 ?_
      refine j_ldc2 X (v := 1000) wd_1434 dM_assets_54 ?_
      refine j_ldl X (w64_lit rfl) (by decide) dM_assets_57 ?_
      refine j_ladd X dM_assets_58 ?_
      refine j_lt (g := bz_l) hf (fun l3 hf => ?_)
      refine j_lstore_n X (lv' := [(3, bz_l l3), (5, bz_i l5), (0, bz_rf E 81), (1, bz_i l1), (2, bz_i l2)]) dM_assets_59 rfl (by decide) rfl ?_
      refine j_iinc X (y := l5 + 1) (lv' := [(5, bz_i (l5 + 1)), (3, bz_l l3), (0, bz_rf E 81), (1, bz_i l1), (2, bz_i l2)]) dM_assets_60 1 rfl rfl (by decide) rfl ?_
      show bz_J _ _ 63 _ _ _
      refine j_goto X (tgt := 10) dM_assets_63 (by decide) ?_
      exact ih _ _ hf
theorem lM_assets_L69 (E : bz_E) (F : Nat) {K : bz_K} {rv : Option Value} {M1 : bz_Mm} (X : bz_X K E prog_14_method_51_code 6 "UnitsWrongModel" (some .long) 0 0 rv M1) {M : bz_Mm} {l1 : Int} {l2 : Int} {res : (Int)}
    (kx : ∀ (l3 : Int), some l3 = some res → bz_J K 6 110 [(3, bz_l l3)] [] M) :
    ∀ (n : Nat) (l5 : Int) (l3 : Int), M_assets_L69 F n M l1 l2 l5 l3 = some res → bz_J K 6 69 [(5, bz_i l5), (3, bz_l l3), (0, bz_rf E 81), (1, bz_i l1), (2, bz_i l2)] [] M := by
  intro n
  induction n with
  | zero => intro l5 l3 hf; cases hf
  | succ n ih =>
    intro l5 l3 hf
    rw [M_assets_L69] at hf
    refine j_iload X dM_assets_69 0 rfl ?_
    refine j_iload_n X dM_assets_71 rfl 3 rfl ?_
    refine j_icmp_ge X (tgt := 110) rfl rfl dM_assets_72 (by decide) hf (fun hf => ?_) (fun hf => ?_)
    · exact j_sub [1] rfl (kx _ hf)
    · refine j_lload_n X dM_assets_75 rfl 1 rfl ?_
      refine j_aload_n X dM_assets_76 rfl 2 rfl ?_
      refine j_geta X gf_M_154_81 dM_assets_77 ?_
      refine j_iload X dM_assets_80 0 rfl ?_
      refine j_aald X sh_205 (by decide) (by decide) dM_assets_82 hf (fun i9 hi9 hf => ?_)
      refine j_bipush X dM_assets_83 rfl ?_
      refine j_iload_n X dM_assets_85 rfl 3 rfl ?_
      show bz_J _ _ 86 _ _ _
      refine j_iadd X dM_assets_86 ?_
      refine j_lald X (sr_205 i9 hi9) dM_assets_87 hf (fun x10 hf => ?_)
      refine j_aload_n X dM_assets_88 rfl 2 rfl ?_
      refine j_geta X gf_M_148_81 dM_assets_89 ?_
      refine j_iload X dM_assets_92 0 rfl ?_
      refine j_aald X sh_195 (by decide) (by decide) dM_assets_94 hf (fun i11 hi11 hf => ?_)
      refine j_iload_n X dM_assets_95 rfl 4 rfl ?_
      refine j_lald X (sr_195 i11 hi11) dM_assets_96 hf (fun x12 hf => ?_)
      show bz_J _ _ 97 _ _ _
      refine j_lmul X dM_assets_97 ?_
      refine j_ldc2 X (v := 100) wd_1435 dM_assets_98 ?_
      refine j_ldl X (w64_lit rfl) (by decide) dM_assets_101 ?_
      refine j_ladd X dM_assets_102 ?_
      refine j_lt (g := bz_l) hf (fun l3 hf => ?_)
      refine j_lstore_n X (lv' := [(3, bz_l l3), (5, bz_i l5), (0, bz_rf E 81), (1, bz_i l1), (2, bz_i l2)]) dM_assets_103 rfl (by decide) rfl ?_
      refine j_iinc X (y := l5 + 1) (lv' := [(5, bz_i (l5 + 1)), (3, bz_l l3), (0, bz_rf E 81), (1, bz_i l1), (2, bz_i l2)]) dM_assets_104 1 rfl rfl (by decide) rfl ?_
      refine j_goto X (tgt := 69) dM_assets_107 (by decide) ?_
      exact ih _ _ hf
def fM_assets (F : Nat) (M : bz_Mm) (a1 : Int) (a2 : Int) : Option (Int) :=
  rd_ M 188 a1 4 fun x1 =>
  cl1_ (M_assets_L10 F F M a1 a2 0 x1) fun l3 =>
  cl1_ (M_assets_L69 F F M a1 a2 0 l3) fun l3 =>
  some l3
set_option maxHeartbeats 4000000 in
set_option maxRecDepth 20000 in
theorem cM_assets (E : bz_E) (F : Nat)  {M : bz_Mm} {a1 : Int} {a2 : Int} {x0 : Int} (hf : fM_assets F M a1 a2 = some x0) : bz_Ct E yM_assets (.code yM_assets prog_14_method_51_code 6 (some .long)) 0 0 [bz_rf E 81, bz_i a1, bz_i a2] M (some (bz_l x0)) M := by
  refine bz_met (by decide +kernel) (Nat.le_of_ble_eq_true rfl) (fun K X => ?_)
  have X : bz_X K E prog_14_method_51_code 6 "UnitsWrongModel" (some .long) 0 0 _ _ := X
  unfold fM_assets at hf
  show bz_J K 6 0 [(0, bz_rf E 81), (1, bz_i a1), (2, bz_i a2)] [] M
  refine j_aload_n X dM_assets_0 rfl 0 rfl ?_
  refine j_geta X gf_M_137_81 dM_assets_1 ?_
  refine j_iload_n X dM_assets_4 rfl 1 rfl ?_
  refine j_lald X sh_188 dM_assets_5 hf (fun x1 hf => ?_)
  refine j_lstore_n X (lv' := [(3, bz_l x1), (0, bz_rf E 81), (1, bz_i a1), (2, bz_i a2)]) dM_assets_6 rfl (by decide) rfl ?_
  refine j_iconst X dM_assets_7 ?_
  refine j_istore X (lv' := [(5, bz_i 0), (3, bz_l x1), (0, bz_rf E 81), (1, bz_i a1), (2, bz_i a2)]) dM_assets_8 (by decide) rfl ?_
  obtain ⟨res14, hz14, hk14⟩ := q_l1 hf
  clear hf
  refine lM_assets_L10 E F X (fun l3 he => ?_) F 0 x1 hz14
  have hf := hk14 _ he
  refine j_iconst X dM_assets_66 ?_
  refine j_istore X (lv' := [(5, bz_i 0), (3, bz_l l3), (0, bz_rf E 81), (1, bz_i a1), (2, bz_i a2)]) dM_assets_67 (by decide) rfl ?_
  obtain ⟨res13, hz13, hk13⟩ := q_l1 hf
  clear hf
  refine lM_assets_L69 E F X (fun l3 he => ?_) F 0 l3 hz13
  have hf := hk13 _ he
  refine j_lload_n X dM_assets_110 rfl 0 rfl ?_
  cases hf
  exact j_lret X dM_assets_111 rfl rfl
def fM_dealtOf (F : Nat) (M : bz_Mm) (a1 : Int) (a2 : Int) (a3 : Int) : Option (Int) :=
  if w32 a2 = 0 then
  (rd_ M 107 a1 200 fun x4 =>
  some (w32 x4))
  else
  (rd_ M 105 a1 200 fun x1 =>
  if 0 < w32 x1 then
  (rd_ M 105 a1 200 fun x3 =>
  some (w32 x3))
  else
  (rd_ M 105 a1 200 fun x2 =>
  some (-(fM_near (w32 (-x2)) 0 a3))))
set_option maxHeartbeats 4000000 in
set_option maxRecDepth 20000 in
theorem cM_dealtOf (E : bz_E) (F : Nat)  {M : bz_Mm} {a1 : Int} {a2 : Int} {a3 : Int} {x0 : Int} (hf : fM_dealtOf F M a1 a2 a3 = some x0) : bz_Ct E yM_dealtOf (.code yM_dealtOf prog_14_method_52_code 5 (some .long)) 1 25 [bz_rf E 81, bz_i a1, bz_i a2, bz_l a3] M (some (bz_l x0)) M := by
  refine bz_met (by decide +kernel) (Nat.le_of_ble_eq_true rfl) (fun K X => ?_)
  have X : bz_X K E prog_14_method_52_code 5 "UnitsWrongModel" (some .long) 1 25 _ _ := X
  unfold fM_dealtOf at hf
  show bz_J K 5 0 [(0, bz_rf E 81), (1, bz_i a1), (2, bz_i a2), (3, bz_l a3)] [] M
  refine j_iload_n X dM_dealtOf_0 rfl 2 rfl ?_
  refine j_if_ne X (tgt := 12) rfl dM_dealtOf_1 (by decide) hf (fun hf => ?_) (fun hf => ?_)
  · refine j_aload_n X dM_dealtOf_12 rfl 0 rfl ?_
    refine j_geta X gf_M_80_81 dM_dealtOf_13 ?_
    refine j_iload_n X dM_dealtOf_16 rfl 1 rfl ?_
    refine j_iald X sh_105 dM_dealtOf_17 hf (fun x1 hf => ?_)
    refine j_if_le X (tgt := 31) rfl dM_dealtOf_18 (by decide) hf (fun hf => ?_) (fun hf => ?_)
    · refine j_aload_n X dM_dealtOf_31 rfl 0 rfl ?_
      refine j_geta X gf_M_80_81 dM_dealtOf_32 ?_
      refine j_iload_n X dM_dealtOf_35 rfl 1 rfl ?_
      refine j_iald X sh_105 dM_dealtOf_36 hf (fun x2 hf => ?_)
      refine j_ineg X dM_dealtOf_37 ?_
      refine j_i2l X rfl dM_dealtOf_38 ?_
      refine j_lconst X (v := 0) dM_dealtOf_39 rfl ?_
      show bz_J _ _ 40 _ _ _
      refine j_lload_n X dM_dealtOf_40 rfl 3 rfl ?_
      refine j_cs X (st := []) (cM_near E) gyM_near wd_1554 rfl (by decide) (by decide) wd_1553 rfl (Nat.le_of_ble_eq_true rfl) dM_dealtOf_41 ?_
      refine j_lneg X dM_dealtOf_44 ?_
      cases hf
      exact j_lret X dM_dealtOf_45 rfl rfl
    · refine j_aload_n X dM_dealtOf_21 rfl 0 rfl ?_
      refine j_geta X gf_M_80_81 dM_dealtOf_22 ?_
      refine j_iload_n X dM_dealtOf_25 rfl 1 rfl ?_
      refine j_iald X sh_105 dM_dealtOf_26 hf (fun x3 hf => ?_)
      refine j_i2l X rfl dM_dealtOf_27 ?_
      refine j_goto X (tgt := 45) dM_dealtOf_28 (by decide) ?_
      cases hf
      exact j_lret X dM_dealtOf_45 rfl rfl
  · refine j_aload_n X dM_dealtOf_4 rfl 0 rfl ?_
    refine j_geta X gf_M_86_81 dM_dealtOf_5 ?_
    refine j_iload_n X dM_dealtOf_8 rfl 1 rfl ?_
    refine j_iald X sh_107 dM_dealtOf_9 hf (fun x4 hf => ?_)
    refine j_i2l X rfl dM_dealtOf_10 ?_
    cases hf
    exact j_lret X dM_dealtOf_11 rfl rfl
def M_flow_L6 (F : Nat) : Nat → Int → Int → Int → Int → Int → bz_Mm → Option (bz_Mm)
  | 0, _, _, _, _, _, _ => none
  | n + 1, l4, l1, l2, l3, l6, M =>
    if w32 l6 < 20 then
    (ra_ l1 4 fun i1 =>
    rd_ M (206 + i1) l6 20 fun x2 =>
    wa_ M 222 l6 20 x2 fun m3 =>
    M_flow_L6 F n l4 l1 l2 l3 (l6 + 1) m3)
    else
    (some M)
def M_flow_L38 (F : Nat) : Nat → Int → Int → Int → Int → Int → bz_Mm → Option (Int × bz_Mm)
  | 0, _, _, _, _, _, _ => none
  | n + 1, l1, l2, l3, l6, l4, M =>
    if w32 l6 < w32 (M 81 35) then
    (rd_ M 104 l6 200 fun x5 =>
    if w32 x5 = w32 l1 then
    (rd_ M 106 l6 200 fun x6 =>
    if w32 x6 = w32 l2 then
    (rd_ M 103 l6 200 fun x7 =>
    rd_ M 222 x7 20 fun x8 =>
    cl_ (fM_dealtOf F M l6 l3 x8) fun x9 =>
    rd_ M 103 l6 200 fun x10 =>
    rd_ M 222 x10 20 fun x11 =>
    wa_ M 222 x10 20 (x11 + x9) fun m12 =>
    lt_ (l4 + x9) fun l4 =>
    M_flow_L38 F n l1 l2 l3 (l6 + 1) l4 m12)
    else
    (M_flow_L38 F n l1 l2 l3 (l6 + 1) l4 M))
    else
    (M_flow_L38 F n l1 l2 l3 (l6 + 1) l4 M))
    else
    (some (l4, M))
theorem lM_flow_L6 (E : bz_E) (F : Nat) {K : bz_K} {rv : Option Value} {M1 : bz_Mm} (X : bz_X K E prog_14_method_53_code 9 "UnitsWrongModel" (some .long) 2 49 rv M1) {l4 : Int} {l1 : Int} {l2 : Int} {l3 : Int} {res : (bz_Mm)}
    (kx : ∀ (M : bz_Mm), some M = some res → bz_J K 9 35 [(4, bz_l l4), (0, bz_rf E 81), (1, bz_i l1), (2, bz_i l2), (3, bz_i l3)] [] M) :
    ∀ (n : Nat) (l6 : Int) (M : bz_Mm), M_flow_L6 F n l4 l1 l2 l3 l6 M = some res → bz_J K 9 6 [(6, bz_i l6), (4, bz_l l4), (0, bz_rf E 81), (1, bz_i l1), (2, bz_i l2), (3, bz_i l3)] [] M := by
  intro n
  induction n with
  | zero => intro l6 M hf; cases hf
  | succ n ih =>
    intro l6 M hf
    rw [M_flow_L6] at hf
    refine j_iload X dM_flow_6 0 rfl ?_
    refine j_bipush X dM_flow_8 rfl ?_
    refine j_icmp_ge X (tgt := 35) rfl (w32_lit rfl) dM_flow_10 (by decide) hf (fun hf => ?_) (fun hf => ?_)
    · exact j_sub [1, 2, 3, 4, 5] rfl (kx _ hf)
    · refine j_aload_n X dM_flow_13 rfl 2 rfl ?_
      refine j_geta X gf_M_169_81 dM_flow_14 ?_
      refine j_iload X dM_flow_17 0 rfl ?_
      refine j_aload_n X dM_flow_19 rfl 2 rfl ?_
      refine j_geta X gf_M_154_81 dM_flow_20 ?_
      refine j_iload_n X dM_flow_23 rfl 3 rfl ?_
      refine j_aald X sh_205 (by decide) (by decide) dM_flow_24 hf (fun i1 hi1 hf => ?_)
      show bz_J _ _ 25 _ _ _
      refine j_iload X dM_flow_25 0 rfl ?_
      refine j_lald X (sr_205 i1 hi1) dM_flow_27 hf (fun x2 hf => ?_)
      refine j_last X sh_222 dM_flow_28 hf (fun m3 hf => ?_)
      refine j_iinc X (y := l6 + 1) (lv' := [(6, bz_i (l6 + 1)), (4, bz_l l4), (0, bz_rf E 81), (1, bz_i l1), (2, bz_i l2), (3, bz_i l3)]) dM_flow_29 0 rfl rfl (by decide) rfl ?_
      refine j_goto X (tgt := 6) dM_flow_32 (by decide) ?_
      exact ih _ _ hf
theorem lM_flow_L38 (E : bz_E) (F : Nat) {K : bz_K} {rv : Option Value} {M1 : bz_Mm} (X : bz_X K E prog_14_method_53_code 9 "UnitsWrongModel" (some .long) 2 49 rv M1) {l1 : Int} {l2 : Int} {l3 : Int} {res : (Int × bz_Mm)}
    (kx : ∀ (l4 : Int) (M : bz_Mm), some (l4, M) = some res → bz_J K 9 123 [(4, bz_l l4)] [] M) :
    ∀ (n : Nat) (l6 : Int) (l4 : Int) (M : bz_Mm), M_flow_L38 F n l1 l2 l3 l6 l4 M = some res → bz_J K 9 38 [(6, bz_i l6), (4, bz_l l4), (0, bz_rf E 81), (1, bz_i l1), (2, bz_i l2), (3, bz_i l3)] [] M := by
  intro n
  induction n with
  | zero => intro l6 l4 M hf; cases hf
  | succ n ih =>
    intro l6 l4 M hf
    rw [M_flow_L38] at hf
    refine j_iload X dM_flow_38 0 rfl ?_
    refine j_aload_n X dM_flow_40 rfl 2 rfl ?_
    refine j_geti X gf_M_302_81 dM_flow_41 ?_
    refine j_icmp_ge X (tgt := 123) rfl rfl dM_flow_44 (by decide) hf (fun hf => ?_) (fun hf => ?_)
    · exact j_sub [1] rfl (kx _ _ hf)
    · refine j_aload_n X dM_flow_47 rfl 2 rfl ?_
      refine j_geta X gf_M_77_81 dM_flow_48 ?_
      refine j_iload X dM_flow_51 0 rfl ?_
      refine j_iald X sh_104 dM_flow_53 hf (fun x5 hf => ?_)
      refine j_iload_n X dM_flow_54 rfl 3 rfl ?_
      refine j_icmp_ne X (tgt := 117) rfl rfl dM_flow_55 (by decide) hf (fun hf => ?_) (fun hf => ?_)
      · refine j_iinc X (y := l6 + 1) (lv' := [(6, bz_i (l6 + 1)), (4, bz_l l4), (0, bz_rf E 81), (1, bz_i l1), (2, bz_i l2), (3, bz_i l3)]) dM_flow_117 0 rfl rfl (by decide) rfl ?_
        refine j_goto X (tgt := 38) dM_flow_120 (by decide) ?_
        exact ih _ _ _ hf
      · refine j_aload_n X dM_flow_58 rfl 2 rfl ?_
        refine j_geta X gf_M_83_81 dM_flow_59 ?_
        refine j_iload X dM_flow_62 0 rfl ?_
        refine j_iald X sh_106 dM_flow_64 hf (fun x6 hf => ?_)
        refine j_iload_n X dM_flow_65 rfl 4 rfl ?_
        refine j_icmp_eq X (tgt := 72) rfl rfl dM_flow_66 (by decide) hf (fun hf => ?_) (fun hf => ?_)
        · refine j_aload_n X dM_flow_72 rfl 2 rfl ?_
          refine j_iload X dM_flow_73 0 rfl ?_
          refine j_iload_n X dM_flow_75 rfl 5 rfl ?_
          refine j_aload_n X dM_flow_76 rfl 2 rfl ?_
          refine j_geta X gf_M_169_81 dM_flow_77 ?_
          refine j_aload_n X dM_flow_80 rfl 2 rfl ?_
          refine j_geta X gf_M_74_81 dM_flow_81 ?_
          show bz_J _ _ 84 _ _ _
          refine j_iload X dM_flow_84 0 rfl ?_
          refine j_iald X sh_103 dM_flow_86 hf (fun x7 hf => ?_)
          refine j_lald X sh_222 dM_flow_87 hf (fun x8 hf => ?_)
          obtain ⟨x9, hzx9, hf⟩ := q_cl hf
          refine j_cv X (st := []) (cM_dealtOf E F hzx9) gyM_dealtOf gv_M_dealtOf_81 rfl (by decide) (by decide) wd_1657 rfl (Nat.le_of_ble_eq_true rfl) dM_flow_88 ?_
          refine j_lstore X (lv' := [(7, bz_l x9), (6, bz_i l6), (4, bz_l l4), (0, bz_rf E 81), (1, bz_i l1), (2, bz_i l2), (3, bz_i l3)]) dM_flow_91 (by decide) rfl ?_
          refine j_aload_n X dM_flow_93 rfl 3 rfl ?_
          refine j_geta X gf_M_169_81 dM_flow_94 ?_
          refine j_aload_n X dM_flow_97 rfl 3 rfl ?_
          show bz_J _ _ 98 _ _ _
          refine j_geta X gf_M_74_81 dM_flow_98 ?_
          refine j_iload X dM_flow_101 1 rfl ?_
          refine j_iald X sh_103 dM_flow_103 hf (fun x10 hf => ?_)
          refine j_dup2 X dM_flow_104 rfl rfl ?_
          refine j_lald X sh_222 dM_flow_105 hf (fun x11 hf => ?_)
          refine j_lload X dM_flow_106 0 rfl ?_
          refine j_ladd X dM_flow_108 ?_
          refine j_last X sh_222 dM_flow_109 hf (fun m12 hf => ?_)
          show bz_J _ _ 110 _ _ _
          refine j_lload X dM_flow_110 2 rfl ?_
          refine j_lload X dM_flow_112 0 rfl ?_
          refine j_ladd X dM_flow_114 ?_
          refine j_lt (g := bz_l) hf (fun l4 hf => ?_)
          refine j_lstore X (lv' := [(4, bz_l l4), (7, bz_l x9), (6, bz_i l6), (0, bz_rf E 81), (1, bz_i l1), (2, bz_i l2), (3, bz_i l3)]) dM_flow_115 (by decide) rfl ?_
          refine j_iinc X (y := l6 + 1) (lv' := [(6, bz_i (l6 + 1)), (4, bz_l l4), (7, bz_l x9), (0, bz_rf E 81), (1, bz_i l1), (2, bz_i l2), (3, bz_i l3)]) dM_flow_117 2 rfl rfl (by decide) rfl ?_
          refine j_goto X (tgt := 38) dM_flow_120 (by decide) ?_
          exact j_sub [0, 1, 3, 4, 5, 6] rfl (ih _ _ _ hf)
        · refine j_goto X (tgt := 117) dM_flow_69 (by decide) ?_
          refine j_iinc X (y := l6 + 1) (lv' := [(6, bz_i (l6 + 1)), (4, bz_l l4), (0, bz_rf E 81), (1, bz_i l1), (2, bz_i l2), (3, bz_i l3)]) dM_flow_117 0 rfl rfl (by decide) rfl ?_
          refine j_goto X (tgt := 38) dM_flow_120 (by decide) ?_
          exact ih _ _ _ hf
def fM_flow (F : Nat) (M : bz_Mm) (a1 : Int) (a2 : Int) (a3 : Int) : Option (Int × bz_Mm) :=
  cl1_ (M_flow_L6 F F 0 a1 a2 a3 0 M) fun m4 =>
  cl2_ (M_flow_L38 F F a1 a2 a3 0 0 m4) fun l4 m13 =>
  some ((l4, m13))
set_option maxHeartbeats 4000000 in
set_option maxRecDepth 20000 in
theorem cM_flow (E : bz_E) (F : Nat)  {M : bz_Mm} {a1 : Int} {a2 : Int} {a3 : Int} {x0 : Int × bz_Mm} (hf : fM_flow F M a1 a2 a3 = some x0) : bz_Ct E yM_flow (.code yM_flow prog_14_method_53_code 9 (some .long)) 2 49 [bz_rf E 81, bz_i a1, bz_i a2, bz_i a3] M (some (bz_l x0.1)) x0.2 := by
  refine bz_met (by decide +kernel) (Nat.le_of_ble_eq_true rfl) (fun K X => ?_)
  have X : bz_X K E prog_14_method_53_code 9 "UnitsWrongModel" (some .long) 2 49 _ _ := X
  unfold fM_flow at hf
  show bz_J K 9 0 [(0, bz_rf E 81), (1, bz_i a1), (2, bz_i a2), (3, bz_i a3)] [] M
  refine j_lconst X (v := 0) dM_flow_0 rfl ?_
  refine j_lstore X (lv' := [(4, bz_l 0), (0, bz_rf E 81), (1, bz_i a1), (2, bz_i a2), (3, bz_i a3)]) dM_flow_1 (by decide) rfl ?_
  refine j_iconst X dM_flow_3 ?_
  refine j_istore X (lv' := [(6, bz_i 0), (4, bz_l 0), (0, bz_rf E 81), (1, bz_i a1), (2, bz_i a2), (3, bz_i a3)]) dM_flow_4 (by decide) rfl ?_
  obtain ⟨res15, hz15, hk15⟩ := q_l1 hf
  clear hf
  refine lM_flow_L6 E F X (fun m4 he => ?_) F 0 M hz15
  have hf := hk15 _ he
  refine j_iconst X dM_flow_35 ?_
  refine j_istore X (lv' := [(6, bz_i 0), (4, bz_l 0), (0, bz_rf E 81), (1, bz_i a1), (2, bz_i a2), (3, bz_i a3)]) dM_flow_36 (by decide) rfl ?_
  obtain ⟨res14, hz14, hk14⟩ := q_l2 hf
  clear hf
  refine lM_flow_L38 E F X (fun l4 m13 he => ?_) F 0 0 m4 hz14
  have hf := hk14 _ _ he
  refine j_lload X dM_flow_123 0 rfl ?_
  cases hf
  exact j_lret X dM_flow_125 rfl rfl
def fM_swung (F : Nat) (M : bz_Mm) (a1 : Int) (a2 : Int) (a3 : Int) (a4 : Int) : Option (Int) :=
  cl1_ (if w64 a4 < 0 then
  (some (-a4))
  else
  (some (a4))) fun v2 =>
  cl_ (fM_ruleOf F M a1 a2 2) fun x3 =>
  rd_ M 210 a1 4 fun x4 =>
  if w64 ((w32 x3) * x4) < w64 (10000 * v2) then
  (cl1_ (if w64 a4 < 0 then
  (cl_ (fM_ruleOf F M a1 a2 1) fun x8 =>
  some (10000 - (w32 x8)))
  else
  (cl_ (fM_ruleOf F M a1 a2 1) fun x7 =>
  some (10000 + (w32 x7)))) fun v6 =>
  some (fM_near ((w64 (a3 * v6)).tdiv 10000) 0 10000000))
  else
  (some a3)
set_option maxHeartbeats 4000000 in
set_option maxRecDepth 20000 in
theorem cM_swung (E : bz_E) (F : Nat)  {M : bz_Mm} {a1 : Int} {a2 : Int} {a3 : Int} {a4 : Int} {x0 : Int} (hf : fM_swung F M a1 a2 a3 a4 = some x0) : bz_Ct E yM_swung (.code yM_swung prog_14_method_54_code 11 (some .long)) 1 25 [bz_rf E 81, bz_i a1, bz_i a2, bz_l a3, bz_l a4] M (some (bz_l x0)) M := by
  refine bz_met (by decide +kernel) (Nat.le_of_ble_eq_true rfl) (fun K X => ?_)
  have X : bz_X K E prog_14_method_54_code 11 "UnitsWrongModel" (some .long) 1 25 _ _ := X
  unfold fM_swung at hf
  show bz_J K 11 0 [(0, bz_rf E 81), (1, bz_i a1), (2, bz_i a2), (3, bz_l a3), (5, bz_l a4)] [] M
  refine j_lload X dM_swung_0 4 rfl ?_
  refine j_lconst X (v := 0) dM_swung_2 rfl ?_
  obtain ⟨resJ1, hf0, hkJ1⟩ := q_l1 hf
  have J1 : ∀ (v2 : Int), some v2 = some resJ1 → bz_J K 11 15 [(0, bz_rf E 81), (1, bz_i a1), (2, bz_i a2), (3, bz_l a3), (5, bz_l a4)] [bz_l v2] M := by
    intro v2 he
    have hf := hkJ1 _ he
    refine j_lstore X (lv' := [(7, bz_l v2), (0, bz_rf E 81), (1, bz_i a1), (2, bz_i a2), (3, bz_l a3), (5, bz_l a4)]) dM_swung_15 (by decide) rfl ?_
    refine j_ldc2 X (v := 10000) wd_1432 dM_swung_17 ?_
    refine j_lload X dM_swung_20 0 rfl ?_
    refine j_lmul X dM_swung_22 ?_
    refine j_aload_n X dM_swung_23 rfl 1 rfl ?_
    refine j_iload_n X dM_swung_24 rfl 2 rfl ?_
    refine j_iload_n X dM_swung_25 rfl 3 rfl ?_
    show bz_J _ _ 26 _ _ _
    refine j_iconst X dM_swung_26 ?_
    obtain ⟨x3, hzx3, hf⟩ := q_cl hf
    refine j_cv X (st := [bz_l (10000 * v2)]) (cM_ruleOf E F hzx3) gyM_ruleOf gv_M_ruleOf_81 rfl (by decide) (by decide) wd_1494 rfl (Nat.le_of_ble_eq_true rfl) dM_swung_27 ?_
    refine j_i2l X rfl dM_swung_30 ?_
    refine j_aload_n X dM_swung_31 rfl 1 rfl ?_
    refine j_geta X gf_M_157_81 dM_swung_32 ?_
    refine j_iload_n X dM_swung_35 rfl 2 rfl ?_
    refine j_lald X sh_210 dM_swung_36 hf (fun x4 hf => ?_)
    refine j_lmul X dM_swung_37 ?_
    show bz_J _ _ 38 _ _ _
    refine j_lcmp_gt X (tgt := 44) rfl rfl dM_swung_38 dM_swung_39 (by decide) hf (fun hf => ?_) (fun hf => ?_)
    · refine j_lload X dM_swung_44 5 rfl ?_
      refine j_lconst X (v := 0) dM_swung_46 rfl ?_
      obtain ⟨resJ5, hf0, hkJ5⟩ := q_l1 hf
      have J5 : ∀ (v6 : Int), some v6 = some resJ5 → bz_J K 11 78 [(3, bz_l a3)] [bz_l v6] M := by
        intro v6 he
        have hf := hkJ5 _ he
        refine j_lstore X (lv' := [(9, bz_l v6), (3, bz_l a3)]) dM_swung_78 (by decide) rfl ?_
        refine j_lload_n X dM_swung_80 rfl 1 rfl ?_
        refine j_lload X dM_swung_81 0 rfl ?_
        refine j_lmul X dM_swung_83 ?_
        refine j_ldc2 X (v := 10000) wd_1432 dM_swung_84 ?_
        refine j_ldl X (w64_lit rfl) (by decide) dM_swung_87 ?_
        refine j_lconst X (v := 0) dM_swung_88 rfl ?_
        show bz_J _ _ 89 _ _ _
        refine j_ldc2 X (v := 10000000) wd_1652 dM_swung_89 ?_
        refine j_cs X (st := []) (cM_near E) gyM_near wd_1554 rfl (by decide) (by decide) wd_1553 rfl (Nat.le_of_ble_eq_true rfl) dM_swung_92 ?_
        cases hf
        exact j_lret X dM_swung_95 rfl rfl
      clear hf
      have hf := hf0
      clear hf0
      refine j_lcmp_ge X (tgt := 66) rfl (w64_lit rfl) dM_swung_47 dM_swung_48 (by decide) hf (fun hf => ?_) (fun hf => ?_)
      · refine j_ldc2 X (v := 10000) wd_1432 dM_swung_66 ?_
        refine j_aload_n X dM_swung_69 rfl 1 rfl ?_
        refine j_iload_n X dM_swung_70 rfl 2 rfl ?_
        refine j_iload_n X dM_swung_71 rfl 3 rfl ?_
        refine j_iconst X dM_swung_72 ?_
        obtain ⟨x7, hzx7, hf⟩ := q_cl hf
        refine j_cv X (st := [bz_l 10000]) (cM_ruleOf E F hzx7) gyM_ruleOf gv_M_ruleOf_81 rfl (by decide) (by decide) wd_1494 rfl (Nat.le_of_ble_eq_true rfl) dM_swung_73 ?_
        refine j_i2l X rfl dM_swung_76 ?_
        show bz_J _ _ 77 _ _ _
        refine j_ladd X dM_swung_77 ?_
        exact j_sub [4] rfl (J5 _ hf)
      · refine j_ldc2 X (v := 10000) wd_1432 dM_swung_51 ?_
        refine j_aload_n X dM_swung_54 rfl 1 rfl ?_
        refine j_iload_n X dM_swung_55 rfl 2 rfl ?_
        refine j_iload_n X dM_swung_56 rfl 3 rfl ?_
        refine j_iconst X dM_swung_57 ?_
        obtain ⟨x8, hzx8, hf⟩ := q_cl hf
        refine j_cv X (st := [bz_l 10000]) (cM_ruleOf E F hzx8) gyM_ruleOf gv_M_ruleOf_81 rfl (by decide) (by decide) wd_1494 rfl (Nat.le_of_ble_eq_true rfl) dM_swung_58 ?_
        refine j_i2l X rfl dM_swung_61 ?_
        show bz_J _ _ 62 _ _ _
        refine j_lsub X dM_swung_62 ?_
        refine j_goto X (tgt := 78) dM_swung_63 (by decide) ?_
        exact j_sub [4] rfl (J5 _ hf)
    · refine j_lload_n X dM_swung_42 rfl 4 rfl ?_
      cases hf
      exact j_lret X dM_swung_43 rfl rfl
  clear hf
  have hf := hf0
  clear hf0
  refine j_lcmp_ge X (tgt := 13) rfl (w64_lit rfl) dM_swung_3 dM_swung_4 (by decide) hf (fun hf => ?_) (fun hf => ?_)
  · refine j_lload X dM_swung_13 4 rfl ?_
    exact J1 _ hf
  · refine j_lload X dM_swung_7 4 rfl ?_
    refine j_lneg X dM_swung_9 ?_
    refine j_goto X (tgt := 15) dM_swung_10 (by decide) ?_
    exact J1 _ hf
def fM_prices (F : Nat) (M : bz_Mm) (a1 : Int) (a2 : Int) (a3 : Int) : Option (bz_Mm) :=
  cl_ (fM_assets F M a1 a2) fun x1 =>
  cl1_ (if w64 x1 < 0 then
  (some (0))
  else
  (cl_ (fM_ruleOf F M a1 a2 0) fun x4 =>
  some ((w64 (x1 * (w32 x4))).tdiv 1000000))) fun v3 =>
  rd_ M 188 a1 4 fun x5 =>
  wa_ M 188 a1 4 (x5 - v3) fun m6 =>
  ra_ a1 4 fun i7 =>
  wa_ m6 (201 + i7) a2 260 v3 fun m8 =>
  rd_ m8 210 a1 4 fun x9 =>
  cl1_ (if w64 x9 = 0 then
  (some (10000))
  else
  (rd_ m8 210 a1 4 fun x12 =>
  dv_ ((x1 - v3) * 100) x12 fun x13 =>
  some (fM_near x13 0 10000000))) fun v11 =>
  ra_ a1 4 fun i14 =>
  cl2_ (fM_flow F m8 a1 a2 a3) fun x16 m15 =>
  cl_ (fM_swung F m15 a1 a2 v11 x16) fun x17 =>
  wa_ m15 (196 + i14) a2 260 x17 fun m18 =>
  some m18
set_option maxHeartbeats 4000000 in
set_option maxRecDepth 20000 in
theorem cM_prices (E : bz_E) (F : Nat)  {M : bz_Mm} {a1 : Int} {a2 : Int} {a3 : Int} {x0 : bz_Mm} (hf : fM_prices F M a1 a2 a3 = some x0) : bz_Ct E yM_prices (.code yM_prices prog_14_method_55_code 10 none) 3 77 [bz_rf E 81, bz_i a1, bz_i a2, bz_i a3] M (none) x0 := by
  refine bz_met (by decide +kernel) (Nat.le_of_ble_eq_true rfl) (fun K X => ?_)
  have X : bz_X K E prog_14_method_55_code 10 "UnitsWrongModel" none 3 77 _ _ := X
  unfold fM_prices at hf
  show bz_J K 10 0 [(0, bz_rf E 81), (1, bz_i a1), (2, bz_i a2), (3, bz_i a3)] [] M
  refine j_aload_n X dM_prices_0 rfl 0 rfl ?_
  refine j_iload_n X dM_prices_1 rfl 1 rfl ?_
  refine j_iload_n X dM_prices_2 rfl 2 rfl ?_
  obtain ⟨x1, hzx1, hf⟩ := q_cl hf
  refine j_cv X (st := []) (cM_assets E F hzx1) gyM_assets gv_M_assets_81 rfl (by decide) (by decide) wd_1648 rfl (Nat.le_of_ble_eq_true rfl) dM_prices_3 ?_
  refine j_lstore X (lv' := [(4, bz_l x1), (0, bz_rf E 81), (1, bz_i a1), (2, bz_i a2), (3, bz_i a3)]) dM_prices_6 (by decide) rfl ?_
  refine j_lload X dM_prices_8 0 rfl ?_
  refine j_lconst X (v := 0) dM_prices_10 rfl ?_
  show bz_J _ _ 11 _ _ _
  obtain ⟨resJ2, hf0, hkJ2⟩ := q_l1 hf
  have J2 : ∀ (v3 : Int), some v3 = some resJ2 → bz_J K 10 34 [(4, bz_l x1), (0, bz_rf E 81), (1, bz_i a1), (2, bz_i a2), (3, bz_i a3)] [bz_l v3] M := by
    intro v3 he
    have hf := hkJ2 _ he
    refine j_lstore X (lv' := [(6, bz_l v3), (4, bz_l x1), (0, bz_rf E 81), (1, bz_i a1), (2, bz_i a2), (3, bz_i a3)]) dM_prices_34 (by decide) rfl ?_
    refine j_aload_n X dM_prices_36 rfl 2 rfl ?_
    refine j_geta X gf_M_137_81 dM_prices_37 ?_
    refine j_iload_n X dM_prices_40 rfl 3 rfl ?_
    refine j_dup2 X dM_prices_41 rfl rfl ?_
    refine j_lald X sh_188 dM_prices_42 hf (fun x5 hf => ?_)
    refine j_lload X dM_prices_43 0 rfl ?_
    show bz_J _ _ 45 _ _ _
    refine j_lsub X dM_prices_45 ?_
    refine j_last X sh_188 dM_prices_46 hf (fun m6 hf => ?_)
    refine j_aload_n X dM_prices_47 rfl 2 rfl ?_
    refine j_geta X gf_M_151_81 dM_prices_48 ?_
    refine j_iload_n X dM_prices_51 rfl 3 rfl ?_
    refine j_aald X sh_200 (by decide) (by decide) dM_prices_52 hf (fun i7 hi7 hf => ?_)
    refine j_iload_n X dM_prices_53 rfl 4 rfl ?_
    refine j_lload X dM_prices_54 0 rfl ?_
    show bz_J _ _ 56 _ _ _
    refine j_last X (sr_200 i7 hi7) dM_prices_56 hf (fun m8 hf => ?_)
    refine j_aload_n X dM_prices_57 rfl 2 rfl ?_
    refine j_geta X gf_M_157_81 dM_prices_58 ?_
    refine j_iload_n X dM_prices_61 rfl 3 rfl ?_
    refine j_lald X sh_210 dM_prices_62 hf (fun x9 hf => ?_)
    refine j_lconst X (v := 0) dM_prices_63 rfl ?_
    obtain ⟨resJ10, hf0, hkJ10⟩ := q_l1 hf
    have J10 : ∀ (v11 : Int), some v11 = some resJ10 → bz_J K 10 97 [(0, bz_rf E 81), (1, bz_i a1), (2, bz_i a2), (3, bz_i a3)] [bz_l v11] m8 := by
      intro v11 he
      have hf := hkJ10 _ he
      refine j_lstore X (lv' := [(8, bz_l v11), (0, bz_rf E 81), (1, bz_i a1), (2, bz_i a2), (3, bz_i a3)]) dM_prices_97 (by decide) rfl ?_
      refine j_aload_n X dM_prices_99 rfl 1 rfl ?_
      refine j_geta X gf_M_148_81 dM_prices_100 ?_
      refine j_iload_n X dM_prices_103 rfl 2 rfl ?_
      refine j_aald X sh_195 (by decide) (by decide) dM_prices_104 hf (fun i14 hi14 hf => ?_)
      refine j_iload_n X dM_prices_105 rfl 3 rfl ?_
      refine j_aload_n X dM_prices_106 rfl 1 rfl ?_
      show bz_J _ _ 107 _ _ _
      refine j_iload_n X dM_prices_107 rfl 2 rfl ?_
      refine j_iload_n X dM_prices_108 rfl 3 rfl ?_
      refine j_lload X dM_prices_109 0 rfl ?_
      refine j_aload_n X dM_prices_111 rfl 1 rfl ?_
      refine j_iload_n X dM_prices_112 rfl 2 rfl ?_
      refine j_iload_n X dM_prices_113 rfl 3 rfl ?_
      refine j_iload_n X dM_prices_114 rfl 4 rfl ?_
      obtain ⟨x16, m15, hz, hf⟩ := q_cl2 hf
      refine j_cv X (st := [bz_l v11, bz_i a2, bz_i a1, bz_rf E 81, bz_i a2, bz_rf E (196 + i14)]) (cM_flow E F hz) gyM_flow gv_M_flow_81 rfl (by decide) (by decide) wd_1653 rfl (Nat.le_of_ble_eq_true rfl) dM_prices_115 ?_
      clear hz
      show bz_J _ _ 118 _ _ _
      obtain ⟨x17, hzx17, hf⟩ := q_cl hf
      refine j_cv X (st := [bz_i a2, bz_rf E (196 + i14)]) (cM_swung E F hzx17) gyM_swung gv_M_swung_81 rfl (by decide) (by decide) wd_1661 rfl (Nat.le_of_ble_eq_true rfl) dM_prices_118 ?_
      refine j_last X (sr_195 i14 hi14) dM_prices_121 hf (fun m18 hf => ?_)
      cases hf
      exact j_vret X dM_prices_122 rfl rfl
    clear hf
    have hf := hf0
    clear hf0
    refine j_lcmp_ne X (tgt := 74) rfl (w64_lit rfl) dM_prices_64 dM_prices_65 (by decide) hf (fun hf => ?_) (fun hf => ?_)
    · refine j_lload X dM_prices_74 1 rfl ?_
      refine j_lload X dM_prices_76 0 rfl ?_
      refine j_lsub X dM_prices_78 ?_
      refine j_ldc2 X (v := 100) wd_1435 dM_prices_79 ?_
      refine j_lmul X dM_prices_82 ?_
      refine j_aload_n X dM_prices_83 rfl 2 rfl ?_
      refine j_geta X gf_M_157_81 dM_prices_84 ?_
      show bz_J _ _ 87 _ _ _
      refine j_iload_n X dM_prices_87 rfl 3 rfl ?_
      refine j_lald X sh_210 dM_prices_88 hf (fun x12 hf => ?_)
      refine j_ldiv X dM_prices_89 hf (fun x13 hf => ?_)
      refine j_lconst X (v := 0) dM_prices_90 rfl ?_
      refine j_ldc2 X (v := 10000000) wd_1652 dM_prices_91 ?_
      refine j_cs X (st := []) (cM_near E) gyM_near wd_1554 rfl (by decide) (by decide) wd_1553 rfl (Nat.le_of_ble_eq_true rfl) dM_prices_94 ?_
      exact j_sub [2, 3, 4, 5] rfl (J10 _ hf)
    · refine j_ldc2 X (v := 10000) wd_1432 dM_prices_68 ?_
      refine j_goto X (tgt := 97) dM_prices_71 (by decide) ?_
      exact j_sub [2, 3, 4, 5] rfl (J10 _ hf)
  clear hf
  have hf := hf0
  clear hf0
  refine j_lcmp_ge X (tgt := 19) rfl (w64_lit rfl) dM_prices_11 dM_prices_12 (by decide) hf (fun hf => ?_) (fun hf => ?_)
  · refine j_lload X dM_prices_19 0 rfl ?_
    refine j_aload_n X dM_prices_21 rfl 1 rfl ?_
    refine j_iload_n X dM_prices_22 rfl 2 rfl ?_
    refine j_iload_n X dM_prices_23 rfl 3 rfl ?_
    refine j_iconst X dM_prices_24 ?_
    obtain ⟨x4, hzx4, hf⟩ := q_cl hf
    refine j_cv X (st := [bz_l x1]) (cM_ruleOf E F hzx4) gyM_ruleOf gv_M_ruleOf_81 rfl (by decide) (by decide) wd_1494 rfl (Nat.le_of_ble_eq_true rfl) dM_prices_25 ?_
    refine j_i2l X rfl dM_prices_28 ?_
    show bz_J _ _ 29 _ _ _
    refine j_lmul X dM_prices_29 ?_
    refine j_ldc2 X (v := 1000000) wd_1639 dM_prices_30 ?_
    refine j_ldl X (w64_lit rfl) (by decide) dM_prices_33 ?_
    exact J2 _ hf
  · refine j_lconst X (v := 0) dM_prices_15 rfl ?_
    refine j_goto X (tgt := 34) dM_prices_16 (by decide) ?_
    exact J2 _ hf
