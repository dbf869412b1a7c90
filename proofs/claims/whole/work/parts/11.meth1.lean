def gUS_latestKnown (M : bz_Mm) : Option Int :=
  some (fJM_min0 (M 1 13) 259)
def fUS_latestKnown (M : bz_Mm) : Int :=
  (fJM_min0 (M 1 13) 259)
theorem tUS_latestKnown (M : bz_Mm) : gUS_latestKnown M = some (fUS_latestKnown M) := by
  unfold gUS_latestKnown fUS_latestKnown
  (repeat' (first | rfl | split))
set_option maxHeartbeats 4000000 in
set_option maxRecDepth 20000 in
theorem cUS_latestKnown (E : bz_E) {M : bz_Mm} : bz_Ct E yUS_latestKnown (.code yUS_latestKnown prog_9_method_9_code 1 (some .int)) 1 21 [bz_rf E 1] M (some (bz_i (fUS_latestKnown M))) M := by
  have hf := tUS_latestKnown M
  refine bz_met (by decide +kernel) (Nat.le_of_ble_eq_true rfl) (fun K X => ?_)
  have X : bz_X K E prog_9_method_9_code 1 "UnitsWrong$State" (some .int) 1 21 _ _ := X
  unfold gUS_latestKnown at hf
  generalize fUS_latestKnown M = rr at hf X
  show bz_J K 1 0 [(0, bz_rf E 1)] [] M
  refine j_aload_n X dUS_latestKnown_0 rfl 0 rfl ?_
  refine j_geti X gf_US_97_1 dUS_latestKnown_1 ?_
  refine j_sipush X dUS_latestKnown_4 rfl ?_
  refine j_cs X (st := []) (cJM_min0 E) gyJM_min0 wd_665 rfl (by decide) (by decide) wd_806 rfl (Nat.le_of_ble_eq_true rfl) dUS_latestKnown_7 ?_
  cases hf
  exact j_iret X dUS_latestKnown_10 rfl rfl
def fU_units (F : Nat) (M : bz_Mm) (a1 : Int) (a2 : Int) : Option (Int) :=
  if w32 (fUS_isWho M a1 a2) = 0 then
  (some ((-1)))
  else
  (rd_ M 43 ((a1 * 4) + a2) 96 fun x1 =>
  some x1)
set_option maxHeartbeats 4000000 in
set_option maxRecDepth 20000 in
theorem cU_units (E : bz_E) (F : Nat)  {M : bz_Mm} {a1 : Int} {a2 : Int} {x0 : Int} (hf : fU_units F M a1 a2 = some x0) : bz_Ct E yU_units (.code yU_units prog_1_method_23_code 3 (some .int)) 2 43 [bz_rf E 0, bz_i a1, bz_i a2] M (some (bz_i x0)) M := by
  refine bz_met (by decide +kernel) (Nat.le_of_ble_eq_true rfl) (fun K X => ?_)
  have X : bz_X K E prog_1_method_23_code 3 "UnitsWrong" (some .int) 2 43 _ _ := X
  unfold fU_units at hf
  show bz_J K 3 0 [(0, bz_rf E 0), (1, bz_i a1), (2, bz_i a2)] [] M
  refine j_aload_n X dU_units_0 rfl 0 rfl ?_
  refine j_geta X gf_U_10_0 dU_units_1 ?_
  refine j_iload_n X dU_units_4 rfl 1 rfl ?_
  refine j_iload_n X dU_units_5 rfl 2 rfl ?_
  refine j_cv X (st := []) (cUS_isWho E) gyUS_isWho gv_US_isWho_1 rfl (by decide) (by decide) wd_600 rfl (Nat.le_of_ble_eq_true rfl) dU_units_6 ?_
  refine j_if_eq X (tgt := 31) rfl dU_units_9 (by decide) hf (fun hf => ?_) (fun hf => ?_)
  · refine j_iconst X dU_units_31 ?_
    cases hf
    exact j_iret X dU_units_32 rfl rfl
  · refine j_aload_n X dU_units_12 rfl 0 rfl ?_
    refine j_geta X gf_U_10_0 dU_units_13 ?_
    refine j_geta X gf_U_155_1 dU_units_16 ?_
    refine j_geta X gf_U_237_33 dU_units_19 ?_
    refine j_iload_n X dU_units_22 rfl 1 rfl ?_
    refine j_iconst X dU_units_23 ?_
    refine j_imul X dU_units_24 ?_
    show bz_J _ _ 25 _ _ _
    refine j_iload_n X dU_units_25 rfl 2 rfl ?_
    refine j_iadd X dU_units_26 ?_
    refine j_iald X sh_43 dU_units_27 hf (fun x1 hf => ?_)
    refine j_goto X (tgt := 32) dU_units_28 (by decide) ?_
    cases hf
    exact j_iret X dU_units_32 rfl rfl
def gJM_min1 (a0 : Int) (a1 : Int) : Option Int :=
  if w64 a1 < w64 a0 then
  (some a1)
  else
  (some a0)
def fJM_min1 (a0 : Int) (a1 : Int) : Int :=
  if w64 a1 < w64 a0 then
  (a1)
  else
  (a0)
theorem tJM_min1 (a0 : Int) (a1 : Int) : gJM_min1 a0 a1 = some (fJM_min1 a0 a1) := by
  unfold gJM_min1 fJM_min1
  (repeat' (first | rfl | split))
set_option maxHeartbeats 4000000 in
set_option maxRecDepth 20000 in
theorem cJM_min1 (E : bz_E) {M : bz_Mm} {a0 : Int} {a1 : Int} : bz_Ct E yJM_min1 (.code yJM_min1 prog_16_method_70_code 4 (some .long)) 0 0 [bz_l a0, bz_l a1] M (some (bz_l (fJM_min1 a0 a1))) M := by
  have hf := tJM_min1 a0 a1
  refine bz_metF (by decide +kernel) (Nat.le_of_ble_eq_true rfl) (fun K X => ?_)
  have X : bz_X K E prog_16_method_70_code 4 "java/lang/Math" (some .long) 0 0 _ _ := X
  unfold gJM_min1 at hf
  generalize fJM_min1 a0 a1 = rr at hf X
  show bz_J K 4 0 [(0, bz_l a0), (2, bz_l a1)] [] M
  refine j_lload_n X dJM_min1_0 rfl 0 rfl ?_
  refine j_lload_n X dJM_min1_1 rfl 1 rfl ?_
  refine j_lcmp_gt X (tgt := 10) rfl rfl dJM_min1_2 dJM_min1_3 (by decide) hf (fun hf => ?_) (fun hf => ?_)
  · refine j_lload_n X dJM_min1_10 rfl 1 rfl ?_
    cases hf
    exact j_lret X dJM_min1_11 rfl rfl
  · refine j_lload_n X dJM_min1_6 rfl 0 rfl ?_
    refine j_goto X (tgt := 11) dJM_min1_7 (by decide) ?_
    cases hf
    exact j_lret X dJM_min1_11 rfl rfl
def gJM_max1 (a0 : Int) (a1 : Int) : Option Int :=
  if w64 a0 < w64 a1 then
  (some a1)
  else
  (some a0)
def fJM_max1 (a0 : Int) (a1 : Int) : Int :=
  if w64 a0 < w64 a1 then
  (a1)
  else
  (a0)
theorem tJM_max1 (a0 : Int) (a1 : Int) : gJM_max1 a0 a1 = some (fJM_max1 a0 a1) := by
  unfold gJM_max1 fJM_max1
  (repeat' (first | rfl | split))
set_option maxHeartbeats 4000000 in
set_option maxRecDepth 20000 in
theorem cJM_max1 (E : bz_E) {M : bz_Mm} {a0 : Int} {a1 : Int} : bz_Ct E yJM_max1 (.code yJM_max1 prog_16_method_66_code 4 (some .long)) 0 0 [bz_l a0, bz_l a1] M (some (bz_l (fJM_max1 a0 a1))) M := by
  have hf := tJM_max1 a0 a1
  refine bz_metF (by decide +kernel) (Nat.le_of_ble_eq_true rfl) (fun K X => ?_)
  have X : bz_X K E prog_16_method_66_code 4 "java/lang/Math" (some .long) 0 0 _ _ := X
  unfold gJM_max1 at hf
  generalize fJM_max1 a0 a1 = rr at hf X
  show bz_J K 4 0 [(0, bz_l a0), (2, bz_l a1)] [] M
  refine j_lload_n X dJM_max1_0 rfl 0 rfl ?_
  refine j_lload_n X dJM_max1_1 rfl 1 rfl ?_
  refine j_lcmp_lt X (tgt := 10) rfl rfl dJM_max1_2 dJM_max1_3 (by decide) hf (fun hf => ?_) (fun hf => ?_)
  · refine j_lload_n X dJM_max1_10 rfl 1 rfl ?_
    cases hf
    exact j_lret X dJM_max1_11 rfl rfl
  · refine j_lload_n X dJM_max1_6 rfl 0 rfl ?_
    refine j_goto X (tgt := 11) dJM_max1_7 (by decide) ?_
    cases hf
    exact j_lret X dJM_max1_11 rfl rfl
def gU_told (a0 : Int) : Option Int :=
  some (fJM_max1 ((-2000000000)) (fJM_min1 2000000000 a0))
def fU_told (a0 : Int) : Int :=
  (fJM_max1 ((-2000000000)) (fJM_min1 2000000000 a0))
theorem tU_told (a0 : Int) : gU_told a0 = some (fU_told a0) := by
  unfold gU_told fU_told
  (repeat' (first | rfl | split))
set_option maxHeartbeats 4000000 in
set_option maxRecDepth 20000 in
theorem cU_told (E : bz_E) {M : bz_Mm} {a0 : Int} : bz_Ct E yU_told (.code yU_told prog_1_method_47_code 2 (some .int)) 1 23 [bz_l a0] M (some (bz_i (fU_told a0))) M := by
  have hf := tU_told a0
  refine bz_met (by decide +kernel) (Nat.le_of_ble_eq_true rfl) (fun K X => ?_)
  have X : bz_X K E prog_1_method_47_code 2 "UnitsWrong" (some .int) 1 23 _ _ := X
  unfold gU_told at hf
  generalize fU_told a0 = rr at hf X
  show bz_J K 2 0 [(0, bz_l a0)] [] M
  refine j_ldc2 X (v := -2000000000) wd_927 dU_told_0 ?_
  refine j_ldc2 X (v := 2000000000) wd_928 dU_told_3 ?_
  refine j_lload_n X dU_told_6 rfl 0 rfl ?_
  refine j_cs X (st := [bz_l ((-2000000000))]) (cJM_min1 E) gyJM_min1 wd_838 rfl (by decide) (by decide) wd_929 rfl (Nat.le_of_ble_eq_true rfl) dU_told_7 ?_
  refine j_cs X (st := []) (cJM_max1 E) gyJM_max1 wd_841 rfl (by decide) (by decide) wd_930 rfl (Nat.le_of_ble_eq_true rfl) dU_told_10 ?_
  refine j_l2i X dU_told_13 ?_
  cases hf
  exact j_iret X dU_told_14 rfl rfl
def fU_gone (F : Nat) (M : bz_Mm) (a1 : Int) : Option (Int × bz_Mm) :=
  if w32 (fUS_isHolder M a1) = 0 then
  (some ((0, M)))
  else
  (rd_ M 5 a1 16 fun x1 =>
  if w32 x1 = (-1) then
  (wa_ M 5 a1 16 (M 1 13) fun m2 =>
  some ((1, m2)))
  else
  (some ((0, M))))
set_option maxHeartbeats 4000000 in
set_option maxRecDepth 20000 in
theorem cU_gone (E : bz_E) (F : Nat)  {M : bz_Mm} {a1 : Int} {x0 : Int × bz_Mm} (hf : fU_gone F M a1 = some x0) : bz_Ct E yU_gone (.code yU_gone prog_1_method_28_code 2 (some .boolean)) 1 21 [bz_rf E 0, bz_i a1] M (some (bz_i x0.1)) x0.2 := by
  refine bz_met (by decide +kernel) (Nat.le_of_ble_eq_true rfl) (fun K X => ?_)
  have X : bz_X K E prog_1_method_28_code 2 "UnitsWrong" (some .boolean) 1 21 _ _ := X
  unfold fU_gone at hf
  show bz_J K 2 0 [(0, bz_rf E 0), (1, bz_i a1)] [] M
  refine j_aload_n X dU_gone_0 rfl 0 rfl ?_
  refine j_geta X gf_U_10_0 dU_gone_1 ?_
  refine j_iload_n X dU_gone_4 rfl 1 rfl ?_
  refine j_cv X (st := []) (cUS_isHolder E) gyUS_isHolder gv_US_isHolder_1 rfl (by decide) (by decide) wd_1024 rfl (Nat.le_of_ble_eq_true rfl) dU_gone_5 ?_
  refine j_if_eq X (tgt := 24) rfl dU_gone_8 (by decide) hf (fun hf => ?_) (fun hf => ?_)
  · refine j_iconst X dU_gone_24 ?_
    cases hf
    exact j_zret X (by decide +kernel) dU_gone_25 rfl rfl
  · refine j_aload_n X dU_gone_11 rfl 0 rfl ?_
    refine j_geta X gf_U_10_0 dU_gone_12 ?_
    refine j_geta X gf_U_290_1 dU_gone_15 ?_
    refine j_iload_n X dU_gone_18 rfl 1 rfl ?_
    refine j_iald X sh_5 dU_gone_19 hf (fun x1 hf => ?_)
    refine j_iconst X dU_gone_20 ?_
    refine j_icmp_eq X (tgt := 26) rfl (w32_lit rfl) dU_gone_21 (by decide) hf (fun hf => ?_) (fun hf => ?_)
    · refine j_aload_n X dU_gone_26 rfl 0 rfl ?_
      refine j_geta X gf_U_10_0 dU_gone_27 ?_
      refine j_geta X gf_U_290_1 dU_gone_30 ?_
      refine j_iload_n X dU_gone_33 rfl 1 rfl ?_
      refine j_aload_n X dU_gone_34 rfl 0 rfl ?_
      refine j_geta X gf_U_10_0 dU_gone_35 ?_
      refine j_geti X gf_U_51_1 dU_gone_38 ?_
      show bz_J _ _ 41 _ _ _
      refine j_iast X sh_5 dU_gone_41 hf (fun m2 hf => ?_)
      refine j_iconst X dU_gone_42 ?_
      cases hf
      exact j_zret X (by decide +kernel) dU_gone_43 rfl rfl
    · refine j_iconst X dU_gone_24 ?_
      cases hf
      exact j_zret X (by decide +kernel) dU_gone_25 rfl rfl
def fU_found (F : Nat) (M : bz_Mm) (a1 : Int) : Option (Int × bz_Mm) :=
  if w32 (fUS_isFund M a1) = 0 then
  (some ((0, M)))
  else
  (rd_ M 3 a1 4 fun x1 =>
  if w32 x1 = (-1) then
  (if w32 (M 1 13) < 260 then
  (wa_ M 3 a1 4 (M 1 13) fun m2 =>
  some ((1, m2)))
  else
  (some ((0, M))))
  else
  (some ((0, M))))
set_option maxHeartbeats 4000000 in
set_option maxRecDepth 20000 in
theorem cU_found (E : bz_E) (F : Nat)  {M : bz_Mm} {a1 : Int} {x0 : Int × bz_Mm} (hf : fU_found F M a1 = some x0) : bz_Ct E yU_found (.code yU_found prog_1_method_29_code 2 (some .boolean)) 1 21 [bz_rf E 0, bz_i a1] M (some (bz_i x0.1)) x0.2 := by
  refine bz_met (by decide +kernel) (Nat.le_of_ble_eq_true rfl) (fun K X => ?_)
  have X : bz_X K E prog_1_method_29_code 2 "UnitsWrong" (some .boolean) 1 21 _ _ := X
  unfold fU_found at hf
  show bz_J K 2 0 [(0, bz_rf E 0), (1, bz_i a1)] [] M
  refine j_aload_n X dU_found_0 rfl 0 rfl ?_
  refine j_geta X gf_U_10_0 dU_found_1 ?_
  refine j_iload_n X dU_found_4 rfl 1 rfl ?_
  refine j_cv X (st := []) (cUS_isFund E) gyUS_isFund gv_US_isFund_1 rfl (by decide) (by decide) wd_584 rfl (Nat.le_of_ble_eq_true rfl) dU_found_5 ?_
  refine j_if_eq X (tgt := 37) rfl dU_found_8 (by decide) hf (fun hf => ?_) (fun hf => ?_)
  · refine j_iconst X dU_found_37 ?_
    cases hf
    exact j_zret X (by decide +kernel) dU_found_38 rfl rfl
  · refine j_aload_n X dU_found_11 rfl 0 rfl ?_
    refine j_geta X gf_U_10_0 dU_found_12 ?_
    refine j_geta X gf_U_293_1 dU_found_15 ?_
    refine j_iload_n X dU_found_18 rfl 1 rfl ?_
    refine j_iald X sh_3 dU_found_19 hf (fun x1 hf => ?_)
    refine j_iconst X dU_found_20 ?_
    refine j_icmp_ne X (tgt := 37) rfl (w32_lit rfl) dU_found_21 (by decide) hf (fun hf => ?_) (fun hf => ?_)
    · refine j_iconst X dU_found_37 ?_
      cases hf
      exact j_zret X (by decide +kernel) dU_found_38 rfl rfl
    · refine j_aload_n X dU_found_24 rfl 0 rfl ?_
      refine j_geta X gf_U_10_0 dU_found_25 ?_
      refine j_geti X gf_U_51_1 dU_found_28 ?_
      refine j_sipush X dU_found_31 rfl ?_
      refine j_icmp_lt X (tgt := 39) rfl (w32_lit rfl) dU_found_34 (by decide) hf (fun hf => ?_) (fun hf => ?_)
      · refine j_aload_n X dU_found_39 rfl 0 rfl ?_
        refine j_geta X gf_U_10_0 dU_found_40 ?_
        refine j_geta X gf_U_293_1 dU_found_43 ?_
        refine j_iload_n X dU_found_46 rfl 1 rfl ?_
        refine j_aload_n X dU_found_47 rfl 0 rfl ?_
        refine j_geta X gf_U_10_0 dU_found_48 ?_
        refine j_geti X gf_U_51_1 dU_found_51 ?_
        show bz_J _ _ 54 _ _ _
        refine j_iast X sh_3 dU_found_54 hf (fun m2 hf => ?_)
        refine j_iconst X dU_found_55 ?_
        cases hf
        exact j_zret X (by decide +kernel) dU_found_56 rfl rfl
      · refine j_iconst X dU_found_37 ?_
        cases hf
        exact j_zret X (by decide +kernel) dU_found_38 rfl rfl
def U_due_L54 (F : Nat) : Nat → bz_Mm → Int → Int → Option (Int)
  | 0, _, _, _ => none
  | n + 1, M, l4, l2 =>
    if 0 < w32 l4 then
    (if w32 l2 = (-1) then
    (some l2)
    else
    (cl_ (fUS_openBehind F M l2) fun x4 =>
    U_due_L54 F n M (l4 + (-1)) x4))
    else
    (some l2)
theorem lU_due_L54 (E : bz_E) (F : Nat) {K : bz_K} {rv : Option Value} {M1 : bz_Mm} (X : bz_X K E prog_1_method_30_code 5 "UnitsWrong" (some .int) 3 63 rv M1) {M : bz_Mm} {res : (Int)}
    (kx : ∀ (l2 : Int), some l2 = some res → bz_J K 5 79 [(2, bz_i l2)] [] M) :
    ∀ (n : Nat) (l4 : Int) (l2 : Int), U_due_L54 F n M l4 l2 = some res → bz_J K 5 54 [(4, bz_i l4), (2, bz_i l2), (0, bz_rf E 0)] [] M := by
  intro n
  induction n with
  | zero => intro l4 l2 hf; cases hf
  | succ n ih =>
    intro l4 l2 hf
    rw [U_due_L54] at hf
    refine j_iload X dU_due_54 0 rfl ?_
    refine j_if_le X (tgt := 79) rfl dU_due_56 (by decide) hf (fun hf => ?_) (fun hf => ?_)
    · exact j_sub [1] rfl (kx _ hf)
    · refine j_iload_n X dU_due_59 rfl 1 rfl ?_
      refine j_iconst X dU_due_60 ?_
      refine j_icmp_eq X (tgt := 79) rfl (w32_lit rfl) dU_due_61 (by decide) hf (fun hf => ?_) (fun hf => ?_)
      · exact j_sub [1] rfl (kx _ hf)
      · refine j_aload_n X dU_due_64 rfl 2 rfl ?_
        refine j_geta X gf_U_10_0 dU_due_65 ?_
        refine j_iload_n X dU_due_68 rfl 1 rfl ?_
        obtain ⟨x4, hzx4, hf⟩ := q_cl hf
        refine j_cv X (st := []) (cUS_openBehind E F hzx4) gyUS_openBehind gv_US_openBehind_1 rfl (by decide) (by decide) wd_1033 rfl (Nat.le_of_ble_eq_true rfl) dU_due_69 ?_
        refine j_istore_n X (lv' := [(2, bz_i x4), (4, bz_i l4), (0, bz_rf E 0)]) dU_due_72 rfl (by decide) rfl ?_
        refine j_iinc X (y := l4 + (-1)) (lv' := [(4, bz_i (l4 + (-1))), (2, bz_i x4), (0, bz_rf E 0)]) dU_due_73 1 rfl rfl (by decide) rfl ?_
        refine j_goto X (tgt := 54) dU_due_76 (by decide) ?_
        exact ih _ _ hf
def fU_due (F : Nat) (M : bz_Mm) (a1 : Int) : Option (Int) :=
  if w32 (fUS_isFund M a1) = 0 then
  (some ((-1)))
  else
  (rd_ M 3 a1 4 fun x1 =>
  if w32 x1 = (-1) then
  (some ((-1)))
  else
  (rd_ M 3 a1 4 fun x2 =>
  cl_ (fUL_value F M a1 x2 11) fun x3 =>
  cl1_ (U_due_L54 F F M x3 x2) fun l2 =>
  some l2))
set_option maxHeartbeats 4000000 in
set_option maxRecDepth 20000 in
theorem cU_due (E : bz_E) (F : Nat)  {M : bz_Mm} {a1 : Int} {x0 : Int} (hf : fU_due F M a1 = some x0) : bz_Ct E yU_due (.code yU_due prog_1_method_30_code 5 (some .int)) 3 63 [bz_rf E 0, bz_i a1] M (some (bz_i x0)) M := by
  refine bz_met (by decide +kernel) (Nat.le_of_ble_eq_true rfl) (fun K X => ?_)
  have X : bz_X K E prog_1_method_30_code 5 "UnitsWrong" (some .int) 3 63 _ _ := X
  unfold fU_due at hf
  show bz_J K 5 0 [(0, bz_rf E 0), (1, bz_i a1)] [] M
  refine j_aload_n X dU_due_0 rfl 0 rfl ?_
  refine j_geta X gf_U_10_0 dU_due_1 ?_
  refine j_iload_n X dU_due_4 rfl 1 rfl ?_
  refine j_cv X (st := []) (cUS_isFund E) gyUS_isFund gv_US_isFund_1 rfl (by decide) (by decide) wd_584 rfl (Nat.le_of_ble_eq_true rfl) dU_due_5 ?_
  refine j_if_eq X (tgt := 24) rfl dU_due_8 (by decide) hf (fun hf => ?_) (fun hf => ?_)
  · refine j_iconst X dU_due_24 ?_
    cases hf
    exact j_iret X dU_due_25 rfl rfl
  · refine j_aload_n X dU_due_11 rfl 0 rfl ?_
    refine j_geta X gf_U_10_0 dU_due_12 ?_
    refine j_geta X gf_U_293_1 dU_due_15 ?_
    refine j_iload_n X dU_due_18 rfl 1 rfl ?_
    refine j_iald X sh_3 dU_due_19 hf (fun x1 hf => ?_)
    refine j_iconst X dU_due_20 ?_
    refine j_icmp_ne X (tgt := 26) rfl (w32_lit rfl) dU_due_21 (by decide) hf (fun hf => ?_) (fun hf => ?_)
    · refine j_aload_n X dU_due_26 rfl 0 rfl ?_
      refine j_geta X gf_U_10_0 dU_due_27 ?_
      refine j_geta X gf_U_293_1 dU_due_30 ?_
      refine j_iload_n X dU_due_33 rfl 1 rfl ?_
      refine j_iald X sh_3 dU_due_34 hf (fun x2 hf => ?_)
      refine j_istore_n X (lv' := [(2, bz_i x2), (0, bz_rf E 0), (1, bz_i a1)]) dU_due_35 rfl (by decide) rfl ?_
      refine j_aload_n X dU_due_36 rfl 1 rfl ?_
      show bz_J _ _ 37 _ _ _
      refine j_geta X gf_U_10_0 dU_due_37 ?_
      refine j_geta X gf_U_173_1 dU_due_40 ?_
      refine j_iload_n X dU_due_43 rfl 2 rfl ?_
      refine j_iload_n X dU_due_44 rfl 0 rfl ?_
      refine j_bipush X dU_due_45 rfl ?_
      obtain ⟨x3, hzx3, hf⟩ := q_cl hf
      refine j_cv X (st := []) (cUL_value E F hzx3) gyUL_value gv_UL_value_45 rfl (by decide) (by decide) wd_776 rfl (Nat.le_of_ble_eq_true rfl) dU_due_47 ?_
      refine j_istore_n X (lv' := [(3, bz_i x3), (2, bz_i x2), (0, bz_rf E 0), (1, bz_i a1)]) dU_due_50 rfl (by decide) rfl ?_
      refine j_iload_n X dU_due_51 rfl 0 rfl ?_
      show bz_J _ _ 52 _ _ _
      refine j_istore X (lv' := [(4, bz_i x3), (3, bz_i x3), (2, bz_i x2), (0, bz_rf E 0), (1, bz_i a1)]) dU_due_52 (by decide) rfl ?_
      obtain ⟨res5, hz5, hk5⟩ := q_l1 hf
      clear hf
      refine j_sub [0, 2, 3] rfl ?_
      refine lU_due_L54 E F X (fun l2 he => ?_) F x3 x2 hz5
      have hf := hk5 _ he
      refine j_iload_n X dU_due_79 rfl 0 rfl ?_
      cases hf
      exact j_iret X dU_due_80 rfl rfl
    · refine j_iconst X dU_due_24 ?_
      cases hf
      exact j_iret X dU_due_25 rfl rfl
def fUA_add (F : Nat) (M : bz_Mm) (a1 : Int) (a2 : Int) (a3 : Int) : Option (Int × bz_Mm) :=
  if w32 (M 77 3) < 8 then
  (wa_ M 78 (M 77 3) 8 a1 fun m1 =>
  wa_ m1 79 (m1 77 3) 8 a2 fun m2 =>
  wa_ m2 80 (m2 77 3) 8 a3 fun m3 =>
  wf_ m3 77 3 ((m3 77 3) + 1) fun m4 =>
  wf_ m4 77 4 0 fun m5 =>
  some ((m5 77 3, m5)))
  else
  (some (((-1), M)))
set_option maxHeartbeats 4000000 in
set_option maxRecDepth 20000 in
theorem cUA_add (E : bz_E) (F : Nat)  {M : bz_Mm} {a1 : Int} {a2 : Int} {a3 : Int} {x0 : Int × bz_Mm} (hf : fUA_add F M a1 a2 a3 = some x0) : bz_Ct E yUA_add (.code yUA_add prog_2_method_2_code 4 (some .int)) 0 0 [bz_rf E 77, bz_i a1, bz_i a2, bz_i a3] M (some (bz_i x0.1)) x0.2 := by
  refine bz_met (by decide +kernel) (Nat.le_of_ble_eq_true rfl) (fun K X => ?_)
  have X : bz_X K E prog_2_method_2_code 4 "UnitsWrong$Audits" (some .int) 0 0 _ _ := X
  unfold fUA_add at hf
  show bz_J K 4 0 [(0, bz_rf E 77), (1, bz_i a1), (2, bz_i a2), (3, bz_i a3)] [] M
  refine j_aload_n X dUA_add_0 rfl 0 rfl ?_
  refine j_geti X gf_UA_21_77 dUA_add_1 ?_
  refine j_bipush X dUA_add_4 rfl ?_
  refine j_icmp_lt X (tgt := 11) rfl (w32_lit rfl) dUA_add_6 (by decide) hf (fun hf => ?_) (fun hf => ?_)
  · refine j_aload_n X dUA_add_11 rfl 0 rfl ?_
    refine j_geta X gf_UA_11_77 dUA_add_12 ?_
    refine j_aload_n X dUA_add_15 rfl 0 rfl ?_
    refine j_geti X gf_UA_21_77 dUA_add_16 ?_
    refine j_iload_n X dUA_add_19 rfl 1 rfl ?_
    refine j_iast X sh_78 dUA_add_20 hf (fun m1 hf => ?_)
    refine j_aload_n X dUA_add_21 rfl 0 rfl ?_
    show bz_J _ _ 22 _ _ _
    refine j_geta X gf_UA_15_77 dUA_add_22 ?_
    refine j_aload_n X dUA_add_25 rfl 0 rfl ?_
    refine j_geti X gf_UA_21_77 dUA_add_26 ?_
    refine j_iload_n X dUA_add_29 rfl 2 rfl ?_
    refine j_iast X sh_79 dUA_add_30 hf (fun m2 hf => ?_)
    refine j_aload_n X dUA_add_31 rfl 0 rfl ?_
    refine j_geta X gf_UA_18_77 dUA_add_32 ?_
    refine j_aload_n X dUA_add_35 rfl 0 rfl ?_
    show bz_J _ _ 36 _ _ _
    refine j_geti X gf_UA_21_77 dUA_add_36 ?_
    refine j_iload_n X dUA_add_39 rfl 3 rfl ?_
    refine j_iast X sh_80 dUA_add_40 hf (fun m3 hf => ?_)
    refine j_aload_n X dUA_add_41 rfl 0 rfl ?_
    refine j_dup X dUA_add_42 rfl ?_
    refine j_geti X gf_UA_21_77 dUA_add_43 ?_
    refine j_iconst X dUA_add_46 ?_
    refine j_iadd X dUA_add_47 ?_
    show bz_J _ _ 48 _ _ _
    refine j_puti X pf_UA_21_77 dUA_add_48 hf (fun m4 hf => ?_)
    refine j_aload_n X dUA_add_51 rfl 0 rfl ?_
    refine j_iconst X dUA_add_52 ?_
    refine j_putz X pf_UA_25_77 (by decide +kernel) (by decide +kernel) dUA_add_53 hf (fun m5 hf => ?_)
    refine j_aload_n X dUA_add_56 rfl 0 rfl ?_
    refine j_geti X gf_UA_21_77 dUA_add_57 ?_
    cases hf
    exact j_iret X dUA_add_60 rfl rfl
  · refine j_iconst X dUA_add_9 ?_
    cases hf
    exact j_iret X dUA_add_10 rfl rfl
def fU_audit (F : Nat) (M : bz_Mm) (a1 : Int) (a2 : Int) (a3 : Int) : Option (Int × bz_Mm) :=
  cl_ (fU_isBooked F M a1 a2) fun x1 =>
  if w32 x1 = 0 then
  (some (((-1), M)))
  else
  (if w32 a3 < 0 then
  (some (((-1), M)))
  else
  (if 10000000 < w32 a3 then
  (some (((-1), M)))
  else
  (cl2_ (fUA_add F M a1 a2 a3) fun x3 m2 =>
  some ((x3, m2)))))
set_option maxHeartbeats 4000000 in
set_option maxRecDepth 20000 in
theorem cU_audit (E : bz_E) (F : Nat)  {M : bz_Mm} {a1 : Int} {a2 : Int} {a3 : Int} {x0 : Int × bz_Mm} (hf : fU_audit F M a1 a2 a3 = some x0) : bz_Ct E yU_audit (.code yU_audit prog_1_method_31_code 4 (some .int)) 3 63 [bz_rf E 0, bz_i a1, bz_i a2, bz_i a3] M (some (bz_i x0.1)) x0.2 := by
  refine bz_met (by decide +kernel) (Nat.le_of_ble_eq_true rfl) (fun K X => ?_)
  have X : bz_X K E prog_1_method_31_code 4 "UnitsWrong" (some .int) 3 63 _ _ := X
  unfold fU_audit at hf
  show bz_J K 4 0 [(0, bz_rf E 0), (1, bz_i a1), (2, bz_i a2), (3, bz_i a3)] [] M
  refine j_aload_n X dU_audit_0 rfl 0 rfl ?_
  refine j_iload_n X dU_audit_1 rfl 1 rfl ?_
  refine j_iload_n X dU_audit_2 rfl 2 rfl ?_
  obtain ⟨x1, hzx1, hf⟩ := q_cl hf
  refine j_cv X (st := []) (cU_isBooked E F hzx1) gyU_isBooked gv_U_isBooked_0 rfl (by decide) (by decide) wd_906 rfl (Nat.le_of_ble_eq_true rfl) dU_audit_3 ?_
  refine j_if_eq X (tgt := 20) rfl dU_audit_6 (by decide) hf (fun hf => ?_) (fun hf => ?_)
  · refine j_iconst X dU_audit_20 ?_
    cases hf
    exact j_iret X dU_audit_21 rfl rfl
  · refine j_iload_n X dU_audit_9 rfl 3 rfl ?_
    refine j_if_lt X (tgt := 20) rfl dU_audit_10 (by decide) hf (fun hf => ?_) (fun hf => ?_)
    · refine j_iconst X dU_audit_20 ?_
      cases hf
      exact j_iret X dU_audit_21 rfl rfl
    · refine j_iload_n X dU_audit_13 rfl 3 rfl ?_
      refine j_ldcw X (v := 10000000) wd_1038 dU_audit_14 ?_
      refine j_icmp_le X (tgt := 22) rfl (w32_lit rfl) dU_audit_17 (by decide) hf (fun hf => ?_) (fun hf => ?_)
      · refine j_aload_n X dU_audit_22 rfl 0 rfl ?_
        refine j_geta X gf_U_47_0 dU_audit_23 ?_
        refine j_iload_n X dU_audit_26 rfl 1 rfl ?_
        refine j_iload_n X dU_audit_27 rfl 2 rfl ?_
        refine j_iload_n X dU_audit_28 rfl 3 rfl ?_
        obtain ⟨x3, m2, hz, hf⟩ := q_cl2 hf
        refine j_cv X (st := []) (cUA_add E F hz) gyUA_add gv_UA_add_77 rfl (by decide) (by decide) wd_1039 rfl (Nat.le_of_ble_eq_true rfl) dU_audit_29 ?_
        clear hz
        cases hf
        exact j_iret X dU_audit_32 rfl rfl
      · refine j_iconst X dU_audit_20 ?_
        cases hf
        exact j_iret X dU_audit_21 rfl rfl
def UB_add_17_L21 (F : Nat) : Nat → Int → Int → Int → bz_Mm → Option (Int × bz_Mm)
  | 0, _, _, _, _ => none
  | n + 1, l2, l1, l3, M =>
    if 0 < w32 l3 then
    (rd_ M 19 (l3 - 1) 7 fun x1 =>
    rd_ M 18 x1 7 fun x2 =>
    if w32 l1 < w32 x2 then
    (rd_ M 19 (l3 - 1) 7 fun x3 =>
    wa_ M 19 l3 7 x3 fun m4 =>
    UB_add_17_L21 F n l2 l1 (l3 + (-1)) m4)
    else
    (some (l3, M)))
    else
    (some (l3, M))
theorem lUB_add_17_L21 (E : bz_E) (F : Nat) {K : bz_K} {rv : Option Value} {M1 : bz_Mm} (X : bz_X K E prog_3_method_2_code 4 "UnitsWrong$ByDay" (some .int) 0 0 rv M1) {l2 : Int} {l1 : Int} {res : (Int × bz_Mm)}
    (kx : ∀ (l3 : Int) (M : bz_Mm), some (l3, M) = some res → bz_J K 4 62 [(3, bz_i l3), (2, bz_i l2), (0, bz_rf E 17), (1, bz_i l1)] [] M) :
    ∀ (n : Nat) (l3 : Int) (M : bz_Mm), UB_add_17_L21 F n l2 l1 l3 M = some res → bz_J K 4 21 [(3, bz_i l3), (2, bz_i l2), (0, bz_rf E 17), (1, bz_i l1)] [] M := by
  intro n
  induction n with
  | zero => intro l3 M hf; cases hf
  | succ n ih =>
    intro l3 M hf
    rw [UB_add_17_L21] at hf
    refine j_iload_n X dUB_add_21 rfl 0 rfl ?_
    refine j_if_le X (tgt := 62) rfl dUB_add_22 (by decide) hf (fun hf => ?_) (fun hf => ?_)
    · exact kx _ _ hf
    · refine j_aload_n X dUB_add_25 rfl 2 rfl ?_
      refine j_geta X gf_UB_9_17 dUB_add_26 ?_
      refine j_aload_n X dUB_add_29 rfl 2 rfl ?_
      refine j_geta X gf_UB_15_17 dUB_add_30 ?_
      refine j_iload_n X dUB_add_33 rfl 0 rfl ?_
      refine j_iconst X dUB_add_34 ?_
      refine j_isub X dUB_add_35 ?_
      show bz_J _ _ 36 _ _ _
      refine j_iald X sh_19 dUB_add_36 hf (fun x1 hf => ?_)
      refine j_iald X sh_18 dUB_add_37 hf (fun x2 hf => ?_)
      refine j_iload_n X dUB_add_38 rfl 3 rfl ?_
      refine j_icmp_le X (tgt := 62) rfl rfl dUB_add_39 (by decide) hf (fun hf => ?_) (fun hf => ?_)
      · exact kx _ _ hf
      · refine j_aload_n X dUB_add_42 rfl 2 rfl ?_
        refine j_geta X gf_UB_15_17 dUB_add_43 ?_
        refine j_iload_n X dUB_add_46 rfl 0 rfl ?_
        refine j_aload_n X dUB_add_47 rfl 2 rfl ?_
        refine j_geta X gf_UB_15_17 dUB_add_48 ?_
        refine j_iload_n X dUB_add_51 rfl 0 rfl ?_
        refine j_iconst X dUB_add_52 ?_
        show bz_J _ _ 53 _ _ _
        refine j_isub X dUB_add_53 ?_
        refine j_iald X sh_19 dUB_add_54 hf (fun x3 hf => ?_)
        refine j_iast X sh_19 dUB_add_55 hf (fun m4 hf => ?_)
        refine j_iinc X (y := l3 + (-1)) (lv' := [(3, bz_i (l3 + (-1))), (2, bz_i l2), (0, bz_rf E 17), (1, bz_i l1)]) dUB_add_56 0 rfl rfl (by decide) rfl ?_
        refine j_goto X (tgt := 21) dUB_add_59 (by decide) ?_
        exact ih _ _ hf
def fUB_add_17 (F : Nat) (M : bz_Mm) (a1 : Int) : Option (Int × bz_Mm) :=
  if w32 (M 17 2) < 7 then
  (lt_ (M 17 2) fun l2 =>
  cl2_ (UB_add_17_L21 F F l2 a1 l2 M) fun l3 m5 =>
  wa_ m5 19 l3 7 l2 fun m6 =>
  wa_ m6 18 l2 7 a1 fun m7 =>
  wf_ m7 17 2 (l2 + 1) fun m8 =>
  some ((l2, m8)))
  else
  (some (((-1), M)))
set_option maxHeartbeats 4000000 in
set_option maxRecDepth 20000 in
theorem cUB_add_17 (E : bz_E) (F : Nat)  {M : bz_Mm} {a1 : Int} {x0 : Int × bz_Mm} (hf : fUB_add_17 F M a1 = some x0) : bz_Ct E yUB_add (.code yUB_add prog_3_method_2_code 4 (some .int)) 0 0 [bz_rf E 17, bz_i a1] M (some (bz_i x0.1)) x0.2 := by
  refine bz_met (by decide +kernel) (Nat.le_of_ble_eq_true rfl) (fun K X => ?_)
  have X : bz_X K E prog_3_method_2_code 4 "UnitsWrong$ByDay" (some .int) 0 0 _ _ := X
  unfold fUB_add_17 at hf
  show bz_J K 4 0 [(0, bz_rf E 17), (1, bz_i a1)] [] M
  refine j_aload_n X dUB_add_0 rfl 0 rfl ?_
  refine j_geti X gf_UB_18_17 dUB_add_1 ?_
  refine j_aload_n X dUB_add_4 rfl 0 rfl ?_
  refine j_geta X gf_UB_9_17 dUB_add_5 ?_
  refine j_alen X sh_18 (by decide) dUB_add_8 ?_
  refine j_icmp_lt X (tgt := 14) rfl (w32_lit rfl) dUB_add_9 (by decide) hf (fun hf => ?_) (fun hf => ?_)
  · refine j_aload_n X dUB_add_14 rfl 0 rfl ?_
    refine j_geti X gf_UB_18_17 dUB_add_15 ?_
    refine j_lt (g := bz_i) hf (fun l2 hf => ?_)
    refine j_istore_n X (lv' := [(2, bz_i l2), (0, bz_rf E 17), (1, bz_i a1)]) dUB_add_18 rfl (by decide) rfl ?_
    refine j_iload_n X dUB_add_19 rfl 0 rfl ?_
    refine j_istore_n X (lv' := [(3, bz_i l2), (2, bz_i l2), (0, bz_rf E 17), (1, bz_i a1)]) dUB_add_20 rfl (by decide) rfl ?_
    obtain ⟨res9, hz9, hk9⟩ := q_l2 hf
    clear hf
    refine lUB_add_17_L21 E F X (fun l3 m5 he => ?_) F l2 M hz9
    have hf := hk9 _ _ he
    refine j_aload_n X dUB_add_62 rfl 2 rfl ?_
    refine j_geta X gf_UB_15_17 dUB_add_63 ?_
    refine j_iload_n X dUB_add_66 rfl 0 rfl ?_
    refine j_iload_n X dUB_add_67 rfl 1 rfl ?_
    refine j_iast X sh_19 dUB_add_68 hf (fun m6 hf => ?_)
    refine j_aload_n X dUB_add_69 rfl 2 rfl ?_
    refine j_geta X gf_UB_9_17 dUB_add_70 ?_
    show bz_J _ _ 73 _ _ _
    refine j_iload_n X dUB_add_73 rfl 1 rfl ?_
    refine j_iload_n X dUB_add_74 rfl 3 rfl ?_
    refine j_iast X sh_18 dUB_add_75 hf (fun m7 hf => ?_)
    refine j_aload_n X dUB_add_76 rfl 2 rfl ?_
    refine j_iload_n X dUB_add_77 rfl 1 rfl ?_
    refine j_iconst X dUB_add_78 ?_
    refine j_iadd X dUB_add_79 ?_
    refine j_puti X pf_UB_18_17 dUB_add_80 hf (fun m8 hf => ?_)
    show bz_J _ _ 83 _ _ _
    refine j_iload_n X dUB_add_83 rfl 1 rfl ?_
    cases hf
    exact j_iret X dUB_add_84 rfl rfl
  · refine j_iconst X dUB_add_12 ?_
    cases hf
    exact j_iret X dUB_add_13 rfl rfl
def fUTe_add_16 (F : Nat) (M : bz_Mm) (a1 : Int) (a2 : Int) (a3 : Int) (a4 : Int) (a5 : Int) : Option (Int × bz_Mm) :=
  cl2_ (fUB_add_17 F M a3) fun x2 m1 =>
  if w32 x2 = (-1) then
  (some ((x2, m1)))
  else
  (wa_ m1 20 x2 7 a1 fun m3 =>
  wa_ m3 21 x2 7 a2 fun m4 =>
  wa_ m4 22 x2 7 a4 fun m5 =>
  wa_ m5 23 x2 7 a5 fun m6 =>
  some ((x2, m6)))
set_option maxHeartbeats 4000000 in
set_option maxRecDepth 20000 in
theorem cUTe_add_16 (E : bz_E) (F : Nat)  {M : bz_Mm} {a1 : Int} {a2 : Int} {a3 : Int} {a4 : Int} {a5 : Int} {x0 : Int × bz_Mm} (hf : fUTe_add_16 F M a1 a2 a3 a4 a5 = some x0) : bz_Ct E yUTe_add (.code yUTe_add prog_10_method_2_code 7 (some .int)) 1 23 [bz_rf E 16, bz_i a1, bz_i a2, bz_i a3, bz_i a4, bz_i a5] M (some (bz_i x0.1)) x0.2 := by
  refine bz_met (by decide +kernel) (Nat.le_of_ble_eq_true rfl) (fun K X => ?_)
  have X : bz_X K E prog_10_method_2_code 7 "UnitsWrong$Tellings" (some .int) 1 23 _ _ := X
  unfold fUTe_add_16 at hf
  show bz_J K 7 0 [(0, bz_rf E 16), (1, bz_i a1), (2, bz_i a2), (3, bz_i a3), (4, bz_i a4), (5, bz_i a5)] [] M
  refine j_aload_n X dUTe_add_0 rfl 0 rfl ?_
  refine j_geta X gf_UTe_14_16 dUTe_add_1 ?_
  refine j_iload_n X dUTe_add_4 rfl 3 rfl ?_
  obtain ⟨x2, m1, hz, hf⟩ := q_cl2 hf
  refine j_cv X (st := []) (cUB_add_17 E F hz) gyUB_add gv_UB_add_17 rfl (by decide) (by decide) wd_563 rfl (Nat.le_of_ble_eq_true rfl) dUTe_add_5 ?_
  clear hz
  refine j_istore X (lv' := [(6, bz_i x2), (0, bz_rf E 16), (1, bz_i a1), (2, bz_i a2), (3, bz_i a3), (4, bz_i a4), (5, bz_i a5)]) dUTe_add_8 (by decide) rfl ?_
  refine j_iload X dUTe_add_10 0 rfl ?_
  refine j_iconst X dUTe_add_12 ?_
  show bz_J _ _ 13 _ _ _
  refine j_icmp_eq X (tgt := 50) rfl (w32_lit rfl) dUTe_add_13 (by decide) hf (fun hf => ?_) (fun hf => ?_)
  · refine j_iload X dUTe_add_50 0 rfl ?_
    cases hf
    exact j_iret X dUTe_add_52 rfl rfl
  · refine j_aload_n X dUTe_add_16 rfl 1 rfl ?_
    refine j_geta X gf_UTe_20_16 dUTe_add_17 ?_
    refine j_iload X dUTe_add_20 0 rfl ?_
    refine j_iload_n X dUTe_add_22 rfl 2 rfl ?_
    refine j_iast X sh_20 dUTe_add_23 hf (fun m3 hf => ?_)
    refine j_aload_n X dUTe_add_24 rfl 1 rfl ?_
    refine j_geta X gf_UTe_24_16 dUTe_add_25 ?_
    show bz_J _ _ 28 _ _ _
    refine j_iload X dUTe_add_28 0 rfl ?_
    refine j_iload_n X dUTe_add_30 rfl 3 rfl ?_
    refine j_iast X sh_21 dUTe_add_31 hf (fun m4 hf => ?_)
    refine j_aload_n X dUTe_add_32 rfl 1 rfl ?_
    refine j_geta X gf_UTe_27_16 dUTe_add_33 ?_
    refine j_iload X dUTe_add_36 0 rfl ?_
    refine j_iload X dUTe_add_38 5 rfl ?_
    refine j_iast X sh_22 dUTe_add_40 hf (fun m5 hf => ?_)
    show bz_J _ _ 41 _ _ _
    refine j_aload_n X dUTe_add_41 rfl 1 rfl ?_
    refine j_geta X gf_UTe_30_16 dUTe_add_42 ?_
    refine j_iload X dUTe_add_45 0 rfl ?_
    refine j_iload X dUTe_add_47 6 rfl ?_
    refine j_iast X sh_23 dUTe_add_49 hf (fun m6 hf => ?_)
    refine j_iload X dUTe_add_50 0 rfl ?_
    cases hf
    exact j_iret X dUTe_add_52 rfl rfl
def fU_suspect (F : Nat) (M : bz_Mm) (a1 : Int) (a2 : Int) (a3 : Int) (a4 : Int) : Option (Int × bz_Mm) :=
  if w32 (fU_canBeTold a1 a2 a3 a4) = 0 then
  (some (((-1), M)))
  else
  (wf_ M 77 4 0 fun m1 =>
  cl2_ (fUTe_add_16 F m1 a1 a2 a3 a4 (m1 1 13)) fun x3 m2 =>
  some ((x3, m2)))
set_option maxHeartbeats 4000000 in
set_option maxRecDepth 20000 in
theorem cU_suspect (E : bz_E) (F : Nat)  {M : bz_Mm} {a1 : Int} {a2 : Int} {a3 : Int} {a4 : Int} {x0 : Int × bz_Mm} (hf : fU_suspect F M a1 a2 a3 a4 = some x0) : bz_Ct E yU_suspect (.code yU_suspect prog_1_method_32_code 5 (some .int)) 2 49 [bz_rf E 0, bz_i a1, bz_i a2, bz_i a3, bz_i a4] M (some (bz_i x0.1)) x0.2 := by
  refine bz_met (by decide +kernel) (Nat.le_of_ble_eq_true rfl) (fun K X => ?_)
  have X : bz_X K E prog_1_method_32_code 5 "UnitsWrong" (some .int) 2 49 _ _ := X
  unfold fU_suspect at hf
  show bz_J K 5 0 [(0, bz_rf E 0), (1, bz_i a1), (2, bz_i a2), (3, bz_i a3), (4, bz_i a4)] [] M
  refine j_iload_n X dU_suspect_0 rfl 1 rfl ?_
  refine j_iload_n X dU_suspect_1 rfl 2 rfl ?_
  refine j_iload_n X dU_suspect_2 rfl 3 rfl ?_
  refine j_iload X dU_suspect_3 4 rfl ?_
  refine j_cs X (st := []) (cU_canBeTold E) gyU_canBeTold wd_553 rfl (by decide) (by decide) wd_552 rfl (Nat.le_of_ble_eq_true rfl) dU_suspect_5 ?_
  refine j_if_ne X (tgt := 13) rfl dU_suspect_8 (by decide) hf (fun hf => ?_) (fun hf => ?_)
  · refine j_aload_n X dU_suspect_13 rfl 0 rfl ?_
    refine j_geta X gf_U_47_0 dU_suspect_14 ?_
    refine j_iconst X dU_suspect_17 ?_
    refine j_putz X pf_U_302_77 (by decide +kernel) (by decide +kernel) dU_suspect_18 hf (fun m1 hf => ?_)
    refine j_aload_n X dU_suspect_21 rfl 0 rfl ?_
    refine j_geta X gf_U_10_0 dU_suspect_22 ?_
    refine j_geta X gf_U_306_1 dU_suspect_25 ?_
    show bz_J _ _ 28 _ _ _
    refine j_iload_n X dU_suspect_28 rfl 1 rfl ?_
    refine j_iload_n X dU_suspect_29 rfl 2 rfl ?_
    refine j_iload_n X dU_suspect_30 rfl 3 rfl ?_
    refine j_iload X dU_suspect_31 4 rfl ?_
    refine j_aload_n X dU_suspect_33 rfl 0 rfl ?_
    refine j_geta X gf_U_10_0 dU_suspect_34 ?_
    refine j_geti X gf_U_51_1 dU_suspect_37 ?_
    obtain ⟨x3, m2, hz, hf⟩ := q_cl2 hf
    refine j_cv X (st := []) (cUTe_add_16 E F hz) gyUTe_add gv_UTe_add_16 rfl (by decide) (by decide) wd_559 rfl (Nat.le_of_ble_eq_true rfl) dU_suspect_40 ?_
    clear hz
    show bz_J _ _ 43 _ _ _
    cases hf
    exact j_iret X dU_suspect_43 rfl rfl
  · refine j_iconst X dU_suspect_11 ?_
    cases hf
    exact j_iret X dU_suspect_12 rfl rfl
def fU_forget (F : Nat) (M : bz_Mm) : Option (Int × bz_Mm) :=
  lt_ ((M 77 3) + (M 17 2)) fun l1 =>
  wf_ M 77 3 0 fun m1 =>
  wf_ m1 77 4 0 fun m2 =>
  wf_ m2 17 2 0 fun m3 =>
  some ((l1, m3))
set_option maxHeartbeats 4000000 in
set_option maxRecDepth 20000 in
theorem cU_forget (E : bz_E) (F : Nat)  {M : bz_Mm} {x0 : Int × bz_Mm} (hf : fU_forget F M = some x0) : bz_Ct E yU_forget (.code yU_forget prog_1_method_33_code 2 (some .int)) 0 0 [bz_rf E 0] M (some (bz_i x0.1)) x0.2 := by
  refine bz_met (by decide +kernel) (Nat.le_of_ble_eq_true rfl) (fun K X => ?_)
  have X : bz_X K E prog_1_method_33_code 2 "UnitsWrong" (some .int) 0 0 _ _ := X
  unfold fU_forget at hf
  show bz_J K 2 0 [(0, bz_rf E 0)] [] M
  refine j_aload_n X dU_forget_0 rfl 0 rfl ?_
  refine j_geta X gf_U_47_0 dU_forget_1 ?_
  refine j_geti X gf_U_309_77 dU_forget_4 ?_
  refine j_aload_n X dU_forget_7 rfl 0 rfl ?_
  refine j_geta X gf_U_10_0 dU_forget_8 ?_
  refine j_geta X gf_U_306_1 dU_forget_11 ?_
  refine j_geta X gf_U_101_16 dU_forget_14 ?_
  show bz_J _ _ 17 _ _ _
  refine j_geti X gf_U_105_17 dU_forget_17 ?_
  refine j_iadd X dU_forget_20 ?_
  refine j_lt (g := bz_i) hf (fun l1 hf => ?_)
  refine j_istore_n X (lv' := [(1, bz_i l1), (0, bz_rf E 0)]) dU_forget_21 rfl (by decide) rfl ?_
  refine j_aload_n X dU_forget_22 rfl 1 rfl ?_
  refine j_geta X gf_U_47_0 dU_forget_23 ?_
  refine j_iconst X dU_forget_26 ?_
  refine j_puti X pf_U_309_77 dU_forget_27 hf (fun m1 hf => ?_)
  refine j_aload_n X dU_forget_30 rfl 1 rfl ?_
  show bz_J _ _ 31 _ _ _
  refine j_geta X gf_U_47_0 dU_forget_31 ?_
  refine j_iconst X dU_forget_34 ?_
  refine j_putz X pf_U_302_77 (by decide +kernel) (by decide +kernel) dU_forget_35 hf (fun m2 hf => ?_)
  refine j_aload_n X dU_forget_38 rfl 1 rfl ?_
  refine j_geta X gf_U_10_0 dU_forget_39 ?_
  refine j_geta X gf_U_306_1 dU_forget_42 ?_
  refine j_geta X gf_U_101_16 dU_forget_45 ?_
  refine j_iconst X dU_forget_48 ?_
  show bz_J _ _ 49 _ _ _
  refine j_puti X pf_U_105_17 dU_forget_49 hf (fun m3 hf => ?_)
  refine j_iload_n X dU_forget_52 rfl 0 rfl ?_
  cases hf
  exact j_iret X dU_forget_53 rfl rfl
def gJI_bitCount (a0 : Int) : Option Int :=
  some (ia_ (((ia_ (((ia_ (a0 - (ia_ (us_ a0 1) 1431655765)) 858993459) + (ia_ (us_ (a0 - (ia_ (us_ a0 1) 1431655765)) 2) 858993459)) + (us_ ((ia_ (a0 - (ia_ (us_ a0 1) 1431655765)) 858993459) + (ia_ (us_ (a0 - (ia_ (us_ a0 1) 1431655765)) 2) 858993459)) 4)) 252645135) + (us_ (ia_ (((ia_ (a0 - (ia_ (us_ a0 1) 1431655765)) 858993459) + (ia_ (us_ (a0 - (ia_ (us_ a0 1) 1431655765)) 2) 858993459)) + (us_ ((ia_ (a0 - (ia_ (us_ a0 1) 1431655765)) 858993459) + (ia_ (us_ (a0 - (ia_ (us_ a0 1) 1431655765)) 2) 858993459)) 4)) 252645135) 8)) + (us_ ((ia_ (((ia_ (a0 - (ia_ (us_ a0 1) 1431655765)) 858993459) + (ia_ (us_ (a0 - (ia_ (us_ a0 1) 1431655765)) 2) 858993459)) + (us_ ((ia_ (a0 - (ia_ (us_ a0 1) 1431655765)) 858993459) + (ia_ (us_ (a0 - (ia_ (us_ a0 1) 1431655765)) 2) 858993459)) 4)) 252645135) + (us_ (ia_ (((ia_ (a0 - (ia_ (us_ a0 1) 1431655765)) 858993459) + (ia_ (us_ (a0 - (ia_ (us_ a0 1) 1431655765)) 2) 858993459)) + (us_ ((ia_ (a0 - (ia_ (us_ a0 1) 1431655765)) 858993459) + (ia_ (us_ (a0 - (ia_ (us_ a0 1) 1431655765)) 2) 858993459)) 4)) 252645135) 8)) 16)) 63)
def fJI_bitCount (a0 : Int) : Int :=
  (ia_ (((ia_ (((ia_ (a0 - (ia_ (us_ a0 1) 1431655765)) 858993459) + (ia_ (us_ (a0 - (ia_ (us_ a0 1) 1431655765)) 2) 858993459)) + (us_ ((ia_ (a0 - (ia_ (us_ a0 1) 1431655765)) 858993459) + (ia_ (us_ (a0 - (ia_ (us_ a0 1) 1431655765)) 2) 858993459)) 4)) 252645135) + (us_ (ia_ (((ia_ (a0 - (ia_ (us_ a0 1) 1431655765)) 858993459) + (ia_ (us_ (a0 - (ia_ (us_ a0 1) 1431655765)) 2) 858993459)) + (us_ ((ia_ (a0 - (ia_ (us_ a0 1) 1431655765)) 858993459) + (ia_ (us_ (a0 - (ia_ (us_ a0 1) 1431655765)) 2) 858993459)) 4)) 252645135) 8)) + (us_ ((ia_ (((ia_ (a0 - (ia_ (us_ a0 1) 1431655765)) 858993459) + (ia_ (us_ (a0 - (ia_ (us_ a0 1) 1431655765)) 2) 858993459)) + (us_ ((ia_ (a0 - (ia_ (us_ a0 1) 1431655765)) 858993459) + (ia_ (us_ (a0 - (ia_ (us_ a0 1) 1431655765)) 2) 858993459)) 4)) 252645135) + (us_ (ia_ (((ia_ (a0 - (ia_ (us_ a0 1) 1431655765)) 858993459) + (ia_ (us_ (a0 - (ia_ (us_ a0 1) 1431655765)) 2) 858993459)) + (us_ ((ia_ (a0 - (ia_ (us_ a0 1) 1431655765)) 858993459) + (ia_ (us_ (a0 - (ia_ (us_ a0 1) 1431655765)) 2) 858993459)) 4)) 252645135) 8)) 16)) 63)
theorem tJI_bitCount (a0 : Int) : gJI_bitCount a0 = some (fJI_bitCount a0) := by
  unfold gJI_bitCount fJI_bitCount
  (repeat' (first | rfl | split))
set_option maxHeartbeats 4000000 in
set_option maxRecDepth 20000 in
theorem cJI_bitCount (E : bz_E) {M : bz_Mm} {a0 : Int} : bz_Ct E yJI_bitCount (.code yJI_bitCount prog_15_method_49_code 1 (some .int)) 0 0 [bz_i a0] M (some (bz_i (fJI_bitCount a0))) M := by
  have hf := tJI_bitCount a0
  refine bz_metF (by decide +kernel) (Nat.le_of_ble_eq_true rfl) (fun K X => ?_)
  have X : bz_X K E prog_15_method_49_code 1 "java/lang/Integer" (some .int) 0 0 _ _ := X
  unfold gJI_bitCount at hf
  generalize fJI_bitCount a0 = rr at hf X
  show bz_J K 1 0 [(0, bz_i a0)] [] M
  refine j_iload_n X dJI_bitCount_0 rfl 0 rfl ?_
  refine j_iload_n X dJI_bitCount_1 rfl 0 rfl ?_
  refine j_iconst X dJI_bitCount_2 ?_
  refine j_iushr X dJI_bitCount_3 ?_
  refine j_ldcw X (v := 1431655765) wd_1062 dJI_bitCount_4 ?_
  refine j_iand X dJI_bitCount_7 ?_
  refine j_isub X dJI_bitCount_8 ?_
  show bz_J _ _ 9 _ _ _
  refine j_istore_n X (lv' := [(0, bz_i (a0 - (ia_ (us_ a0 1) 1431655765)))]) dJI_bitCount_9 rfl (by decide) rfl ?_
  refine j_iload_n X dJI_bitCount_10 rfl 0 rfl ?_
  refine j_ldcw X (v := 858993459) wd_1063 dJI_bitCount_11 ?_
  refine j_iand X dJI_bitCount_14 ?_
  refine j_iload_n X dJI_bitCount_15 rfl 0 rfl ?_
  refine j_iconst X dJI_bitCount_16 ?_
  refine j_iushr X dJI_bitCount_17 ?_
  refine j_ldcw X (v := 858993459) wd_1063 dJI_bitCount_18 ?_
  show bz_J _ _ 21 _ _ _
  refine j_iand X dJI_bitCount_21 ?_
  refine j_iadd X dJI_bitCount_22 ?_
  refine j_istore_n X (lv' := [(0, bz_i ((ia_ (a0 - (ia_ (us_ a0 1) 1431655765)) 858993459) + (ia_ (us_ (a0 - (ia_ (us_ a0 1) 1431655765)) 2) 858993459)))]) dJI_bitCount_23 rfl (by decide) rfl ?_
  refine j_iload_n X dJI_bitCount_24 rfl 0 rfl ?_
  refine j_iload_n X dJI_bitCount_25 rfl 0 rfl ?_
  refine j_iconst X dJI_bitCount_26 ?_
  refine j_iushr X dJI_bitCount_27 ?_
  refine j_iadd X dJI_bitCount_28 ?_
  show bz_J _ _ 29 _ _ _
  refine j_ldcw X (v := 252645135) wd_1064 dJI_bitCount_29 ?_
  refine j_iand X dJI_bitCount_32 ?_
  refine j_istore_n X (lv' := [(0, bz_i (ia_ (((ia_ (a0 - (ia_ (us_ a0 1) 1431655765)) 858993459) + (ia_ (us_ (a0 - (ia_ (us_ a0 1) 1431655765)) 2) 858993459)) + (us_ ((ia_ (a0 - (ia_ (us_ a0 1) 1431655765)) 858993459) + (ia_ (us_ (a0 - (ia_ (us_ a0 1) 1431655765)) 2) 858993459)) 4)) 252645135))]) dJI_bitCount_33 rfl (by decide) rfl ?_
  refine j_iload_n X dJI_bitCount_34 rfl 0 rfl ?_
  refine j_iload_n X dJI_bitCount_35 rfl 0 rfl ?_
  refine j_bipush X dJI_bitCount_36 rfl ?_
  refine j_iushr X dJI_bitCount_38 ?_
  refine j_iadd X dJI_bitCount_39 ?_
  show bz_J _ _ 40 _ _ _
  refine j_istore_n X (lv' := [(0, bz_i ((ia_ (((ia_ (a0 - (ia_ (us_ a0 1) 1431655765)) 858993459) + (ia_ (us_ (a0 - (ia_ (us_ a0 1) 1431655765)) 2) 858993459)) + (us_ ((ia_ (a0 - (ia_ (us_ a0 1) 1431655765)) 858993459) + (ia_ (us_ (a0 - (ia_ (us_ a0 1) 1431655765)) 2) 858993459)) 4)) 252645135) + (us_ (ia_ (((ia_ (a0 - (ia_ (us_ a0 1) 1431655765)) 858993459) + (ia_ (us_ (a0 - (ia_ (us_ a0 1) 1431655765)) 2) 858993459)) + (us_ ((ia_ (a0 - (ia_ (us_ a0 1) 1431655765)) 858993459) + (ia_ (us_ (a0 - (ia_ (us_ a0 1) 1431655765)) 2) 858993459)) 4)) 252645135) 8)))]) dJI_bitCount_40 rfl (by decide) rfl ?_
  refine j_iload_n X dJI_bitCount_41 rfl 0 rfl ?_
  refine j_iload_n X dJI_bitCount_42 rfl 0 rfl ?_
  refine j_bipush X dJI_bitCount_43 rfl ?_
  refine j_iushr X dJI_bitCount_45 ?_
  refine j_iadd X dJI_bitCount_46 ?_
  refine j_istore_n X (lv' := [(0, bz_i (((ia_ (((ia_ (a0 - (ia_ (us_ a0 1) 1431655765)) 858993459) + (ia_ (us_ (a0 - (ia_ (us_ a0 1) 1431655765)) 2) 858993459)) + (us_ ((ia_ (a0 - (ia_ (us_ a0 1) 1431655765)) 858993459) + (ia_ (us_ (a0 - (ia_ (us_ a0 1) 1431655765)) 2) 858993459)) 4)) 252645135) + (us_ (ia_ (((ia_ (a0 - (ia_ (us_ a0 1) 1431655765)) 858993459) + (ia_ (us_ (a0 - (ia_ (us_ a0 1) 1431655765)) 2) 858993459)) + (us_ ((ia_ (a0 - (ia_ (us_ a0 1) 1431655765)) 858993459) + (ia_ (us_ (a0 - (ia_ (us_ a0 1) 1431655765)) 2) 858993459)) 4)) 252645135) 8)) + (us_ ((ia_ (((ia_ (a0 - (ia_ (us_ a0 1) 1431655765)) 858993459) + (ia_ (us_ (a0 - (ia_ (us_ a0 1) 1431655765)) 2) 858993459)) + (us_ ((ia_ (a0 - (ia_ (us_ a0 1) 1431655765)) 858993459) + (ia_ (us_ (a0 - (ia_ (us_ a0 1) 1431655765)) 2) 858993459)) 4)) 252645135) + (us_ (ia_ (((ia_ (a0 - (ia_ (us_ a0 1) 1431655765)) 858993459) + (ia_ (us_ (a0 - (ia_ (us_ a0 1) 1431655765)) 2) 858993459)) + (us_ ((ia_ (a0 - (ia_ (us_ a0 1) 1431655765)) 858993459) + (ia_ (us_ (a0 - (ia_ (us_ a0 1) 1431655765)) 2) 858993459)) 4)) 252645135) 8)) 16)))]) dJI_bitCount_47 rfl (by decide) rfl ?_
  refine j_iload_n X dJI_bitCount_48 rfl 0 rfl ?_
  show bz_J _ _ 49 _ _ _
  refine j_bipush X dJI_bitCount_49 rfl ?_
  refine j_iand X dJI_bitCount_51 ?_
  cases hf
  exact j_iret X dJI_bitCount_52 rfl rfl
def gJM_max0 (a0 : Int) (a1 : Int) : Option Int :=
  if w32 a0 < w32 a1 then
  (some a1)
  else
  (some a0)
def fJM_max0 (a0 : Int) (a1 : Int) : Int :=
  if w32 a0 < w32 a1 then
  (a1)
  else
  (a0)
theorem tJM_max0 (a0 : Int) (a1 : Int) : gJM_max0 a0 a1 = some (fJM_max0 a0 a1) := by
  unfold gJM_max0 fJM_max0
  (repeat' (first | rfl | split))
set_option maxHeartbeats 4000000 in
set_option maxRecDepth 20000 in
theorem cJM_max0 (E : bz_E) {M : bz_Mm} {a0 : Int} {a1 : Int} : bz_Ct E yJM_max0 (.code yJM_max0 prog_16_method_65_code 2 (some .int)) 0 0 [bz_i a0, bz_i a1] M (some (bz_i (fJM_max0 a0 a1))) M := by
  have hf := tJM_max0 a0 a1
  refine bz_metF (by decide +kernel) (Nat.le_of_ble_eq_true rfl) (fun K X => ?_)
  have X : bz_X K E prog_16_method_65_code 2 "java/lang/Math" (some .int) 0 0 _ _ := X
  unfold gJM_max0 at hf
  generalize fJM_max0 a0 a1 = rr at hf X
  show bz_J K 2 0 [(0, bz_i a0), (1, bz_i a1)] [] M
  refine j_iload_n X dJM_max0_0 rfl 0 rfl ?_
  refine j_iload_n X dJM_max0_1 rfl 1 rfl ?_
  refine j_icmp_lt X (tgt := 9) rfl rfl dJM_max0_2 (by decide) hf (fun hf => ?_) (fun hf => ?_)
  · refine j_iload_n X dJM_max0_9 rfl 1 rfl ?_
    cases hf
    exact j_iret X dJM_max0_10 rfl rfl
  · refine j_iload_n X dJM_max0_5 rfl 0 rfl ?_
    refine j_goto X (tgt := 10) dJM_max0_6 (by decide) ?_
    cases hf
    exact j_iret X dJM_max0_10 rfl rfl
def gJM_abs0 (a0 : Int) : Option Int :=
  if w32 a0 < 0 then
  (some (-a0))
  else
  (some a0)
def fJM_abs0 (a0 : Int) : Int :=
  if w32 a0 < 0 then
  ((-a0))
  else
  (a0)
theorem tJM_abs0 (a0 : Int) : gJM_abs0 a0 = some (fJM_abs0 a0) := by
  unfold gJM_abs0 fJM_abs0
  (repeat' (first | rfl | split))
set_option maxHeartbeats 4000000 in
set_option maxRecDepth 20000 in
theorem cJM_abs0 (E : bz_E) {M : bz_Mm} {a0 : Int} : bz_Ct E yJM_abs0 (.code yJM_abs0 prog_16_method_59_code 1 (some .int)) 0 0 [bz_i a0] M (some (bz_i (fJM_abs0 a0))) M := by
  have hf := tJM_abs0 a0
  refine bz_metF (by decide +kernel) (Nat.le_of_ble_eq_true rfl) (fun K X => ?_)
  have X : bz_X K E prog_16_method_59_code 1 "java/lang/Math" (some .int) 0 0 _ _ := X
  unfold gJM_abs0 at hf
  generalize fJM_abs0 a0 = rr at hf X
  show bz_J K 1 0 [(0, bz_i a0)] [] M
  refine j_iload_n X dJM_abs0_0 rfl 0 rfl ?_
  refine j_if_ge X (tgt := 9) rfl dJM_abs0_1 (by decide) hf (fun hf => ?_) (fun hf => ?_)
  · refine j_iload_n X dJM_abs0_9 rfl 0 rfl ?_
    cases hf
    exact j_iret X dJM_abs0_10 rfl rfl
  · refine j_iload_n X dJM_abs0_4 rfl 0 rfl ?_
    refine j_ineg X dJM_abs0_5 ?_
    refine j_goto X (tgt := 10) dJM_abs0_6 (by decide) ?_
    cases hf
    exact j_iret X dJM_abs0_10 rfl rfl
def U_alarm_L29 (F : Nat) : Nat → bz_Mm → Int → Int → Int → Int → Option (Int ⊕ (Int))
  | 0, _, _, _, _, _ => none
  | n + 1, M, l1, l2, l4, l3 =>
    if w32 l4 < w32 (M 1 13) then
    (if w32 l4 < 260 then
    (cl_ (fUS_isOpen F M l4) fun x1 =>
    if w32 x1 = 0 then
    (U_alarm_L29 F n M l1 l2 (l4 + 1) l3)
    else
    (rd_ M 48 (fU_slot l1 l4) 1040 fun x2 =>
    if w32 l3 = (-1) then
    (U_alarm_L29 F n M l1 l2 (l4 + 1) x2)
    else
    (if w64 ((w32 l2) * (w32 l3)) < w64 (10000 * (w32 (fJM_abs0 (x2 - l3)))) then
    (some (.inl l4))
    else
    (U_alarm_L29 F n M l1 l2 (l4 + 1) x2))))
    else
    (some (.inr 0)))
    else
    (some (.inr 0))
theorem lU_alarm_L29 (E : bz_E) (F : Nat) {K : bz_K} {rv : Option Value} {M1 : bz_Mm} (X : bz_X K E prog_1_method_36_code 6 "UnitsWrong" (some .int) 2 41 rv M1) {M : bz_Mm} {l1 : Int} {l2 : Int} {res : (Int ⊕ (Int))}
    (kx : ∀ (_u : Int), some (.inr _u) = some res → bz_J K 6 118 [] [] M) (kr : ∀ b : Int, some (.inl b) = some res → some (bz_i b) = rv ∧ M = M1) :
    ∀ (n : Nat) (l4 : Int) (l3 : Int), U_alarm_L29 F n M l1 l2 l4 l3 = some res → bz_J K 6 29 [(4, bz_i l4), (3, bz_i l3), (0, bz_rf E 0), (1, bz_i l1), (2, bz_i l2)] [] M := by
  intro n
  induction n with
  | zero => intro l4 l3 hf; cases hf
  | succ n ih =>
    intro l4 l3 hf
    rw [U_alarm_L29] at hf
    refine j_iload X dU_alarm_29 0 rfl ?_
    refine j_aload_n X dU_alarm_31 rfl 2 rfl ?_
    refine j_geta X gf_U_10_0 dU_alarm_32 ?_
    refine j_geti X gf_U_51_1 dU_alarm_35 ?_
    refine j_icmp_ge X (tgt := 118) rfl rfl dU_alarm_38 (by decide) hf (fun hf => ?_) (fun hf => ?_)
    · exact j_sub [] rfl (kx _ hf)
    · refine j_iload X dU_alarm_41 0 rfl ?_
      refine j_sipush X dU_alarm_43 rfl ?_
      refine j_icmp_ge X (tgt := 118) rfl (w32_lit rfl) dU_alarm_46 (by decide) hf (fun hf => ?_) (fun hf => ?_)
      · exact j_sub [] rfl (kx _ hf)
      · refine j_aload_n X dU_alarm_49 rfl 2 rfl ?_
        refine j_geta X gf_U_10_0 dU_alarm_50 ?_
        refine j_iload X dU_alarm_53 0 rfl ?_
        obtain ⟨x1, hzx1, hf⟩ := q_cl hf
        refine j_cv X (st := []) (cUS_isOpen E F hzx1) gyUS_isOpen gv_US_isOpen_1 rfl (by decide) (by decide) wd_541 rfl (Nat.le_of_ble_eq_true rfl) dU_alarm_55 ?_
        refine j_if_ne X (tgt := 64) rfl dU_alarm_58 (by decide) hf (fun hf => ?_) (fun hf => ?_)
        · refine j_aload_n X dU_alarm_64 rfl 2 rfl ?_
          refine j_geta X gf_U_10_0 dU_alarm_65 ?_
          refine j_geta X gf_U_201_1 dU_alarm_68 ?_
          refine j_iload_n X dU_alarm_71 rfl 3 rfl ?_
          refine j_iload X dU_alarm_72 0 rfl ?_
          refine j_cs X (st := [bz_rf E 48]) (cU_slot E) gyU_slot wd_857 rfl (by decide) (by decide) wd_910 rfl (Nat.le_of_ble_eq_true rfl) dU_alarm_74 ?_
          refine j_iald X sh_48 dU_alarm_77 hf (fun x2 hf => ?_)
          show bz_J _ _ 78 _ _ _
          refine j_istore X (lv' := [(5, bz_i x2), (4, bz_i l4), (3, bz_i l3), (0, bz_rf E 0), (1, bz_i l1), (2, bz_i l2)]) dU_alarm_78 (by decide) rfl ?_
          refine j_iload_n X dU_alarm_80 rfl 2 rfl ?_
          refine j_iconst X dU_alarm_81 ?_
          refine j_icmp_eq X (tgt := 109) rfl (w32_lit rfl) dU_alarm_82 (by decide) hf (fun hf => ?_) (fun hf => ?_)
          · refine j_iload X dU_alarm_109 0 rfl ?_
            refine j_istore_n X (lv' := [(3, bz_i x2), (5, bz_i x2), (4, bz_i l4), (0, bz_rf E 0), (1, bz_i l1), (2, bz_i l2)]) dU_alarm_111 rfl (by decide) rfl ?_
            refine j_iinc X (y := l4 + 1) (lv' := [(4, bz_i (l4 + 1)), (3, bz_i x2), (5, bz_i x2), (0, bz_rf E 0), (1, bz_i l1), (2, bz_i l2)]) dU_alarm_112 2 rfl rfl (by decide) rfl ?_
            refine j_goto X (tgt := 29) dU_alarm_115 (by decide) ?_
            exact j_sub [0, 1, 3, 4, 5] rfl (ih _ _ hf)
          · refine j_ldc2 X (v := 10000) wd_1087 dU_alarm_85 ?_
            refine j_iload X dU_alarm_88 0 rfl ?_
            refine j_iload_n X dU_alarm_90 rfl 2 rfl ?_
            refine j_isub X dU_alarm_91 ?_
            refine j_cs X (st := [bz_l 10000]) (cJM_abs0 E) gyJM_abs0 wd_950 rfl (by decide) (by decide) wd_1088 rfl (Nat.le_of_ble_eq_true rfl) dU_alarm_92 ?_
            refine j_i2l X rfl dU_alarm_95 ?_
            refine j_lmul X dU_alarm_96 ?_
            show bz_J _ _ 97 _ _ _
            refine j_iload_n X dU_alarm_97 rfl 5 rfl ?_
            refine j_i2l X rfl dU_alarm_98 ?_
            refine j_iload_n X dU_alarm_99 rfl 2 rfl ?_
            refine j_i2l X rfl dU_alarm_100 ?_
            refine j_lmul X dU_alarm_101 ?_
            refine j_lcmp_le X (tgt := 109) rfl rfl dU_alarm_102 dU_alarm_103 (by decide) hf (fun hf => ?_) (fun hf => ?_)
            · refine j_iload X dU_alarm_109 0 rfl ?_
              refine j_istore_n X (lv' := [(3, bz_i x2), (5, bz_i x2), (4, bz_i l4), (0, bz_rf E 0), (1, bz_i l1), (2, bz_i l2)]) dU_alarm_111 rfl (by decide) rfl ?_
              refine j_iinc X (y := l4 + 1) (lv' := [(4, bz_i (l4 + 1)), (3, bz_i x2), (5, bz_i x2), (0, bz_rf E 0), (1, bz_i l1), (2, bz_i l2)]) dU_alarm_112 2 rfl rfl (by decide) rfl ?_
              refine j_goto X (tgt := 29) dU_alarm_115 (by decide) ?_
              exact j_sub [0, 1, 3, 4, 5] rfl (ih _ _ hf)
            · refine j_iload X dU_alarm_106 1 rfl ?_
              exact j_iret X dU_alarm_108 (kr _ hf).1 (kr _ hf).2
        · refine j_goto X (tgt := 112) dU_alarm_61 (by decide) ?_
          refine j_iinc X (y := l4 + 1) (lv' := [(4, bz_i (l4 + 1)), (3, bz_i l3), (0, bz_rf E 0), (1, bz_i l1), (2, bz_i l2)]) dU_alarm_112 0 rfl rfl (by decide) rfl ?_
          refine j_goto X (tgt := 29) dU_alarm_115 (by decide) ?_
          exact ih _ _ hf
def fU_alarm (F : Nat) (M : bz_Mm) (a1 : Int) (a2 : Int) : Option (Int) :=
  if w32 (fUS_isFund M a1) = 0 then
  (some ((-1)))
  else
  (if w32 a2 < 0 then
  (some ((-1)))
  else
  (if 10000 < w32 a2 then
  (some ((-1)))
  else
  (cs1_ (U_alarm_L29 F F M a1 a2 0 ((-1))) (fun b => some b) fun _u =>
  some ((-1)))))
set_option maxHeartbeats 4000000 in
set_option maxRecDepth 20000 in
theorem cU_alarm (E : bz_E) (F : Nat)  {M : bz_Mm} {a1 : Int} {a2 : Int} {x0 : Int} (hf : fU_alarm F M a1 a2 = some x0) : bz_Ct E yU_alarm (.code yU_alarm prog_1_method_36_code 6 (some .int)) 2 41 [bz_rf E 0, bz_i a1, bz_i a2] M (some (bz_i x0)) M := by
  refine bz_met (by decide +kernel) (Nat.le_of_ble_eq_true rfl) (fun K X => ?_)
  have X : bz_X K E prog_1_method_36_code 6 "UnitsWrong" (some .int) 2 41 _ _ := X
  unfold fU_alarm at hf
  show bz_J K 6 0 [(0, bz_rf E 0), (1, bz_i a1), (2, bz_i a2)] [] M
  refine j_aload_n X dU_alarm_0 rfl 0 rfl ?_
  refine j_geta X gf_U_10_0 dU_alarm_1 ?_
  refine j_iload_n X dU_alarm_4 rfl 1 rfl ?_
  refine j_cv X (st := []) (cUS_isFund E) gyUS_isFund gv_US_isFund_1 rfl (by decide) (by decide) wd_584 rfl (Nat.le_of_ble_eq_true rfl) dU_alarm_5 ?_
  refine j_if_eq X (tgt := 22) rfl dU_alarm_8 (by decide) hf (fun hf => ?_) (fun hf => ?_)
  · refine j_iconst X dU_alarm_22 ?_
    cases hf
    exact j_iret X dU_alarm_23 rfl rfl
  · refine j_iload_n X dU_alarm_11 rfl 2 rfl ?_
    refine j_if_lt X (tgt := 22) rfl dU_alarm_12 (by decide) hf (fun hf => ?_) (fun hf => ?_)
    · refine j_iconst X dU_alarm_22 ?_
      cases hf
      exact j_iret X dU_alarm_23 rfl rfl
    · refine j_iload_n X dU_alarm_15 rfl 2 rfl ?_
      refine j_sipush X dU_alarm_16 rfl ?_
      refine j_icmp_le X (tgt := 24) rfl (w32_lit rfl) dU_alarm_19 (by decide) hf (fun hf => ?_) (fun hf => ?_)
      · refine j_iconst X dU_alarm_24 ?_
        refine j_istore_n X (lv' := [(3, bz_i ((-1))), (0, bz_rf E 0), (1, bz_i a1), (2, bz_i a2)]) dU_alarm_25 rfl (by decide) rfl ?_
        refine j_iconst X dU_alarm_26 ?_
        refine j_istore X (lv' := [(4, bz_i 0), (3, bz_i ((-1))), (0, bz_rf E 0), (1, bz_i a1), (2, bz_i a2)]) dU_alarm_27 (by decide) rfl ?_
        obtain ⟨res3, hz3, hk3, hr3⟩ := q_s1 hf
        clear hf
        refine lU_alarm_L29 E F X (fun _u he => ?_) (fun b he => ?_) F 0 ((-1)) hz3
        · have hf := hk3 _ he
          refine j_iconst X dU_alarm_118 ?_
          cases hf
          exact j_iret X dU_alarm_119 rfl rfl
        · have hf := hr3 _ he
          cases hf
          exact ⟨rfl, rfl⟩
      · refine j_iconst X dU_alarm_22 ?_
        cases hf
        exact j_iret X dU_alarm_23 rfl rfl
def gUS_isParty (M : bz_Mm) (a1 : Int) : Option Int :=
  if w32 a1 = 40 then
  (some 1)
  else
  (if w32 a1 = 41 then
  (some 1)
  else
  (if w32 (fUS_isHolder M a1) = 0 then
  (if w32 a1 < 20 then
  (some 0)
  else
  (if w32 (fUS_isFund M (a1 - 20)) = 0 then
  (some 0)
  else
  (some 1)))
  else
  (some 1)))
def fUS_isParty (M : bz_Mm) (a1 : Int) : Int :=
  if w32 a1 = 40 then
  (1)
  else
  (if w32 a1 = 41 then
  (1)
  else
  (if w32 (fUS_isHolder M a1) = 0 then
  (if w32 a1 < 20 then
  (0)
  else
  (if w32 (fUS_isFund M (a1 - 20)) = 0 then
  (0)
  else
  (1)))
  else
  (1)))
theorem tUS_isParty (M : bz_Mm) (a1 : Int) : gUS_isParty M a1 = some (fUS_isParty M a1) := by
  unfold gUS_isParty fUS_isParty
  (repeat' (first | rfl | split))
theorem zUS_isParty {M : bz_Mm} {a1 : Int} : fUS_isParty M a1 = 0 ∨ fUS_isParty M a1 = 1 := by
  unfold fUS_isParty
  (repeat' (first | exact Or.inl rfl | exact Or.inr rfl | exact zUS_isHolder | exact zUS_isFund | split))
set_option maxHeartbeats 4000000 in
set_option maxRecDepth 20000 in
theorem cUS_isParty (E : bz_E) {M : bz_Mm} {a1 : Int} : bz_Ct E yUS_isParty (.code yUS_isParty prog_9_method_5_code 2 (some .boolean)) 1 21 [bz_rf E 1, bz_i a1] M (some (bz_i (fUS_isParty M a1))) M := by
  have hf := tUS_isParty M a1
  refine bz_met (by decide +kernel) (Nat.le_of_ble_eq_true rfl) (fun K X => ?_)
  have X : bz_X K E prog_9_method_5_code 2 "UnitsWrong$State" (some .boolean) 1 21 _ _ := X
  unfold gUS_isParty at hf
  generalize fUS_isParty M a1 = rr at hf X
  show bz_J K 2 0 [(0, bz_rf E 1), (1, bz_i a1)] [] M
  refine j_iload_n X dUS_isParty_0 rfl 1 rfl ?_
  refine j_bipush X dUS_isParty_1 rfl ?_
  refine j_icmp_eq X (tgt := 20) rfl (w32_lit rfl) dUS_isParty_3 (by decide) hf (fun hf => ?_) (fun hf => ?_)
  · refine j_iconst X dUS_isParty_20 ?_
    cases hf
    exact j_zret X (by decide +kernel) dUS_isParty_21 rfl rfl
  · refine j_iload_n X dUS_isParty_6 rfl 1 rfl ?_
    refine j_bipush X dUS_isParty_7 rfl ?_
    refine j_icmp_eq X (tgt := 20) rfl (w32_lit rfl) dUS_isParty_9 (by decide) hf (fun hf => ?_) (fun hf => ?_)
    · refine j_iconst X dUS_isParty_20 ?_
      cases hf
      exact j_zret X (by decide +kernel) dUS_isParty_21 rfl rfl
    · refine j_aload_n X dUS_isParty_12 rfl 0 rfl ?_
      refine j_iload_n X dUS_isParty_13 rfl 1 rfl ?_
      refine j_cv X (st := []) (cUS_isHolder E) gyUS_isHolder gv_US_isHolder_1 rfl (by decide) (by decide) wd_605 rfl (Nat.le_of_ble_eq_true rfl) dUS_isParty_14 ?_
      refine j_if_eq X (tgt := 22) rfl dUS_isParty_17 (by decide) hf (fun hf => ?_) (fun hf => ?_)
      · refine j_iload_n X dUS_isParty_22 rfl 1 rfl ?_
        refine j_bipush X dUS_isParty_23 rfl ?_
        refine j_icmp_lt X (tgt := 43) rfl (w32_lit rfl) dUS_isParty_25 (by decide) hf (fun hf => ?_) (fun hf => ?_)
        · refine j_iconst X dUS_isParty_43 ?_
          cases hf
          exact j_zret X (by decide +kernel) dUS_isParty_44 rfl rfl
        · refine j_aload_n X dUS_isParty_28 rfl 0 rfl ?_
          refine j_iload_n X dUS_isParty_29 rfl 1 rfl ?_
          refine j_bipush X dUS_isParty_30 rfl ?_
          refine j_isub X dUS_isParty_32 ?_
          refine j_cv X (st := []) (cUS_isFund E) gyUS_isFund gv_US_isFund_1 rfl (by decide) (by decide) wd_604 rfl (Nat.le_of_ble_eq_true rfl) dUS_isParty_33 ?_
          refine j_if_eq X (tgt := 43) rfl dUS_isParty_36 (by decide) hf (fun hf => ?_) (fun hf => ?_)
          · refine j_iconst X dUS_isParty_43 ?_
            cases hf
            exact j_zret X (by decide +kernel) dUS_isParty_44 rfl rfl
          · refine j_iconst X dUS_isParty_39 ?_
            refine j_goto X (tgt := 44) dUS_isParty_40 (by decide) ?_
            cases hf
            exact j_zret X (by decide +kernel) dUS_isParty_44 rfl rfl
      · refine j_iconst X dUS_isParty_20 ?_
        cases hf
        exact j_zret X (by decide +kernel) dUS_isParty_21 rfl rfl
def fU_count (F : Nat) (M : bz_Mm) (a1 : Int) : Option (Int) :=
  if w32 a1 < 20 then
  (if w32 a1 = 0 then
  (some (M 1 13))
  else if w32 a1 = 1 then
  (some (M 1 14))
  else if w32 a1 = 2 then
  (some (M 1 15))
  else if w32 a1 = 3 then
  (some (M 9 2))
  else if w32 a1 = 4 then
  (some (M 25 2))
  else if w32 a1 = 5 then
  (some (M 34 2))
  else if w32 a1 = 6 then
  (some (M 45 2))
  else if w32 a1 = 7 then
  (some (M 50 2))
  else if w32 a1 = 8 then
  (some (M 77 3))
  else if w32 a1 = 9 then
  (some (M 17 2))
  else if w32 a1 = 10 then
  (some (M 1 16))
  else (some ((-1))))
  else
  (if w32 (fUS_isFund M (a1 - 20)) = 0 then
  (if w32 a1 = 0 then
  (some (M 1 13))
  else if w32 a1 = 1 then
  (some (M 1 14))
  else if w32 a1 = 2 then
  (some (M 1 15))
  else if w32 a1 = 3 then
  (some (M 9 2))
  else if w32 a1 = 4 then
  (some (M 25 2))
  else if w32 a1 = 5 then
  (some (M 34 2))
  else if w32 a1 = 6 then
  (some (M 45 2))
  else if w32 a1 = 7 then
  (some (M 50 2))
  else if w32 a1 = 8 then
  (some (M 77 3))
  else if w32 a1 = 9 then
  (some (M 17 2))
  else if w32 a1 = 10 then
  (some (M 1 16))
  else (some ((-1))))
  else
  (rd_ M 44 (a1 - 20) 4 fun x1 =>
  some x1))
set_option maxHeartbeats 4000000 in
set_option maxRecDepth 20000 in
theorem cU_count (E : bz_E) (F : Nat)  {M : bz_Mm} {a1 : Int} {x0 : Int} (hf : fU_count F M a1 = some x0) : bz_Ct E yU_count (.code yU_count prog_1_method_41_code 2 (some .int)) 1 21 [bz_rf E 0, bz_i a1] M (some (bz_i x0)) M := by
  refine bz_met (by decide +kernel) (Nat.le_of_ble_eq_true rfl) (fun K X => ?_)
  have X : bz_X K E prog_1_method_41_code 2 "UnitsWrong" (some .int) 1 21 _ _ := X
  unfold fU_count at hf
  show bz_J K 2 0 [(0, bz_rf E 0), (1, bz_i a1)] [] M
  refine j_iload_n X dU_count_0 rfl 1 rfl ?_
  refine j_bipush X dU_count_1 rfl ?_
  refine j_icmp_lt X (tgt := 36) rfl (w32_lit rfl) dU_count_3 (by decide) hf (fun hf => ?_) (fun hf => ?_)
  · refine j_iload_n X dU_count_36 rfl 1 rfl ?_
    rcases q_ite hf with ⟨hc0, hf⟩ | ⟨hc0, hf⟩
    · refine j_tabIn X (tgt := 96) (v := 0) hc0 dU_count_37 (by decide) (by decide) rfl (by decide) ?_
      refine j_aload_n X dU_count_96 rfl 0 rfl ?_
      refine j_geta X gf_U_10_0 dU_count_97 ?_
      refine j_geti X gf_U_51_1 dU_count_100 ?_
      cases hf
      exact j_iret X dU_count_103 rfl rfl
    rcases q_ite hf with ⟨hc1, hf⟩ | ⟨hc1, hf⟩
    · refine j_tabIn X (tgt := 104) (v := 1) hc1 dU_count_37 (by decide) (by decide) rfl (by decide) ?_
      refine j_aload_n X dU_count_104 rfl 0 rfl ?_
      refine j_geta X gf_U_10_0 dU_count_105 ?_
      refine j_geti X gf_U_60_1 dU_count_108 ?_
      cases hf
      exact j_iret X dU_count_111 rfl rfl
    rcases q_ite hf with ⟨hc2, hf⟩ | ⟨hc2, hf⟩
    · refine j_tabIn X (tgt := 112) (v := 2) hc2 dU_count_37 (by decide) (by decide) rfl (by decide) ?_
      refine j_aload_n X dU_count_112 rfl 0 rfl ?_
      refine j_geta X gf_U_10_0 dU_count_113 ?_
      refine j_geti X gf_U_70_1 dU_count_116 ?_
      cases hf
      exact j_iret X dU_count_119 rfl rfl
    rcases q_ite hf with ⟨hc3, hf⟩ | ⟨hc3, hf⟩
    · refine j_tabIn X (tgt := 120) (v := 3) hc3 dU_count_37 (by decide) (by decide) rfl (by decide) ?_
      refine j_aload_n X dU_count_120 rfl 0 rfl ?_
      refine j_geta X gf_U_10_0 dU_count_121 ?_
      refine j_geta X gf_U_91_1 dU_count_124 ?_
      refine j_geta X gf_U_101_8 dU_count_127 ?_
      refine j_geti X gf_U_105_9 dU_count_130 ?_
      cases hf
      exact j_iret X dU_count_133 rfl rfl
    rcases q_ite hf with ⟨hc4, hf⟩ | ⟨hc4, hf⟩
    · refine j_tabIn X (tgt := 134) (v := 4) hc4 dU_count_37 (by decide) (by decide) rfl (by decide) ?_
      refine j_aload_n X dU_count_134 rfl 0 rfl ?_
      refine j_geta X gf_U_10_0 dU_count_135 ?_
      refine j_geta X gf_U_134_1 dU_count_138 ?_
      refine j_geta X gf_U_359_24 dU_count_141 ?_
      refine j_geti X gf_U_105_25 dU_count_144 ?_
      cases hf
      exact j_iret X dU_count_147 rfl rfl
    rcases q_ite hf with ⟨hc5, hf⟩ | ⟨hc5, hf⟩
    · refine j_tabIn X (tgt := 148) (v := 5) hc5 dU_count_37 (by decide) (by decide) rfl (by decide) ?_
      refine j_aload_n X dU_count_148 rfl 0 rfl ?_
      refine j_geta X gf_U_10_0 dU_count_149 ?_
      refine j_geta X gf_U_155_1 dU_count_152 ?_
      refine j_geta X gf_U_267_33 dU_count_155 ?_
      refine j_geti X gf_U_105_34 dU_count_158 ?_
      cases hf
      exact j_iret X dU_count_161 rfl rfl
    rcases q_ite hf with ⟨hc6, hf⟩ | ⟨hc6, hf⟩
    · refine j_tabIn X (tgt := 162) (v := 6) hc6 dU_count_37 (by decide) (by decide) rfl (by decide) ?_
      refine j_aload_n X dU_count_162 rfl 0 rfl ?_
      refine j_geta X gf_U_10_0 dU_count_163 ?_
      refine j_geta X gf_U_173_1 dU_count_166 ?_
      refine j_geti X gf_U_177_45 dU_count_169 ?_
      cases hf
      exact j_iret X dU_count_172 rfl rfl
    rcases q_ite hf with ⟨hc7, hf⟩ | ⟨hc7, hf⟩
    · refine j_tabIn X (tgt := 173) (v := 7) hc7 dU_count_37 (by decide) (by decide) rfl (by decide) ?_
      refine j_aload_n X dU_count_173 rfl 0 rfl ?_
      refine j_geta X gf_U_19_0 dU_count_174 ?_
      refine j_geti X gf_U_162_50 dU_count_177 ?_
      cases hf
      exact j_iret X dU_count_180 rfl rfl
    rcases q_ite hf with ⟨hc8, hf⟩ | ⟨hc8, hf⟩
    · refine j_tabIn X (tgt := 181) (v := 8) hc8 dU_count_37 (by decide) (by decide) rfl (by decide) ?_
      refine j_aload_n X dU_count_181 rfl 0 rfl ?_
      refine j_geta X gf_U_47_0 dU_count_182 ?_
      refine j_geti X gf_U_309_77 dU_count_185 ?_
      cases hf
      exact j_iret X dU_count_188 rfl rfl
    rcases q_ite hf with ⟨hc9, hf⟩ | ⟨hc9, hf⟩
    · refine j_tabIn X (tgt := 189) (v := 9) hc9 dU_count_37 (by decide) (by decide) rfl (by decide) ?_
      refine j_aload_n X dU_count_189 rfl 0 rfl ?_
      refine j_geta X gf_U_10_0 dU_count_190 ?_
      refine j_geta X gf_U_306_1 dU_count_193 ?_
      refine j_geta X gf_U_101_16 dU_count_196 ?_
      refine j_geti X gf_U_105_17 dU_count_199 ?_
      cases hf
      exact j_iret X dU_count_202 rfl rfl
    rcases q_ite hf with ⟨hc10, hf⟩ | ⟨hc10, hf⟩
    · refine j_tabIn X (tgt := 203) (v := 10) hc10 dU_count_37 (by decide) (by decide) rfl (by decide) ?_
      refine j_aload_n X dU_count_203 rfl 0 rfl ?_
      refine j_geta X gf_U_10_0 dU_count_204 ?_
      refine j_geti X gf_U_80_1 dU_count_207 ?_
      cases hf
      exact j_iret X dU_count_210 rfl rfl
    refine j_tabOut X (tgt := 211) (by omega) dU_count_37 (by decide) ?_
    refine j_iconst X dU_count_211 ?_
    cases hf
    exact j_iret X dU_count_212 rfl rfl
  · refine j_aload_n X dU_count_6 rfl 0 rfl ?_
    refine j_geta X gf_U_10_0 dU_count_7 ?_
    refine j_iload_n X dU_count_10 rfl 1 rfl ?_
    refine j_bipush X dU_count_11 rfl ?_
    refine j_isub X dU_count_13 ?_
    refine j_cv X (st := []) (cUS_isFund E) gyUS_isFund gv_US_isFund_1 rfl (by decide) (by decide) wd_584 rfl (Nat.le_of_ble_eq_true rfl) dU_count_14 ?_
    refine j_if_eq X (tgt := 36) rfl dU_count_17 (by decide) hf (fun hf => ?_) (fun hf => ?_)
    · refine j_iload_n X dU_count_36 rfl 1 rfl ?_
      rcases q_ite hf with ⟨hc0, hf⟩ | ⟨hc0, hf⟩
      · refine j_tabIn X (tgt := 96) (v := 0) hc0 dU_count_37 (by decide) (by decide) rfl (by decide) ?_
        refine j_aload_n X dU_count_96 rfl 0 rfl ?_
        refine j_geta X gf_U_10_0 dU_count_97 ?_
        refine j_geti X gf_U_51_1 dU_count_100 ?_
        cases hf
        exact j_iret X dU_count_103 rfl rfl
      rcases q_ite hf with ⟨hc1, hf⟩ | ⟨hc1, hf⟩
      · refine j_tabIn X (tgt := 104) (v := 1) hc1 dU_count_37 (by decide) (by decide) rfl (by decide) ?_
        refine j_aload_n X dU_count_104 rfl 0 rfl ?_
        refine j_geta X gf_U_10_0 dU_count_105 ?_
        refine j_geti X gf_U_60_1 dU_count_108 ?_
        cases hf
        exact j_iret X dU_count_111 rfl rfl
      rcases q_ite hf with ⟨hc2, hf⟩ | ⟨hc2, hf⟩
      · refine j_tabIn X (tgt := 112) (v := 2) hc2 dU_count_37 (by decide) (by decide) rfl (by decide) ?_
        refine j_aload_n X dU_count_112 rfl 0 rfl ?_
        refine j_geta X gf_U_10_0 dU_count_113 ?_
        refine j_geti X gf_U_70_1 dU_count_116 ?_
        cases hf
        exact j_iret X dU_count_119 rfl rfl
      rcases q_ite hf with ⟨hc3, hf⟩ | ⟨hc3, hf⟩
      · refine j_tabIn X (tgt := 120) (v := 3) hc3 dU_count_37 (by decide) (by decide) rfl (by decide) ?_
        refine j_aload_n X dU_count_120 rfl 0 rfl ?_
        refine j_geta X gf_U_10_0 dU_count_121 ?_
        refine j_geta X gf_U_91_1 dU_count_124 ?_
        refine j_geta X gf_U_101_8 dU_count_127 ?_
        refine j_geti X gf_U_105_9 dU_count_130 ?_
        cases hf
        exact j_iret X dU_count_133 rfl rfl
      rcases q_ite hf with ⟨hc4, hf⟩ | ⟨hc4, hf⟩
      · refine j_tabIn X (tgt := 134) (v := 4) hc4 dU_count_37 (by decide) (by decide) rfl (by decide) ?_
        refine j_aload_n X dU_count_134 rfl 0 rfl ?_
        refine j_geta X gf_U_10_0 dU_count_135 ?_
        refine j_geta X gf_U_134_1 dU_count_138 ?_
        refine j_geta X gf_U_359_24 dU_count_141 ?_
        refine j_geti X gf_U_105_25 dU_count_144 ?_
        cases hf
        exact j_iret X dU_count_147 rfl rfl
      rcases q_ite hf with ⟨hc5, hf⟩ | ⟨hc5, hf⟩
      · refine j_tabIn X (tgt := 148) (v := 5) hc5 dU_count_37 (by decide) (by decide) rfl (by decide) ?_
        refine j_aload_n X dU_count_148 rfl 0 rfl ?_
        refine j_geta X gf_U_10_0 dU_count_149 ?_
        refine j_geta X gf_U_155_1 dU_count_152 ?_
        refine j_geta X gf_U_267_33 dU_count_155 ?_
        refine j_geti X gf_U_105_34 dU_count_158 ?_
        cases hf
        exact j_iret X dU_count_161 rfl rfl
      rcases q_ite hf with ⟨hc6, hf⟩ | ⟨hc6, hf⟩
      · refine j_tabIn X (tgt := 162) (v := 6) hc6 dU_count_37 (by decide) (by decide) rfl (by decide) ?_
        refine j_aload_n X dU_count_162 rfl 0 rfl ?_
        refine j_geta X gf_U_10_0 dU_count_163 ?_
        refine j_geta X gf_U_173_1 dU_count_166 ?_
        refine j_geti X gf_U_177_45 dU_count_169 ?_
        cases hf
        exact j_iret X dU_count_172 rfl rfl
      rcases q_ite hf with ⟨hc7, hf⟩ | ⟨hc7, hf⟩
      · refine j_tabIn X (tgt := 173) (v := 7) hc7 dU_count_37 (by decide) (by decide) rfl (by decide) ?_
        refine j_aload_n X dU_count_173 rfl 0 rfl ?_
        refine j_geta X gf_U_19_0 dU_count_174 ?_
        refine j_geti X gf_U_162_50 dU_count_177 ?_
        cases hf
        exact j_iret X dU_count_180 rfl rfl
      rcases q_ite hf with ⟨hc8, hf⟩ | ⟨hc8, hf⟩
      · refine j_tabIn X (tgt := 181) (v := 8) hc8 dU_count_37 (by decide) (by decide) rfl (by decide) ?_
        refine j_aload_n X dU_count_181 rfl 0 rfl ?_
        refine j_geta X gf_U_47_0 dU_count_182 ?_
        refine j_geti X gf_U_309_77 dU_count_185 ?_
        cases hf
        exact j_iret X dU_count_188 rfl rfl
      rcases q_ite hf with ⟨hc9, hf⟩ | ⟨hc9, hf⟩
      · refine j_tabIn X (tgt := 189) (v := 9) hc9 dU_count_37 (by decide) (by decide) rfl (by decide) ?_
        refine j_aload_n X dU_count_189 rfl 0 rfl ?_
        refine j_geta X gf_U_10_0 dU_count_190 ?_
        refine j_geta X gf_U_306_1 dU_count_193 ?_
        refine j_geta X gf_U_101_16 dU_count_196 ?_
        refine j_geti X gf_U_105_17 dU_count_199 ?_
        cases hf
        exact j_iret X dU_count_202 rfl rfl
      rcases q_ite hf with ⟨hc10, hf⟩ | ⟨hc10, hf⟩
      · refine j_tabIn X (tgt := 203) (v := 10) hc10 dU_count_37 (by decide) (by decide) rfl (by decide) ?_
        refine j_aload_n X dU_count_203 rfl 0 rfl ?_
        refine j_geta X gf_U_10_0 dU_count_204 ?_
        refine j_geti X gf_U_80_1 dU_count_207 ?_
        cases hf
        exact j_iret X dU_count_210 rfl rfl
      refine j_tabOut X (tgt := 211) (by omega) dU_count_37 (by decide) ?_
      refine j_iconst X dU_count_211 ?_
      cases hf
      exact j_iret X dU_count_212 rfl rfl
    · refine j_aload_n X dU_count_20 rfl 0 rfl ?_
      refine j_geta X gf_U_10_0 dU_count_21 ?_
      refine j_geta X gf_U_155_1 dU_count_24 ?_
      refine j_geta X gf_U_356_33 dU_count_27 ?_
      refine j_iload_n X dU_count_30 rfl 1 rfl ?_
      refine j_bipush X dU_count_31 rfl ?_
      refine j_isub X dU_count_33 ?_
      show bz_J _ _ 34 _ _ _
      refine j_iald X sh_44 dU_count_34 hf (fun x1 hf => ?_)
      cases hf
      exact j_iret X dU_count_35 rfl rfl
def gM_in (a0 : Int) (a1 : Int) (a2 : Int) : Option Int :=
  if w64 a0 < w64 a1 then
  (some 0)
  else
  (if w64 a2 < w64 a0 then
  (some 0)
  else
  (some 1))
def fM_in (a0 : Int) (a1 : Int) (a2 : Int) : Int :=
  if w64 a0 < w64 a1 then
  (0)
  else
  (if w64 a2 < w64 a0 then
  (0)
  else
  (1))
theorem tM_in (a0 : Int) (a1 : Int) (a2 : Int) : gM_in a0 a1 a2 = some (fM_in a0 a1 a2) := by
  unfold gM_in fM_in
  (repeat' (first | rfl | split))
theorem zM_in {a0 : Int} {a1 : Int} {a2 : Int} : fM_in a0 a1 a2 = 0 ∨ fM_in a0 a1 a2 = 1 := by
  unfold fM_in
  (repeat' (first | exact Or.inl rfl | exact Or.inr rfl | split))
set_option maxHeartbeats 4000000 in
set_option maxRecDepth 20000 in
theorem cM_in (E : bz_E) {M : bz_Mm} {a0 : Int} {a1 : Int} {a2 : Int} : bz_Ct E yM_in (.code yM_in prog_14_method_2_code 6 (some .boolean)) 0 0 [bz_l a0, bz_l a1, bz_l a2] M (some (bz_i (fM_in a0 a1 a2))) M := by
  have hf := tM_in a0 a1 a2
  refine bz_met (by decide +kernel) (Nat.le_of_ble_eq_true rfl) (fun K X => ?_)
  have X : bz_X K E prog_14_method_2_code 6 "UnitsWrongModel" (some .boolean) 0 0 _ _ := X
  unfold gM_in at hf
  generalize fM_in a0 a1 a2 = rr at hf X
  show bz_J K 6 0 [(0, bz_l a0), (2, bz_l a1), (4, bz_l a2)] [] M
  refine j_lload_n X dM_in_0 rfl 0 rfl ?_
  refine j_lload_n X dM_in_1 rfl 1 rfl ?_
  refine j_lcmp_lt X (tgt := 17) rfl rfl dM_in_2 dM_in_3 (by decide) hf (fun hf => ?_) (fun hf => ?_)
  · refine j_iconst X dM_in_17 ?_
    cases hf
    exact j_zret X (by decide +kernel) dM_in_18 rfl rfl
  · refine j_lload_n X dM_in_6 rfl 0 rfl ?_
    refine j_lload X dM_in_7 2 rfl ?_
    refine j_lcmp_gt X (tgt := 17) rfl rfl dM_in_9 dM_in_10 (by decide) hf (fun hf => ?_) (fun hf => ?_)
    · refine j_iconst X dM_in_17 ?_
      cases hf
      exact j_zret X (by decide +kernel) dM_in_18 rfl rfl
    · refine j_iconst X dM_in_13 ?_
      refine j_goto X (tgt := 18) dM_in_14 (by decide) ?_
      cases hf
      exact j_zret X (by decide +kernel) dM_in_18 rfl rfl
def fM_holiday (F : Nat) (M : bz_Mm) (a1 : Int) : Option (Int × bz_Mm) :=
  if w32 (fM_in (w32 a1) (w32 ((M 81 0) + 1)) 259) = 0 then
  (some ((0, M)))
  else
  (rd_ M 82 a1 260 fun x1 =>
  if w32 x1 = 0 then
  (wa_ M 82 a1 260 1 fun m2 =>
  wf_ m2 81 2 ((m2 81 2) + 1) fun m3 =>
  some ((1, m3)))
  else
  (some ((0, M))))
set_option maxHeartbeats 4000000 in
set_option maxRecDepth 20000 in
theorem cM_holiday (E : bz_E) (F : Nat)  {M : bz_Mm} {a1 : Int} {x0 : Int × bz_Mm} (hf : fM_holiday F M a1 = some x0) : bz_Ct E yM_holiday (.code yM_holiday prog_14_method_7_code 2 (some .boolean)) 1 25 [bz_rf E 81, bz_i a1] M (some (bz_i x0.1)) x0.2 := by
  refine bz_met (by decide +kernel) (Nat.le_of_ble_eq_true rfl) (fun K X => ?_)
  have X : bz_X K E prog_14_method_7_code 2 "UnitsWrongModel" (some .boolean) 1 25 _ _ := X
  unfold fM_holiday at hf
  show bz_J K 2 0 [(0, bz_rf E 81), (1, bz_i a1)] [] M
  refine j_iload_n X dM_holiday_0 rfl 1 rfl ?_
  refine j_i2l X rfl dM_holiday_1 ?_
  refine j_aload_n X dM_holiday_2 rfl 0 rfl ?_
  refine j_geti X gf_M_216_81 dM_holiday_3 ?_
  refine j_iconst X dM_holiday_6 ?_
  refine j_iadd X dM_holiday_7 ?_
  refine j_i2l X rfl dM_holiday_8 ?_
  show bz_J _ _ 9 _ _ _
  refine j_ldc2 X (v := 259) wd_1412 dM_holiday_9 ?_
  refine j_cs X (st := []) (cM_in E) gyM_in wd_1414 rfl (by decide) (by decide) wd_1413 rfl (Nat.le_of_ble_eq_true rfl) dM_holiday_12 ?_
  refine j_if_eq X (tgt := 27) rfl dM_holiday_15 (by decide) hf (fun hf => ?_) (fun hf => ?_)
  · refine j_iconst X dM_holiday_27 ?_
    cases hf
    exact j_zret X (by decide +kernel) dM_holiday_28 rfl rfl
  · refine j_aload_n X dM_holiday_18 rfl 0 rfl ?_
    refine j_geta X gf_M_9_81 dM_holiday_19 ?_
    refine j_iload_n X dM_holiday_22 rfl 1 rfl ?_
    refine j_zald X sh_82 dM_holiday_23 hf (fun x1 hf => ?_)
    refine j_if_eq X (tgt := 29) rfl dM_holiday_24 (by decide) hf (fun hf => ?_) (fun hf => ?_)
    · refine j_aload_n X dM_holiday_29 rfl 0 rfl ?_
      refine j_geta X gf_M_9_81 dM_holiday_30 ?_
      refine j_iload_n X dM_holiday_33 rfl 1 rfl ?_
      refine j_iconst X dM_holiday_34 ?_
      refine j_zast X sh_82 (by decide +kernel) dM_holiday_35 hf (fun m2 hf => ?_)
      refine j_aload_n X dM_holiday_36 rfl 0 rfl ?_
      refine j_dup X dM_holiday_37 rfl ?_
      show bz_J _ _ 38 _ _ _
      refine j_geti X gf_M_226_81 dM_holiday_38 ?_
      refine j_iconst X dM_holiday_41 ?_
      refine j_iadd X dM_holiday_42 ?_
      refine j_puti X pf_M_226_81 dM_holiday_43 hf (fun m3 hf => ?_)
      refine j_iconst X dM_holiday_46 ?_
      cases hf
      exact j_zret X (by decide +kernel) dM_holiday_47 rfl rfl
    · refine j_iconst X dM_holiday_27 ?_
      cases hf
      exact j_zret X (by decide +kernel) dM_holiday_28 rfl rfl
def fM_isOpen (F : Nat) (M : bz_Mm) (a1 : Int) : Option (Int) :=
  if w32 (fM_in (w32 a1) 0 259) = 0 then
  (some 0)
  else
  (if w32 ((w32 a1).tmod 7) < 5 then
  (rd_ M 82 a1 260 fun x1 =>
  if w32 x1 = 0 then
  (some 1)
  else
  (some 0))
  else
  (some 0))
set_option maxHeartbeats 4000000 in
set_option maxRecDepth 20000 in
theorem cM_isOpen (E : bz_E) (F : Nat)  {M : bz_Mm} {a1 : Int} {x0 : Int} (hf : fM_isOpen F M a1 = some x0) : bz_Ct E yM_isOpen (.code yM_isOpen prog_14_method_6_code 2 (some .boolean)) 1 25 [bz_rf E 81, bz_i a1] M (some (bz_i x0)) M := by
  refine bz_met (by decide +kernel) (Nat.le_of_ble_eq_true rfl) (fun K X => ?_)
  have X : bz_X K E prog_14_method_6_code 2 "UnitsWrongModel" (some .boolean) 1 25 _ _ := X
  unfold fM_isOpen at hf
  show bz_J K 2 0 [(0, bz_rf E 81), (1, bz_i a1)] [] M
  refine j_iload_n X dM_isOpen_0 rfl 1 rfl ?_
  refine j_i2l X rfl dM_isOpen_1 ?_
  refine j_lconst X (v := 0) dM_isOpen_2 rfl ?_
  refine j_ldc2 X (v := 259) wd_1412 dM_isOpen_3 ?_
  refine j_cs X (st := []) (cM_in E) gyM_in wd_1414 rfl (by decide) (by decide) wd_1413 rfl (Nat.le_of_ble_eq_true rfl) dM_isOpen_6 ?_
  refine j_if_eq X (tgt := 33) rfl dM_isOpen_9 (by decide) hf (fun hf => ?_) (fun hf => ?_)
  · refine j_iconst X dM_isOpen_33 ?_
    cases hf
    exact j_zret X (by decide +kernel) dM_isOpen_34 rfl rfl
  · refine j_iload_n X dM_isOpen_12 rfl 1 rfl ?_
    refine j_bipush X dM_isOpen_13 rfl ?_
    refine j_irl X (w32_lit rfl) (by decide) dM_isOpen_15 ?_
    refine j_iconst X dM_isOpen_16 ?_
    refine j_icmp_ge X (tgt := 33) rfl (w32_lit rfl) dM_isOpen_17 (by decide) hf (fun hf => ?_) (fun hf => ?_)
    · refine j_iconst X dM_isOpen_33 ?_
      cases hf
      exact j_zret X (by decide +kernel) dM_isOpen_34 rfl rfl
    · refine j_aload_n X dM_isOpen_20 rfl 0 rfl ?_
      refine j_geta X gf_M_9_81 dM_isOpen_21 ?_
      refine j_iload_n X dM_isOpen_24 rfl 1 rfl ?_
      refine j_zald X sh_82 dM_isOpen_25 hf (fun x1 hf => ?_)
      refine j_if_ne X (tgt := 33) rfl dM_isOpen_26 (by decide) hf (fun hf => ?_) (fun hf => ?_)
      · refine j_iconst X dM_isOpen_33 ?_
        cases hf
        exact j_zret X (by decide +kernel) dM_isOpen_34 rfl rfl
      · refine j_iconst X dM_isOpen_29 ?_
        refine j_goto X (tgt := 34) dM_isOpen_30 (by decide) ?_
        cases hf
        exact j_zret X (by decide +kernel) dM_isOpen_34 rfl rfl
def fM_open (F : Nat) (M : bz_Mm) (a1 : Int) : Option (Int) :=
  cl_ (fM_isOpen F M a1) fun x1 =>
  bo_ x1 (some x1)
set_option maxHeartbeats 4000000 in
set_option maxRecDepth 20000 in
theorem cM_open (E : bz_E) (F : Nat)  {M : bz_Mm} {a1 : Int} {x0 : Int} (hf : fM_open F M a1 = some x0) : bz_Ct E yM_open (.code yM_open prog_14_method_8_code 2 (some .boolean)) 2 46 [bz_rf E 81, bz_i a1] M (some (bz_i x0)) M := by
  refine bz_met (by decide +kernel) (Nat.le_of_ble_eq_true rfl) (fun K X => ?_)
  have X : bz_X K E prog_14_method_8_code 2 "UnitsWrongModel" (some .boolean) 2 46 _ _ := X
  unfold fM_open at hf
  show bz_J K 2 0 [(0, bz_rf E 81), (1, bz_i a1)] [] M
  refine j_aload_n X dM_open_0 rfl 0 rfl ?_
  refine j_iload_n X dM_open_1 rfl 1 rfl ?_
  obtain ⟨x1, hzx1, hf⟩ := q_cl hf
  refine j_cv X (st := []) (cM_isOpen E F hzx1) gyM_isOpen gv_M_isOpen_81 rfl (by decide) (by decide) wd_1420 rfl (Nat.le_of_ble_eq_true rfl) dM_open_2 ?_
  obtain ⟨hbo, hf⟩ := q_in hf
  cases hf
  exact j_zret X (bz_zz hbo) dM_open_5 rfl rfl
def gM_isSubject (a0 : Int) (a1 : Int) : Option Int :=
  if w32 a0 = 1 then
  (some (fM_in (w32 a1) 1 2))
  else
  (if w32 (fM_in (w32 a0) 0 3) = 0 then
  (some 0)
  else
  (if w32 (fM_in (w32 a1) 0 7) = 0 then
  (some 0)
  else
  (some 1)))
def fM_isSubject (a0 : Int) (a1 : Int) : Int :=
  if w32 a0 = 1 then
  ((fM_in (w32 a1) 1 2))
  else
  (if w32 (fM_in (w32 a0) 0 3) = 0 then
  (0)
  else
  (if w32 (fM_in (w32 a1) 0 7) = 0 then
  (0)
  else
  (1)))
theorem tM_isSubject (a0 : Int) (a1 : Int) : gM_isSubject a0 a1 = some (fM_isSubject a0 a1) := by
  unfold gM_isSubject fM_isSubject
  (repeat' (first | rfl | split))
theorem zM_isSubject {a0 : Int} {a1 : Int} : fM_isSubject a0 a1 = 0 ∨ fM_isSubject a0 a1 = 1 := by
  unfold fM_isSubject
  (repeat' (first | exact Or.inl rfl | exact Or.inr rfl | exact zM_in | exact zM_in | exact zM_in | split))
set_option maxHeartbeats 4000000 in
set_option maxRecDepth 20000 in
theorem cM_isSubject (E : bz_E) {M : bz_Mm} {a0 : Int} {a1 : Int} : bz_Ct E yM_isSubject (.code yM_isSubject prog_14_method_9_code 2 (some .boolean)) 1 25 [bz_i a0, bz_i a1] M (some (bz_i (fM_isSubject a0 a1))) M := by
  have hf := tM_isSubject a0 a1
  refine bz_met (by decide +kernel) (Nat.le_of_ble_eq_true rfl) (fun K X => ?_)
  have X : bz_X K E prog_14_method_9_code 2 "UnitsWrongModel" (some .boolean) 1 25 _ _ := X
  unfold gM_isSubject at hf
  generalize fM_isSubject a0 a1 = rr at hf X
  show bz_J K 2 0 [(0, bz_i a0), (1, bz_i a1)] [] M
  refine j_iload_n X dM_isSubject_0 rfl 0 rfl ?_
  refine j_iconst X dM_isSubject_1 ?_
  refine j_icmp_ne X (tgt := 17) rfl (w32_lit rfl) dM_isSubject_2 (by decide) hf (fun hf => ?_) (fun hf => ?_)
  · refine j_iload_n X dM_isSubject_17 rfl 0 rfl ?_
    refine j_i2l X rfl dM_isSubject_18 ?_
    refine j_lconst X (v := 0) dM_isSubject_19 rfl ?_
    refine j_ldc2 X (v := 3) wd_1435 dM_isSubject_20 ?_
    refine j_cs X (st := []) (cM_in E) gyM_in wd_1414 rfl (by decide) (by decide) wd_1413 rfl (Nat.le_of_ble_eq_true rfl) dM_isSubject_23 ?_
    refine j_if_eq X (tgt := 45) rfl dM_isSubject_26 (by decide) hf (fun hf => ?_) (fun hf => ?_)
    · refine j_iconst X dM_isSubject_45 ?_
      cases hf
      exact j_zret X (by decide +kernel) dM_isSubject_46 rfl rfl
    · refine j_iload_n X dM_isSubject_29 rfl 1 rfl ?_
      refine j_i2l X rfl dM_isSubject_30 ?_
      refine j_lconst X (v := 0) dM_isSubject_31 rfl ?_
      refine j_ldc2 X (v := 7) wd_1436 dM_isSubject_32 ?_
      refine j_cs X (st := []) (cM_in E) gyM_in wd_1414 rfl (by decide) (by decide) wd_1413 rfl (Nat.le_of_ble_eq_true rfl) dM_isSubject_35 ?_
      refine j_if_eq X (tgt := 45) rfl dM_isSubject_38 (by decide) hf (fun hf => ?_) (fun hf => ?_)
      · refine j_iconst X dM_isSubject_45 ?_
        cases hf
        exact j_zret X (by decide +kernel) dM_isSubject_46 rfl rfl
      · refine j_iconst X dM_isSubject_41 ?_
        refine j_goto X (tgt := 46) dM_isSubject_42 (by decide) ?_
        cases hf
        exact j_zret X (by decide +kernel) dM_isSubject_46 rfl rfl
  · refine j_iload_n X dM_isSubject_5 rfl 1 rfl ?_
    refine j_i2l X rfl dM_isSubject_6 ?_
    refine j_lconst X (v := 1) dM_isSubject_7 rfl ?_
    refine j_ldc2 X (v := 2) wd_1434 dM_isSubject_8 ?_
    refine j_cs X (st := []) (cM_in E) gyM_in wd_1414 rfl (by decide) (by decide) wd_1413 rfl (Nat.le_of_ble_eq_true rfl) dM_isSubject_11 ?_
    refine j_goto X (tgt := 46) dM_isSubject_14 (by decide) ?_
    cases hf
    exact j_zret X (bz_zz zM_in) dM_isSubject_46 rfl rfl
def gM_canTell (a0 : Int) (a1 : Int) (a2 : Int) (a3 : Int) : Option Int :=
  if w32 (fM_isSubject a0 a1) = 0 then
  (some 0)
  else
  (if w32 (fM_in (w32 a2) 0 259) = 0 then
  (some 0)
  else
  (if w32 a0 = 0 then
  (some (fM_in (w32 a3) 1 10000))
  else
  (if w32 a0 = 1 then
  (some (fM_in (w32 a3) 1 9999))
  else
  (if w32 a0 = 2 then
  (some (fM_in (w32 a3) 0 1000))
  else
  (some (fM_in (w32 a3) 100 10000))))))
def fM_canTell (a0 : Int) (a1 : Int) (a2 : Int) (a3 : Int) : Int :=
  if w32 (fM_isSubject a0 a1) = 0 then
  (0)
  else
  (if w32 (fM_in (w32 a2) 0 259) = 0 then
  (0)
  else
  (if w32 a0 = 0 then
  ((fM_in (w32 a3) 1 10000))
  else
  (if w32 a0 = 1 then
  ((fM_in (w32 a3) 1 9999))
  else
  (if w32 a0 = 2 then
  ((fM_in (w32 a3) 0 1000))
  else
  ((fM_in (w32 a3) 100 10000))))))
theorem tM_canTell (a0 : Int) (a1 : Int) (a2 : Int) (a3 : Int) : gM_canTell a0 a1 a2 a3 = some (fM_canTell a0 a1 a2 a3) := by
  unfold gM_canTell fM_canTell
  (repeat' (first | rfl | split))
theorem zM_canTell {a0 : Int} {a1 : Int} {a2 : Int} {a3 : Int} : fM_canTell a0 a1 a2 a3 = 0 ∨ fM_canTell a0 a1 a2 a3 = 1 := by
  unfold fM_canTell
  (repeat' (first | exact Or.inl rfl | exact Or.inr rfl | exact zM_isSubject | exact zM_in | exact zM_in | exact zM_in | exact zM_in | exact zM_in | split))
set_option maxHeartbeats 4000000 in
set_option maxRecDepth 20000 in
theorem cM_canTell (E : bz_E) {M : bz_Mm} {a0 : Int} {a1 : Int} {a2 : Int} {a3 : Int} : bz_Ct E yM_canTell (.code yM_canTell prog_14_method_10_code 4 (some .boolean)) 2 46 [bz_i a0, bz_i a1, bz_i a2, bz_i a3] M (some (bz_i (fM_canTell a0 a1 a2 a3))) M := by
  have hf := tM_canTell a0 a1 a2 a3
  refine bz_met (by decide +kernel) (Nat.le_of_ble_eq_true rfl) (fun K X => ?_)
  have X : bz_X K E prog_14_method_10_code 4 "UnitsWrongModel" (some .boolean) 2 46 _ _ := X
  unfold gM_canTell at hf
  generalize fM_canTell a0 a1 a2 a3 = rr at hf X
  show bz_J K 4 0 [(0, bz_i a0), (1, bz_i a1), (2, bz_i a2), (3, bz_i a3)] [] M
  refine j_iload_n X dM_canTell_0 rfl 0 rfl ?_
  refine j_iload_n X dM_canTell_1 rfl 1 rfl ?_
  refine j_cs X (st := []) (cM_isSubject E) gyM_isSubject wd_1432 rfl (by decide) (by decide) wd_1431 rfl (Nat.le_of_ble_eq_true rfl) dM_canTell_2 ?_
  refine j_if_eq X (tgt := 20) rfl dM_canTell_5 (by decide) hf (fun hf => ?_) (fun hf => ?_)
  · refine j_iconst X dM_canTell_20 ?_
    cases hf
    exact j_zret X (by decide +kernel) dM_canTell_21 rfl rfl
  · refine j_iload_n X dM_canTell_8 rfl 2 rfl ?_
    refine j_i2l X rfl dM_canTell_9 ?_
    refine j_lconst X (v := 0) dM_canTell_10 rfl ?_
    refine j_ldc2 X (v := 259) wd_1412 dM_canTell_11 ?_
    refine j_cs X (st := []) (cM_in E) gyM_in wd_1414 rfl (by decide) (by decide) wd_1413 rfl (Nat.le_of_ble_eq_true rfl) dM_canTell_14 ?_
    refine j_if_ne X (tgt := 22) rfl dM_canTell_17 (by decide) hf (fun hf => ?_) (fun hf => ?_)
    · refine j_iload_n X dM_canTell_22 rfl 0 rfl ?_
      refine j_if_ne X (tgt := 38) rfl dM_canTell_23 (by decide) hf (fun hf => ?_) (fun hf => ?_)
      · refine j_iload_n X dM_canTell_38 rfl 0 rfl ?_
        refine j_iconst X dM_canTell_39 ?_
        refine j_icmp_ne X (tgt := 55) rfl (w32_lit rfl) dM_canTell_40 (by decide) hf (fun hf => ?_) (fun hf => ?_)
        · refine j_iload_n X dM_canTell_55 rfl 0 rfl ?_
          refine j_iconst X dM_canTell_56 ?_
          refine j_icmp_ne X (tgt := 72) rfl (w32_lit rfl) dM_canTell_57 (by decide) hf (fun hf => ?_) (fun hf => ?_)
          · refine j_iload_n X dM_canTell_72 rfl 3 rfl ?_
            refine j_i2l X rfl dM_canTell_73 ?_
            refine j_ldc2 X (v := 100) wd_1440 dM_canTell_74 ?_
            refine j_ldc2 X (v := 10000) wd_1437 dM_canTell_77 ?_
            refine j_cs X (st := []) (cM_in E) gyM_in wd_1414 rfl (by decide) (by decide) wd_1413 rfl (Nat.le_of_ble_eq_true rfl) dM_canTell_80 ?_
            cases hf
            exact j_zret X (bz_zz zM_in) dM_canTell_83 rfl rfl
          · refine j_iload_n X dM_canTell_60 rfl 3 rfl ?_
            refine j_i2l X rfl dM_canTell_61 ?_
            refine j_lconst X (v := 0) dM_canTell_62 rfl ?_
            refine j_ldc2 X (v := 1000) wd_1439 dM_canTell_63 ?_
            refine j_cs X (st := []) (cM_in E) gyM_in wd_1414 rfl (by decide) (by decide) wd_1413 rfl (Nat.le_of_ble_eq_true rfl) dM_canTell_66 ?_
            refine j_goto X (tgt := 83) dM_canTell_69 (by decide) ?_
            cases hf
            exact j_zret X (bz_zz zM_in) dM_canTell_83 rfl rfl
        · refine j_iload_n X dM_canTell_43 rfl 3 rfl ?_
          refine j_i2l X rfl dM_canTell_44 ?_
          refine j_lconst X (v := 1) dM_canTell_45 rfl ?_
          refine j_ldc2 X (v := 9999) wd_1438 dM_canTell_46 ?_
          refine j_cs X (st := []) (cM_in E) gyM_in wd_1414 rfl (by decide) (by decide) wd_1413 rfl (Nat.le_of_ble_eq_true rfl) dM_canTell_49 ?_
          refine j_goto X (tgt := 83) dM_canTell_52 (by decide) ?_
          cases hf
          exact j_zret X (bz_zz zM_in) dM_canTell_83 rfl rfl
      · refine j_iload_n X dM_canTell_26 rfl 3 rfl ?_
        refine j_i2l X rfl dM_canTell_27 ?_
        refine j_lconst X (v := 1) dM_canTell_28 rfl ?_
        refine j_ldc2 X (v := 10000) wd_1437 dM_canTell_29 ?_
        refine j_cs X (st := []) (cM_in E) gyM_in wd_1414 rfl (by decide) (by decide) wd_1413 rfl (Nat.le_of_ble_eq_true rfl) dM_canTell_32 ?_
        refine j_goto X (tgt := 83) dM_canTell_35 (by decide) ?_
        cases hf
        exact j_zret X (bz_zz zM_in) dM_canTell_83 rfl rfl
    · refine j_iconst X dM_canTell_20 ?_
      cases hf
      exact j_zret X (by decide +kernel) dM_canTell_21 rfl rfl
def gM_known0 (M : bz_Mm) : Option Int :=
  if w32 (M 81 0) < 260 then
  (some (M 81 0))
  else
  (some 259)
def fM_known0 (M : bz_Mm) : Int :=
  if w32 (M 81 0) < 260 then
  ((M 81 0))
  else
  (259)
theorem tM_known0 (M : bz_Mm) : gM_known0 M = some (fM_known0 M) := by
  unfold gM_known0 fM_known0
  (repeat' (first | rfl | split))
set_option maxHeartbeats 4000000 in
set_option maxRecDepth 20000 in
theorem cM_known0 (E : bz_E) {M : bz_Mm} : bz_Ct E yM_known0 (.code yM_known0 prog_14_method_5_code 1 (some .int)) 0 0 [bz_rf E 81] M (some (bz_i (fM_known0 M))) M := by
  have hf := tM_known0 M
  refine bz_met (by decide +kernel) (Nat.le_of_ble_eq_true rfl) (fun K X => ?_)
  have X : bz_X K E prog_14_method_5_code 1 "UnitsWrongModel" (some .int) 0 0 _ _ := X
  unfold gM_known0 at hf
  generalize fM_known0 M = rr at hf X
  show bz_J K 1 0 [(0, bz_rf E 81)] [] M
  refine j_aload_n X dM_known0_0 rfl 0 rfl ?_
  refine j_geti X gf_M_216_81 dM_known0_1 ?_
  refine j_sipush X dM_known0_4 rfl ?_
  refine j_icmp_ge X (tgt := 17) rfl (w32_lit rfl) dM_known0_7 (by decide) hf (fun hf => ?_) (fun hf => ?_)
  · refine j_sipush X dM_known0_17 rfl ?_
    cases hf
    exact j_iret X dM_known0_20 rfl rfl
  · refine j_aload_n X dM_known0_10 rfl 0 rfl ?_
    refine j_geti X gf_M_216_81 dM_known0_11 ?_
    refine j_goto X (tgt := 20) dM_known0_14 (by decide) ?_
    cases hf
    exact j_iret X dM_known0_20 rfl rfl
def fM_lays (F : Nat) (M : bz_Mm) (a1 : Int) (a2 : Int) (a3 : Int) (a4 : Int) : Option (bz_Mm) :=
  wa_ M 83 (M 81 12) 407 a1 fun m1 =>
  wa_ m1 84 (m1 81 12) 407 a2 fun m2 =>
  wa_ m2 85 (m2 81 12) 407 a3 fun m3 =>
  wa_ m3 86 (m3 81 12) 407 a4 fun m4 =>
  wa_ m4 87 (m4 81 12) 407 (fM_known0 m4) fun m5 =>
  wf_ m5 81 12 ((m5 81 12) + 1) fun m6 =>
  some m6
set_option maxHeartbeats 4000000 in
set_option maxRecDepth 20000 in
theorem cM_lays (E : bz_E) (F : Nat)  {M : bz_Mm} {a1 : Int} {a2 : Int} {a3 : Int} {a4 : Int} {x0 : bz_Mm} (hf : fM_lays F M a1 a2 a3 a4 = some x0) : bz_Ct E yM_lays (.code yM_lays prog_14_method_11_code 5 none) 1 20 [bz_rf E 81, bz_i a1, bz_i a2, bz_i a3, bz_i a4] M (none) x0 := by
  refine bz_met (by decide +kernel) (Nat.le_of_ble_eq_true rfl) (fun K X => ?_)
  have X : bz_X K E prog_14_method_11_code 5 "UnitsWrongModel" none 1 20 _ _ := X
  unfold fM_lays at hf
  show bz_J K 5 0 [(0, bz_rf E 81), (1, bz_i a1), (2, bz_i a2), (3, bz_i a3), (4, bz_i a4)] [] M
  refine j_aload_n X dM_lays_0 rfl 0 rfl ?_
  refine j_geta X gf_M_13_81 dM_lays_1 ?_
  refine j_aload_n X dM_lays_4 rfl 0 rfl ?_
  refine j_geti X gf_M_251_81 dM_lays_5 ?_
  refine j_iload_n X dM_lays_8 rfl 1 rfl ?_
  refine j_iast X sh_83 dM_lays_9 hf (fun m1 hf => ?_)
  refine j_aload_n X dM_lays_10 rfl 0 rfl ?_
  show bz_J _ _ 11 _ _ _
  refine j_geta X gf_M_17_81 dM_lays_11 ?_
  refine j_aload_n X dM_lays_14 rfl 0 rfl ?_
  refine j_geti X gf_M_251_81 dM_lays_15 ?_
  refine j_iload_n X dM_lays_18 rfl 2 rfl ?_
  refine j_iast X sh_84 dM_lays_19 hf (fun m2 hf => ?_)
  refine j_aload_n X dM_lays_20 rfl 0 rfl ?_
  refine j_geta X gf_M_20_81 dM_lays_21 ?_
  refine j_aload_n X dM_lays_24 rfl 0 rfl ?_
  show bz_J _ _ 25 _ _ _
  refine j_geti X gf_M_251_81 dM_lays_25 ?_
  refine j_iload_n X dM_lays_28 rfl 3 rfl ?_
  refine j_iast X sh_85 dM_lays_29 hf (fun m3 hf => ?_)
  refine j_aload_n X dM_lays_30 rfl 0 rfl ?_
  refine j_geta X gf_M_23_81 dM_lays_31 ?_
  refine j_aload_n X dM_lays_34 rfl 0 rfl ?_
  refine j_geti X gf_M_251_81 dM_lays_35 ?_
  refine j_iload X dM_lays_38 4 rfl ?_
  show bz_J _ _ 40 _ _ _
  refine j_iast X sh_86 dM_lays_40 hf (fun m4 hf => ?_)
  refine j_aload_n X dM_lays_41 rfl 0 rfl ?_
  refine j_geta X gf_M_26_81 dM_lays_42 ?_
  refine j_aload_n X dM_lays_45 rfl 0 rfl ?_
  refine j_geti X gf_M_251_81 dM_lays_46 ?_
  refine j_aload_n X dM_lays_49 rfl 0 rfl ?_
  refine j_cv X (st := [bz_i (m4 81 12), bz_rf E 87]) (cM_known0 E) gyM_known0 gv_M_known0_81 rfl (by decide) (by decide) wd_1445 rfl (Nat.le_of_ble_eq_true rfl) dM_lays_50 ?_
  refine j_iast X sh_87 dM_lays_53 hf (fun m5 hf => ?_)
  show bz_J _ _ 54 _ _ _
  refine j_aload_n X dM_lays_54 rfl 0 rfl ?_
  refine j_dup X dM_lays_55 rfl ?_
  refine j_geti X gf_M_251_81 dM_lays_56 ?_
  refine j_iconst X dM_lays_59 ?_
  refine j_iadd X dM_lays_60 ?_
  refine j_puti X pf_M_251_81 dM_lays_61 hf (fun m6 hf => ?_)
  cases hf
  exact j_vret X dM_lays_64 rfl rfl
def fM_tell (F : Nat) (M : bz_Mm) (a1 : Int) (a2 : Int) (a3 : Int) (a4 : Int) : Option (Int × bz_Mm) :=
  if w32 (fM_canTell a1 a2 a3 a4) = 0 then
  (some (((-1), M)))
  else
  (if w32 (M 81 12) = 400 then
  (some (((-1), M)))
  else
  (if w32 (M 81 0) = 260 then
  (some (((-1), M)))
  else
  (cl_ (fM_lays F M a1 a2 a3 a4) fun m1 =>
  some ((m1 81 12, m1)))))
set_option maxHeartbeats 4000000 in
set_option maxRecDepth 20000 in
theorem cM_tell (E : bz_E) (F : Nat)  {M : bz_Mm} {a1 : Int} {a2 : Int} {a3 : Int} {a4 : Int} {x0 : Int × bz_Mm} (hf : fM_tell F M a1 a2 a3 a4 = some x0) : bz_Ct E yM_tell (.code yM_tell prog_14_method_12_code 5 (some .int)) 3 69 [bz_rf E 81, bz_i a1, bz_i a2, bz_i a3, bz_i a4] M (some (bz_i x0.1)) x0.2 := by
  refine bz_met (by decide +kernel) (Nat.le_of_ble_eq_true rfl) (fun K X => ?_)
  have X : bz_X K E prog_14_method_12_code 5 "UnitsWrongModel" (some .int) 3 69 _ _ := X
  unfold fM_tell at hf
  show bz_J K 5 0 [(0, bz_rf E 81), (1, bz_i a1), (2, bz_i a2), (3, bz_i a3), (4, bz_i a4)] [] M
  refine j_iload_n X dM_tell_0 rfl 1 rfl ?_
  refine j_iload_n X dM_tell_1 rfl 2 rfl ?_
  refine j_iload_n X dM_tell_2 rfl 3 rfl ?_
  refine j_iload X dM_tell_3 4 rfl ?_
  refine j_cs X (st := []) (cM_canTell E) gyM_canTell wd_1429 rfl (by decide) (by decide) wd_1428 rfl (Nat.le_of_ble_eq_true rfl) dM_tell_5 ?_
  refine j_if_eq X (tgt := 31) rfl dM_tell_8 (by decide) hf (fun hf => ?_) (fun hf => ?_)
  · refine j_iconst X dM_tell_31 ?_
    cases hf
    exact j_iret X dM_tell_32 rfl rfl
  · refine j_aload_n X dM_tell_11 rfl 0 rfl ?_
    refine j_geti X gf_M_251_81 dM_tell_12 ?_
    refine j_sipush X dM_tell_15 rfl ?_
    refine j_icmp_eq X (tgt := 31) rfl (w32_lit rfl) dM_tell_18 (by decide) hf (fun hf => ?_) (fun hf => ?_)
    · refine j_iconst X dM_tell_31 ?_
      cases hf
      exact j_iret X dM_tell_32 rfl rfl
    · refine j_aload_n X dM_tell_21 rfl 0 rfl ?_
      refine j_geti X gf_M_216_81 dM_tell_22 ?_
      refine j_sipush X dM_tell_25 rfl ?_
      refine j_icmp_ne X (tgt := 33) rfl (w32_lit rfl) dM_tell_28 (by decide) hf (fun hf => ?_) (fun hf => ?_)
      · refine j_aload_n X dM_tell_33 rfl 0 rfl ?_
        refine j_iload_n X dM_tell_34 rfl 1 rfl ?_
        refine j_iload_n X dM_tell_35 rfl 2 rfl ?_
        refine j_iload_n X dM_tell_36 rfl 3 rfl ?_
        refine j_iload X dM_tell_37 4 rfl ?_
        obtain ⟨m1, hz, hf⟩ := q_cl hf
        refine j_cv X (st := []) (cM_lays E F hz) gyM_lays gv_M_lays_81 rfl (by decide) (by decide) wd_1441 rfl (Nat.le_of_ble_eq_true rfl) dM_tell_39 ?_
        clear hz
        refine j_aload_n X dM_tell_42 rfl 0 rfl ?_
        show bz_J _ _ 43 _ _ _
        refine j_geti X gf_M_251_81 dM_tell_43 ?_
        cases hf
        exact j_iret X dM_tell_46 rfl rfl
      · refine j_iconst X dM_tell_31 ?_
        cases hf
        exact j_iret X dM_tell_32 rfl rfl
def M_telling_L6 (F : Nat) : Nat → bz_Mm → Int → Int → Int → Int → Int → Int → Option (Int)
  | 0, _, _, _, _, _, _, _ => none
  | n + 1, M, l1, l2, l3, l4, l6, l5 =>
    if w32 l6 < w32 (M 81 12) then
    (rd_ M 83 l6 407 fun x1 =>
    if w32 x1 = w32 l1 then
    (rd_ M 84 l6 407 fun x2 =>
    if w32 x2 = w32 l2 then
    (rd_ M 87 l6 407 fun x3 =>
    if w32 l4 < w32 x3 then
    (M_telling_L6 F n M l1 l2 l3 l4 (l6 + 1) l5)
    else
    (rd_ M 85 l6 407 fun x4 =>
    if w32 l3 < w32 x4 then
    (M_telling_L6 F n M l1 l2 l3 l4 (l6 + 1) l5)
    else
    (if 1 < w32 l1 then
    (rd_ M 85 l6 407 fun x7 =>
    if w32 x7 = w32 l3 then
    (if w32 l5 = (-1) then
    (M_telling_L6 F n M l1 l2 l3 l4 (l6 + 1) l6)
    else
    (rd_ M 85 l6 407 fun x8 =>
    rd_ M 85 l5 407 fun x9 =>
    if w32 x8 < w32 x9 then
    (M_telling_L6 F n M l1 l2 l3 l4 (l6 + 1) l5)
    else
    (M_telling_L6 F n M l1 l2 l3 l4 (l6 + 1) l6)))
    else
    (M_telling_L6 F n M l1 l2 l3 l4 (l6 + 1) l5))
    else
    (if w32 l5 = (-1) then
    (M_telling_L6 F n M l1 l2 l3 l4 (l6 + 1) l6)
    else
    (rd_ M 85 l6 407 fun x5 =>
    rd_ M 85 l5 407 fun x6 =>
    if w32 x5 < w32 x6 then
    (M_telling_L6 F n M l1 l2 l3 l4 (l6 + 1) l5)
    else
    (M_telling_L6 F n M l1 l2 l3 l4 (l6 + 1) l6))))))
    else
    (M_telling_L6 F n M l1 l2 l3 l4 (l6 + 1) l5))
    else
    (M_telling_L6 F n M l1 l2 l3 l4 (l6 + 1) l5))
    else
    (some l5)
theorem lM_telling_L6 (E : bz_E) (F : Nat) {K : bz_K} {rv : Option Value} {M1 : bz_Mm} (X : bz_X K E prog_14_method_13_code 7 "UnitsWrongModel" (some .int) 0 0 rv M1) {M : bz_Mm} {l1 : Int} {l2 : Int} {l3 : Int} {l4 : Int} {res : (Int)}
    (kx : ∀ (l5 : Int), some l5 = some res → bz_J K 7 115 [(5, bz_i l5)] [] M) :
    ∀ (n : Nat) (l6 : Int) (l5 : Int), M_telling_L6 F n M l1 l2 l3 l4 l6 l5 = some res → bz_J K 7 6 [(6, bz_i l6), (5, bz_i l5), (0, bz_rf E 81), (1, bz_i l1), (2, bz_i l2), (3, bz_i l3), (4, bz_i l4)] [] M := by
  intro n
  induction n with
  | zero => intro l6 l5 hf; cases hf
  | succ n ih =>
    intro l6 l5 hf
    rw [M_telling_L6] at hf
    refine j_iload X dM_telling_6 0 rfl ?_
    refine j_aload_n X dM_telling_8 rfl 2 rfl ?_
    refine j_geti X gf_M_251_81 dM_telling_9 ?_
    refine j_icmp_ge X (tgt := 115) rfl rfl dM_telling_12 (by decide) hf (fun hf => ?_) (fun hf => ?_)
    · exact j_sub [1] rfl (kx _ hf)
    · refine j_aload_n X dM_telling_15 rfl 2 rfl ?_
      refine j_geta X gf_M_13_81 dM_telling_16 ?_
      refine j_iload X dM_telling_19 0 rfl ?_
      refine j_iald X sh_83 dM_telling_21 hf (fun x1 hf => ?_)
      refine j_iload_n X dM_telling_22 rfl 3 rfl ?_
      refine j_icmp_ne X (tgt := 109) rfl rfl dM_telling_23 (by decide) hf (fun hf => ?_) (fun hf => ?_)
      · refine j_iinc X (y := l6 + 1) (lv' := [(6, bz_i (l6 + 1)), (5, bz_i l5), (0, bz_rf E 81), (1, bz_i l1), (2, bz_i l2), (3, bz_i l3), (4, bz_i l4)]) dM_telling_109 0 rfl rfl (by decide) rfl ?_
        refine j_goto X (tgt := 6) dM_telling_112 (by decide) ?_
        exact ih _ _ hf
      · refine j_aload_n X dM_telling_26 rfl 2 rfl ?_
        refine j_geta X gf_M_17_81 dM_telling_27 ?_
        refine j_iload X dM_telling_30 0 rfl ?_
        refine j_iald X sh_84 dM_telling_32 hf (fun x2 hf => ?_)
        refine j_iload_n X dM_telling_33 rfl 4 rfl ?_
        refine j_icmp_ne X (tgt := 109) rfl rfl dM_telling_34 (by decide) hf (fun hf => ?_) (fun hf => ?_)
        · refine j_iinc X (y := l6 + 1) (lv' := [(6, bz_i (l6 + 1)), (5, bz_i l5), (0, bz_rf E 81), (1, bz_i l1), (2, bz_i l2), (3, bz_i l3), (4, bz_i l4)]) dM_telling_109 0 rfl rfl (by decide) rfl ?_
          refine j_goto X (tgt := 6) dM_telling_112 (by decide) ?_
          exact ih _ _ hf
        · refine j_aload_n X dM_telling_37 rfl 2 rfl ?_
          refine j_geta X gf_M_26_81 dM_telling_38 ?_
          refine j_iload X dM_telling_41 0 rfl ?_
          refine j_iald X sh_87 dM_telling_43 hf (fun x3 hf => ?_)
          refine j_iload X dM_telling_44 6 rfl ?_
          refine j_icmp_gt X (tgt := 109) rfl rfl dM_telling_46 (by decide) hf (fun hf => ?_) (fun hf => ?_)
          · refine j_iinc X (y := l6 + 1) (lv' := [(6, bz_i (l6 + 1)), (5, bz_i l5), (0, bz_rf E 81), (1, bz_i l1), (2, bz_i l2), (3, bz_i l3), (4, bz_i l4)]) dM_telling_109 0 rfl rfl (by decide) rfl ?_
            refine j_goto X (tgt := 6) dM_telling_112 (by decide) ?_
            exact ih _ _ hf
          · refine j_aload_n X dM_telling_49 rfl 2 rfl ?_
            refine j_geta X gf_M_20_81 dM_telling_50 ?_
            refine j_iload X dM_telling_53 0 rfl ?_
            refine j_iald X sh_85 dM_telling_55 hf (fun x4 hf => ?_)
            refine j_iload_n X dM_telling_56 rfl 5 rfl ?_
            refine j_icmp_le X (tgt := 63) rfl rfl dM_telling_57 (by decide) hf (fun hf => ?_) (fun hf => ?_)
            · refine j_iload_n X dM_telling_63 rfl 3 rfl ?_
              refine j_iconst X dM_telling_64 ?_
              refine j_icmp_le X (tgt := 82) rfl (w32_lit rfl) dM_telling_65 (by decide) hf (fun hf => ?_) (fun hf => ?_)
              · refine j_iload X dM_telling_82 1 rfl ?_
                refine j_iconst X dM_telling_84 ?_
                refine j_icmp_eq X (tgt := 105) rfl (w32_lit rfl) dM_telling_85 (by decide) hf (fun hf => ?_) (fun hf => ?_)
                · refine j_iload X dM_telling_105 0 rfl ?_
                  refine j_istore X (lv' := [(5, bz_i l6), (6, bz_i l6), (0, bz_rf E 81), (1, bz_i l1), (2, bz_i l2), (3, bz_i l3), (4, bz_i l4)]) dM_telling_107 (by decide) rfl ?_
                  refine j_iinc X (y := l6 + 1) (lv' := [(6, bz_i (l6 + 1)), (5, bz_i l6), (0, bz_rf E 81), (1, bz_i l1), (2, bz_i l2), (3, bz_i l3), (4, bz_i l4)]) dM_telling_109 1 rfl rfl (by decide) rfl ?_
                  refine j_goto X (tgt := 6) dM_telling_112 (by decide) ?_
                  exact ih _ _ hf
                · refine j_aload_n X dM_telling_88 rfl 2 rfl ?_
                  refine j_geta X gf_M_20_81 dM_telling_89 ?_
                  refine j_iload X dM_telling_92 0 rfl ?_
                  refine j_iald X sh_85 dM_telling_94 hf (fun x5 hf => ?_)
                  refine j_aload_n X dM_telling_95 rfl 2 rfl ?_
                  refine j_geta X gf_M_20_81 dM_telling_96 ?_
                  refine j_iload X dM_telling_99 1 rfl ?_
                  show bz_J _ _ 101 _ _ _
                  refine j_iald X sh_85 dM_telling_101 hf (fun x6 hf => ?_)
                  refine j_icmp_lt X (tgt := 109) rfl rfl dM_telling_102 (by decide) hf (fun hf => ?_) (fun hf => ?_)
                  · refine j_iinc X (y := l6 + 1) (lv' := [(6, bz_i (l6 + 1)), (5, bz_i l5), (0, bz_rf E 81), (1, bz_i l1), (2, bz_i l2), (3, bz_i l3), (4, bz_i l4)]) dM_telling_109 0 rfl rfl (by decide) rfl ?_
                    refine j_goto X (tgt := 6) dM_telling_112 (by decide) ?_
                    exact ih _ _ hf
                  · refine j_iload X dM_telling_105 0 rfl ?_
                    refine j_istore X (lv' := [(5, bz_i l6), (6, bz_i l6), (0, bz_rf E 81), (1, bz_i l1), (2, bz_i l2), (3, bz_i l3), (4, bz_i l4)]) dM_telling_107 (by decide) rfl ?_
                    refine j_iinc X (y := l6 + 1) (lv' := [(6, bz_i (l6 + 1)), (5, bz_i l6), (0, bz_rf E 81), (1, bz_i l1), (2, bz_i l2), (3, bz_i l3), (4, bz_i l4)]) dM_telling_109 1 rfl rfl (by decide) rfl ?_
                    refine j_goto X (tgt := 6) dM_telling_112 (by decide) ?_
                    exact ih _ _ hf
              · refine j_aload_n X dM_telling_68 rfl 2 rfl ?_
                refine j_geta X gf_M_20_81 dM_telling_69 ?_
                refine j_iload X dM_telling_72 0 rfl ?_
                refine j_iald X sh_85 dM_telling_74 hf (fun x7 hf => ?_)
                refine j_iload_n X dM_telling_75 rfl 5 rfl ?_
                refine j_icmp_eq X (tgt := 82) rfl rfl dM_telling_76 (by decide) hf (fun hf => ?_) (fun hf => ?_)
                · refine j_iload X dM_telling_82 1 rfl ?_
                  refine j_iconst X dM_telling_84 ?_
                  refine j_icmp_eq X (tgt := 105) rfl (w32_lit rfl) dM_telling_85 (by decide) hf (fun hf => ?_) (fun hf => ?_)
                  · refine j_iload X dM_telling_105 0 rfl ?_
                    refine j_istore X (lv' := [(5, bz_i l6), (6, bz_i l6), (0, bz_rf E 81), (1, bz_i l1), (2, bz_i l2), (3, bz_i l3), (4, bz_i l4)]) dM_telling_107 (by decide) rfl ?_
                    refine j_iinc X (y := l6 + 1) (lv' := [(6, bz_i (l6 + 1)), (5, bz_i l6), (0, bz_rf E 81), (1, bz_i l1), (2, bz_i l2), (3, bz_i l3), (4, bz_i l4)]) dM_telling_109 1 rfl rfl (by decide) rfl ?_
                    refine j_goto X (tgt := 6) dM_telling_112 (by decide) ?_
                    exact ih _ _ hf
                  · refine j_aload_n X dM_telling_88 rfl 2 rfl ?_
                    refine j_geta X gf_M_20_81 dM_telling_89 ?_
                    refine j_iload X dM_telling_92 0 rfl ?_
                    refine j_iald X sh_85 dM_telling_94 hf (fun x8 hf => ?_)
                    refine j_aload_n X dM_telling_95 rfl 2 rfl ?_
                    refine j_geta X gf_M_20_81 dM_telling_96 ?_
                    refine j_iload X dM_telling_99 1 rfl ?_
                    show bz_J _ _ 101 _ _ _
                    refine j_iald X sh_85 dM_telling_101 hf (fun x9 hf => ?_)
                    refine j_icmp_lt X (tgt := 109) rfl rfl dM_telling_102 (by decide) hf (fun hf => ?_) (fun hf => ?_)
                    · refine j_iinc X (y := l6 + 1) (lv' := [(6, bz_i (l6 + 1)), (5, bz_i l5), (0, bz_rf E 81), (1, bz_i l1), (2, bz_i l2), (3, bz_i l3), (4, bz_i l4)]) dM_telling_109 0 rfl rfl (by decide) rfl ?_
                      refine j_goto X (tgt := 6) dM_telling_112 (by decide) ?_
                      exact ih _ _ hf
                    · refine j_iload X dM_telling_105 0 rfl ?_
                      refine j_istore X (lv' := [(5, bz_i l6), (6, bz_i l6), (0, bz_rf E 81), (1, bz_i l1), (2, bz_i l2), (3, bz_i l3), (4, bz_i l4)]) dM_telling_107 (by decide) rfl ?_
                      refine j_iinc X (y := l6 + 1) (lv' := [(6, bz_i (l6 + 1)), (5, bz_i l6), (0, bz_rf E 81), (1, bz_i l1), (2, bz_i l2), (3, bz_i l3), (4, bz_i l4)]) dM_telling_109 1 rfl rfl (by decide) rfl ?_
                      refine j_goto X (tgt := 6) dM_telling_112 (by decide) ?_
                      exact ih _ _ hf
                · refine j_goto X (tgt := 109) dM_telling_79 (by decide) ?_
                  refine j_iinc X (y := l6 + 1) (lv' := [(6, bz_i (l6 + 1)), (5, bz_i l5), (0, bz_rf E 81), (1, bz_i l1), (2, bz_i l2), (3, bz_i l3), (4, bz_i l4)]) dM_telling_109 0 rfl rfl (by decide) rfl ?_
                  refine j_goto X (tgt := 6) dM_telling_112 (by decide) ?_
                  exact ih _ _ hf
            · refine j_goto X (tgt := 109) dM_telling_60 (by decide) ?_
              refine j_iinc X (y := l6 + 1) (lv' := [(6, bz_i (l6 + 1)), (5, bz_i l5), (0, bz_rf E 81), (1, bz_i l1), (2, bz_i l2), (3, bz_i l3), (4, bz_i l4)]) dM_telling_109 0 rfl rfl (by decide) rfl ?_
              refine j_goto X (tgt := 6) dM_telling_112 (by decide) ?_
              exact ih _ _ hf
def fM_telling (F : Nat) (M : bz_Mm) (a1 : Int) (a2 : Int) (a3 : Int) (a4 : Int) : Option (Int) :=
  cl1_ (M_telling_L6 F F M a1 a2 a3 a4 0 ((-1))) fun l5 =>
  some l5
set_option maxHeartbeats 4000000 in
set_option maxRecDepth 20000 in
theorem cM_telling (E : bz_E) (F : Nat)  {M : bz_Mm} {a1 : Int} {a2 : Int} {a3 : Int} {a4 : Int} {x0 : Int} (hf : fM_telling F M a1 a2 a3 a4 = some x0) : bz_Ct E yM_telling (.code yM_telling prog_14_method_13_code 7 (some .int)) 0 0 [bz_rf E 81, bz_i a1, bz_i a2, bz_i a3, bz_i a4] M (some (bz_i x0)) M := by
  refine bz_met (by decide +kernel) (Nat.le_of_ble_eq_true rfl) (fun K X => ?_)
  have X : bz_X K E prog_14_method_13_code 7 "UnitsWrongModel" (some .int) 0 0 _ _ := X
  unfold fM_telling at hf
  show bz_J K 7 0 [(0, bz_rf E 81), (1, bz_i a1), (2, bz_i a2), (3, bz_i a3), (4, bz_i a4)] [] M
  refine j_iconst X dM_telling_0 ?_
  refine j_istore X (lv' := [(5, bz_i ((-1))), (0, bz_rf E 81), (1, bz_i a1), (2, bz_i a2), (3, bz_i a3), (4, bz_i a4)]) dM_telling_1 (by decide) rfl ?_
  refine j_iconst X dM_telling_3 ?_
  refine j_istore X (lv' := [(6, bz_i 0), (5, bz_i ((-1))), (0, bz_rf E 81), (1, bz_i a1), (2, bz_i a2), (3, bz_i a3), (4, bz_i a4)]) dM_telling_4 (by decide) rfl ?_
  obtain ⟨res10, hz10, hk10⟩ := q_l1 hf
  clear hf
  refine lM_telling_L6 E F X (fun l5 he => ?_) F 0 ((-1)) hz10
  have hf := hk10 _ he
  refine j_iload X dM_telling_115 0 rfl ?_
  cases hf
  exact j_iret X dM_telling_117 rfl rfl
def gM_plain (a0 : Int) : Option Int :=
  if w32 a0 = 1 then
  (some 1000)
  else
  (if w32 a0 = 3 then
  (some 1000)
  else
  (some 0))
def fM_plain (a0 : Int) : Int :=
  if w32 a0 = 1 then
  (1000)
  else
  (if w32 a0 = 3 then
  (1000)
  else
  (0))
theorem tM_plain (a0 : Int) : gM_plain a0 = some (fM_plain a0) := by
  unfold gM_plain fM_plain
  (repeat' (first | rfl | split))
set_option maxHeartbeats 4000000 in
set_option maxRecDepth 20000 in
theorem cM_plain (E : bz_E) {M : bz_Mm} {a0 : Int} : bz_Ct E yM_plain (.code yM_plain prog_14_method_14_code 1 (some .int)) 0 0 [bz_i a0] M (some (bz_i (fM_plain a0))) M := by
  have hf := tM_plain a0
  refine bz_met (by decide +kernel) (Nat.le_of_ble_eq_true rfl) (fun K X => ?_)
  have X : bz_X K E prog_14_method_14_code 1 "UnitsWrongModel" (some .int) 0 0 _ _ := X
  unfold gM_plain at hf
  generalize fM_plain a0 = rr at hf X
  show bz_J K 1 0 [(0, bz_i a0)] [] M
  refine j_iload_n X dM_plain_0 rfl 0 rfl ?_
  refine j_iconst X dM_plain_1 ?_
  refine j_icmp_eq X (tgt := 10) rfl (w32_lit rfl) dM_plain_2 (by decide) hf (fun hf => ?_) (fun hf => ?_)
  · refine j_sipush X dM_plain_10 rfl ?_
    refine j_goto X (tgt := 17) dM_plain_13 (by decide) ?_
    cases hf
    exact j_iret X dM_plain_17 rfl rfl
  · refine j_iload_n X dM_plain_5 rfl 0 rfl ?_
    refine j_iconst X dM_plain_6 ?_
    refine j_icmp_ne X (tgt := 16) rfl (w32_lit rfl) dM_plain_7 (by decide) hf (fun hf => ?_) (fun hf => ?_)
    · refine j_iconst X dM_plain_16 ?_
      cases hf
      exact j_iret X dM_plain_17 rfl rfl
    · refine j_sipush X dM_plain_10 rfl ?_
      refine j_goto X (tgt := 17) dM_plain_13 (by decide) ?_
      cases hf
      exact j_iret X dM_plain_17 rfl rfl
def fM_known1 (F : Nat) (M : bz_Mm) (a1 : Int) (a2 : Int) (a3 : Int) (a4 : Int) : Option (Int) :=
  if w32 (fM_isSubject a1 a2) = 0 then
  (some ((-2147483648)))
  else
  (if w32 (fM_in (w32 a3) 0 259) = 0 then
  (some ((-2147483648)))
  else
  (if w32 (fM_in (w32 a4) 0 259) = 0 then
  (some ((-2147483648)))
  else
  (cl_ (fM_telling F M a1 a2 a3 a4) fun x1 =>
  if w32 x1 = (-1) then
  (some (fM_plain a1))
  else
  (rd_ M 86 x1 407 fun x2 =>
  some x2))))
set_option maxHeartbeats 4000000 in
set_option maxRecDepth 20000 in
theorem cM_known1 (E : bz_E) (F : Nat)  {M : bz_Mm} {a1 : Int} {a2 : Int} {a3 : Int} {a4 : Int} {x0 : Int} (hf : fM_known1 F M a1 a2 a3 a4 = some x0) : bz_Ct E yM_known1 (.code yM_known1 prog_14_method_15_code 6 (some .int)) 2 46 [bz_rf E 81, bz_i a1, bz_i a2, bz_i a3, bz_i a4] M (some (bz_i x0)) M := by
  refine bz_met (by decide +kernel) (Nat.le_of_ble_eq_true rfl) (fun K X => ?_)
  have X : bz_X K E prog_14_method_15_code 6 "UnitsWrongModel" (some .int) 2 46 _ _ := X
  unfold fM_known1 at hf
  show bz_J K 6 0 [(0, bz_rf E 81), (1, bz_i a1), (2, bz_i a2), (3, bz_i a3), (4, bz_i a4)] [] M
  refine j_iload_n X dM_known1_0 rfl 1 rfl ?_
  refine j_iload_n X dM_known1_1 rfl 2 rfl ?_
  refine j_cs X (st := []) (cM_isSubject E) gyM_isSubject wd_1432 rfl (by decide) (by decide) wd_1431 rfl (Nat.le_of_ble_eq_true rfl) dM_known1_2 ?_
  refine j_if_eq X (tgt := 33) rfl dM_known1_5 (by decide) hf (fun hf => ?_) (fun hf => ?_)
  · refine j_ldcw X (v := -2147483648) wd_1453 dM_known1_33 ?_
    cases hf
    exact j_iret X dM_known1_36 rfl rfl
  · refine j_iload_n X dM_known1_8 rfl 3 rfl ?_
    refine j_i2l X rfl dM_known1_9 ?_
    refine j_lconst X (v := 0) dM_known1_10 rfl ?_
    refine j_ldc2 X (v := 259) wd_1412 dM_known1_11 ?_
    refine j_cs X (st := []) (cM_in E) gyM_in wd_1414 rfl (by decide) (by decide) wd_1413 rfl (Nat.le_of_ble_eq_true rfl) dM_known1_14 ?_
    refine j_if_eq X (tgt := 33) rfl dM_known1_17 (by decide) hf (fun hf => ?_) (fun hf => ?_)
    · refine j_ldcw X (v := -2147483648) wd_1453 dM_known1_33 ?_
      cases hf
      exact j_iret X dM_known1_36 rfl rfl
    · refine j_iload X dM_known1_20 4 rfl ?_
      refine j_i2l X rfl dM_known1_22 ?_
      refine j_lconst X (v := 0) dM_known1_23 rfl ?_
      refine j_ldc2 X (v := 259) wd_1412 dM_known1_24 ?_
      refine j_cs X (st := []) (cM_in E) gyM_in wd_1414 rfl (by decide) (by decide) wd_1413 rfl (Nat.le_of_ble_eq_true rfl) dM_known1_27 ?_
      refine j_if_ne X (tgt := 37) rfl dM_known1_30 (by decide) hf (fun hf => ?_) (fun hf => ?_)
      · refine j_aload_n X dM_known1_37 rfl 0 rfl ?_
        refine j_iload_n X dM_known1_38 rfl 1 rfl ?_
        refine j_iload_n X dM_known1_39 rfl 2 rfl ?_
        refine j_iload_n X dM_known1_40 rfl 3 rfl ?_
        refine j_iload X dM_known1_41 4 rfl ?_
        obtain ⟨x1, hzx1, hf⟩ := q_cl hf
        refine j_cv X (st := []) (cM_telling E F hzx1) gyM_telling gv_M_telling_81 rfl (by decide) (by decide) wd_1454 rfl (Nat.le_of_ble_eq_true rfl) dM_known1_43 ?_
        refine j_istore X (lv' := [(5, bz_i x1), (0, bz_rf E 81), (1, bz_i a1), (2, bz_i a2), (3, bz_i a3), (4, bz_i a4)]) dM_known1_46 (by decide) rfl ?_
        show bz_J _ _ 48 _ _ _
        refine j_iload X dM_known1_48 0 rfl ?_
        refine j_iconst X dM_known1_50 ?_
        refine j_icmp_ne X (tgt := 61) rfl (w32_lit rfl) dM_known1_51 (by decide) hf (fun hf => ?_) (fun hf => ?_)
        · refine j_aload_n X dM_known1_61 rfl 1 rfl ?_
          refine j_geta X gf_M_23_81 dM_known1_62 ?_
          refine j_iload X dM_known1_65 0 rfl ?_
          refine j_iald X sh_86 dM_known1_67 hf (fun x2 hf => ?_)
          cases hf
          exact j_iret X dM_known1_68 rfl rfl
        · refine j_iload_n X dM_known1_54 rfl 2 rfl ?_
          refine j_cs X (st := []) (cM_plain E) gyM_plain wd_1459 rfl (by decide) (by decide) wd_1458 rfl (Nat.le_of_ble_eq_true rfl) dM_known1_55 ?_
          refine j_goto X (tgt := 68) dM_known1_58 (by decide) ?_
          cases hf
          exact j_iret X dM_known1_68 rfl rfl
      · refine j_ldcw X (v := -2147483648) wd_1453 dM_known1_33 ?_
        cases hf
        exact j_iret X dM_known1_36 rfl rfl
def fM_stale (F : Nat) (M : bz_Mm) (a1 : Int) (a2 : Int) (a3 : Int) (a4 : Int) : Option (Int) :=
  if w32 (fM_in (w32 a1) 0 1) = 0 then
  (some 0)
  else
  (if w32 (fM_isSubject a1 a2) = 0 then
  (some 0)
  else
  (if w32 (fM_in (w32 a3) 0 259) = 0 then
  (some 0)
  else
  (if w32 (fM_in (w32 a4) 0 259) = 0 then
  (some 0)
  else
  (cl_ (fM_telling F M a1 a2 a3 a4) fun x1 =>
  if w32 x1 = (-1) then
  (some 0)
  else
  (rd_ M 85 x1 407 fun x2 =>
  if w32 x2 = w32 a3 then
  (some 0)
  else
  (some 1))))))
set_option maxHeartbeats 4000000 in
set_option maxRecDepth 20000 in
theorem cM_stale (E : bz_E) (F : Nat)  {M : bz_Mm} {a1 : Int} {a2 : Int} {a3 : Int} {a4 : Int} {x0 : Int} (hf : fM_stale F M a1 a2 a3 a4 = some x0) : bz_Ct E yM_stale (.code yM_stale prog_14_method_16_code 6 (some .boolean)) 2 46 [bz_rf E 81, bz_i a1, bz_i a2, bz_i a3, bz_i a4] M (some (bz_i x0)) M := by
  refine bz_met (by decide +kernel) (Nat.le_of_ble_eq_true rfl) (fun K X => ?_)
  have X : bz_X K E prog_14_method_16_code 6 "UnitsWrongModel" (some .boolean) 2 46 _ _ := X
  unfold fM_stale at hf
  show bz_J K 6 0 [(0, bz_rf E 81), (1, bz_i a1), (2, bz_i a2), (3, bz_i a3), (4, bz_i a4)] [] M
  refine j_iload_n X dM_stale_0 rfl 1 rfl ?_
  refine j_i2l X rfl dM_stale_1 ?_
  refine j_lconst X (v := 0) dM_stale_2 rfl ?_
  refine j_lconst X (v := 1) dM_stale_3 rfl ?_
  refine j_cs X (st := []) (cM_in E) gyM_in wd_1414 rfl (by decide) (by decide) wd_1413 rfl (Nat.le_of_ble_eq_true rfl) dM_stale_4 ?_
  refine j_if_eq X (tgt := 43) rfl dM_stale_7 (by decide) hf (fun hf => ?_) (fun hf => ?_)
  · refine j_iconst X dM_stale_43 ?_
    cases hf
    exact j_zret X (by decide +kernel) dM_stale_44 rfl rfl
  · refine j_iload_n X dM_stale_10 rfl 1 rfl ?_
    refine j_iload_n X dM_stale_11 rfl 2 rfl ?_
    refine j_cs X (st := []) (cM_isSubject E) gyM_isSubject wd_1432 rfl (by decide) (by decide) wd_1431 rfl (Nat.le_of_ble_eq_true rfl) dM_stale_12 ?_
    refine j_if_eq X (tgt := 43) rfl dM_stale_15 (by decide) hf (fun hf => ?_) (fun hf => ?_)
    · refine j_iconst X dM_stale_43 ?_
      cases hf
      exact j_zret X (by decide +kernel) dM_stale_44 rfl rfl
    · refine j_iload_n X dM_stale_18 rfl 3 rfl ?_
      refine j_i2l X rfl dM_stale_19 ?_
      refine j_lconst X (v := 0) dM_stale_20 rfl ?_
      refine j_ldc2 X (v := 259) wd_1412 dM_stale_21 ?_
      refine j_cs X (st := []) (cM_in E) gyM_in wd_1414 rfl (by decide) (by decide) wd_1413 rfl (Nat.le_of_ble_eq_true rfl) dM_stale_24 ?_
      refine j_if_eq X (tgt := 43) rfl dM_stale_27 (by decide) hf (fun hf => ?_) (fun hf => ?_)
      · refine j_iconst X dM_stale_43 ?_
        cases hf
        exact j_zret X (by decide +kernel) dM_stale_44 rfl rfl
      · refine j_iload X dM_stale_30 4 rfl ?_
        refine j_i2l X rfl dM_stale_32 ?_
        refine j_lconst X (v := 0) dM_stale_33 rfl ?_
        refine j_ldc2 X (v := 259) wd_1412 dM_stale_34 ?_
        refine j_cs X (st := []) (cM_in E) gyM_in wd_1414 rfl (by decide) (by decide) wd_1413 rfl (Nat.le_of_ble_eq_true rfl) dM_stale_37 ?_
        refine j_if_ne X (tgt := 45) rfl dM_stale_40 (by decide) hf (fun hf => ?_) (fun hf => ?_)
        · refine j_aload_n X dM_stale_45 rfl 0 rfl ?_
          refine j_iload_n X dM_stale_46 rfl 1 rfl ?_
          refine j_iload_n X dM_stale_47 rfl 2 rfl ?_
          refine j_iload_n X dM_stale_48 rfl 3 rfl ?_
          refine j_iload X dM_stale_49 4 rfl ?_
          obtain ⟨x1, hzx1, hf⟩ := q_cl hf
          refine j_cv X (st := []) (cM_telling E F hzx1) gyM_telling gv_M_telling_81 rfl (by decide) (by decide) wd_1454 rfl (Nat.le_of_ble_eq_true rfl) dM_stale_51 ?_
          refine j_istore X (lv' := [(5, bz_i x1), (0, bz_rf E 81), (1, bz_i a1), (2, bz_i a2), (3, bz_i a3), (4, bz_i a4)]) dM_stale_54 (by decide) rfl ?_
          show bz_J _ _ 56 _ _ _
          refine j_iload X dM_stale_56 0 rfl ?_
          refine j_iconst X dM_stale_58 ?_
          refine j_icmp_eq X (tgt := 77) rfl (w32_lit rfl) dM_stale_59 (by decide) hf (fun hf => ?_) (fun hf => ?_)
          · refine j_iconst X dM_stale_77 ?_
            cases hf
            exact j_zret X (by decide +kernel) dM_stale_78 rfl rfl
          · refine j_aload_n X dM_stale_62 rfl 1 rfl ?_
            refine j_geta X gf_M_20_81 dM_stale_63 ?_
            refine j_iload X dM_stale_66 0 rfl ?_
            refine j_iald X sh_85 dM_stale_68 hf (fun x2 hf => ?_)
            refine j_iload_n X dM_stale_69 rfl 4 rfl ?_
            refine j_icmp_eq X (tgt := 77) rfl rfl dM_stale_70 (by decide) hf (fun hf => ?_) (fun hf => ?_)
            · refine j_iconst X dM_stale_77 ?_
              cases hf
              exact j_zret X (by decide +kernel) dM_stale_78 rfl rfl
            · refine j_iconst X dM_stale_73 ?_
              refine j_goto X (tgt := 78) dM_stale_74 (by decide) ?_
              cases hf
              exact j_zret X (by decide +kernel) dM_stale_78 rfl rfl
        · refine j_iconst X dM_stale_43 ?_
          cases hf
          exact j_zret X (by decide +kernel) dM_stale_44 rfl rfl
def fM_paper (F : Nat) (M : bz_Mm) (a1 : Int) (a2 : Int) : Option (Int × bz_Mm) :=
  if w32 (fM_in (w32 a1) 0 7) = 0 then
  (some ((0, M)))
  else
  (if w32 (fM_in (w32 a2) 0 2) = 0 then
  (some ((0, M)))
  else
  (if w32 (M 81 0) = 0 then
  (wa_ M 92 a1 8 a2 fun m1 =>
  some ((1, m1)))
  else
  (some ((0, M)))))
set_option maxHeartbeats 4000000 in
set_option maxRecDepth 20000 in
theorem cM_paper (E : bz_E) (F : Nat)  {M : bz_Mm} {a1 : Int} {a2 : Int} {x0 : Int × bz_Mm} (hf : fM_paper F M a1 a2 = some x0) : bz_Ct E yM_paper (.code yM_paper prog_14_method_17_code 3 (some .boolean)) 1 25 [bz_rf E 81, bz_i a1, bz_i a2] M (some (bz_i x0.1)) x0.2 := by
  refine bz_met (by decide +kernel) (Nat.le_of_ble_eq_true rfl) (fun K X => ?_)
  have X : bz_X K E prog_14_method_17_code 3 "UnitsWrongModel" (some .boolean) 1 25 _ _ := X
  unfold fM_paper at hf
  show bz_J K 3 0 [(0, bz_rf E 81), (1, bz_i a1), (2, bz_i a2)] [] M
  refine j_iload_n X dM_paper_0 rfl 1 rfl ?_
  refine j_i2l X rfl dM_paper_1 ?_
  refine j_lconst X (v := 0) dM_paper_2 rfl ?_
  refine j_ldc2 X (v := 7) wd_1436 dM_paper_3 ?_
  refine j_cs X (st := []) (cM_in E) gyM_in wd_1414 rfl (by decide) (by decide) wd_1413 rfl (Nat.le_of_ble_eq_true rfl) dM_paper_6 ?_
  refine j_if_eq X (tgt := 31) rfl dM_paper_9 (by decide) hf (fun hf => ?_) (fun hf => ?_)
  · refine j_iconst X dM_paper_31 ?_
    cases hf
    exact j_zret X (by decide +kernel) dM_paper_32 rfl rfl
  · refine j_iload_n X dM_paper_12 rfl 2 rfl ?_
    refine j_i2l X rfl dM_paper_13 ?_
    refine j_lconst X (v := 0) dM_paper_14 rfl ?_
    refine j_ldc2 X (v := 2) wd_1434 dM_paper_15 ?_
    refine j_cs X (st := []) (cM_in E) gyM_in wd_1414 rfl (by decide) (by decide) wd_1413 rfl (Nat.le_of_ble_eq_true rfl) dM_paper_18 ?_
    refine j_if_eq X (tgt := 31) rfl dM_paper_21 (by decide) hf (fun hf => ?_) (fun hf => ?_)
    · refine j_iconst X dM_paper_31 ?_
      cases hf
      exact j_zret X (by decide +kernel) dM_paper_32 rfl rfl
    · refine j_aload_n X dM_paper_24 rfl 0 rfl ?_
      refine j_geti X gf_M_216_81 dM_paper_25 ?_
      refine j_if_eq X (tgt := 33) rfl dM_paper_28 (by decide) hf (fun hf => ?_) (fun hf => ?_)
      · refine j_aload_n X dM_paper_33 rfl 0 rfl ?_
        refine j_geta X gf_M_41_81 dM_paper_34 ?_
        refine j_iload_n X dM_paper_37 rfl 1 rfl ?_
        refine j_iload_n X dM_paper_38 rfl 2 rfl ?_
        refine j_iast X sh_92 dM_paper_39 hf (fun m1 hf => ?_)
        refine j_iconst X dM_paper_40 ?_
        cases hf
        exact j_zret X (by decide +kernel) dM_paper_41 rfl rfl
      · refine j_iconst X dM_paper_31 ?_
        cases hf
        exact j_zret X (by decide +kernel) dM_paper_32 rfl rfl
def fM_fund (F : Nat) (M : bz_Mm) (a1 : Int) : Option (Int × bz_Mm) :=
  if w32 (fM_in (w32 a1) 0 100000000) = 0 then
  (some (((-1), M)))
  else
  (if w32 (M 81 19) = 4 then
  (some (((-1), M)))
  else
  (if w32 (M 81 0) = 0 then
  (wa_ M 93 (M 81 19) 4 a1 fun m1 =>
  wa_ m1 96 (m1 81 19) 4 ((-1)) fun m2 =>
  wf_ m2 81 19 ((m2 81 19) + 1) fun m3 =>
  some (((m3 81 19) - 1, m3)))
  else
  (some (((-1), M)))))
set_option maxHeartbeats 4000000 in
set_option maxRecDepth 20000 in
theorem cM_fund (E : bz_E) (F : Nat)  {M : bz_Mm} {a1 : Int} {x0 : Int × bz_Mm} (hf : fM_fund F M a1 = some x0) : bz_Ct E yM_fund (.code yM_fund prog_14_method_19_code 2 (some .int)) 1 25 [bz_rf E 81, bz_i a1] M (some (bz_i x0.1)) x0.2 := by
  refine bz_met (by decide +kernel) (Nat.le_of_ble_eq_true rfl) (fun K X => ?_)
  have X : bz_X K E prog_14_method_19_code 2 "UnitsWrongModel" (some .int) 1 25 _ _ := X
  unfold fM_fund at hf
  show bz_J K 2 0 [(0, bz_rf E 81), (1, bz_i a1)] [] M
  refine j_iload_n X dM_fund_0 rfl 1 rfl ?_
  refine j_i2l X rfl dM_fund_1 ?_
  refine j_lconst X (v := 0) dM_fund_2 rfl ?_
  refine j_ldc2 X (v := 100000000) wd_1473 dM_fund_3 ?_
  refine j_cs X (st := []) (cM_in E) gyM_in wd_1414 rfl (by decide) (by decide) wd_1413 rfl (Nat.le_of_ble_eq_true rfl) dM_fund_6 ?_
  refine j_if_eq X (tgt := 27) rfl dM_fund_9 (by decide) hf (fun hf => ?_) (fun hf => ?_)
  · refine j_iconst X dM_fund_27 ?_
    cases hf
    exact j_iret X dM_fund_28 rfl rfl
  · refine j_aload_n X dM_fund_12 rfl 0 rfl ?_
    refine j_geti X gf_M_275_81 dM_fund_13 ?_
    refine j_iconst X dM_fund_16 ?_
    refine j_icmp_eq X (tgt := 27) rfl (w32_lit rfl) dM_fund_17 (by decide) hf (fun hf => ?_) (fun hf => ?_)
    · refine j_iconst X dM_fund_27 ?_
      cases hf
      exact j_iret X dM_fund_28 rfl rfl
    · refine j_aload_n X dM_fund_20 rfl 0 rfl ?_
      refine j_geti X gf_M_216_81 dM_fund_21 ?_
      refine j_if_eq X (tgt := 29) rfl dM_fund_24 (by decide) hf (fun hf => ?_) (fun hf => ?_)
      · refine j_aload_n X dM_fund_29 rfl 0 rfl ?_
        refine j_geta X gf_M_44_81 dM_fund_30 ?_
        refine j_aload_n X dM_fund_33 rfl 0 rfl ?_
        refine j_geti X gf_M_275_81 dM_fund_34 ?_
        refine j_iload_n X dM_fund_37 rfl 1 rfl ?_
        refine j_iast X sh_93 dM_fund_38 hf (fun m1 hf => ?_)
        refine j_aload_n X dM_fund_39 rfl 0 rfl ?_
        show bz_J _ _ 40 _ _ _
        refine j_geta X gf_M_53_81 dM_fund_40 ?_
        refine j_aload_n X dM_fund_43 rfl 0 rfl ?_
        refine j_geti X gf_M_275_81 dM_fund_44 ?_
        refine j_iconst X dM_fund_47 ?_
        refine j_iast X sh_96 dM_fund_48 hf (fun m2 hf => ?_)
        refine j_aload_n X dM_fund_49 rfl 0 rfl ?_
        refine j_dup X dM_fund_50 rfl ?_
        refine j_geti X gf_M_275_81 dM_fund_51 ?_
        show bz_J _ _ 54 _ _ _
        refine j_iconst X dM_fund_54 ?_
        refine j_iadd X dM_fund_55 ?_
        refine j_puti X pf_M_275_81 dM_fund_56 hf (fun m3 hf => ?_)
        refine j_aload_n X dM_fund_59 rfl 0 rfl ?_
        refine j_geti X gf_M_275_81 dM_fund_60 ?_
        refine j_iconst X dM_fund_63 ?_
        refine j_isub X dM_fund_64 ?_
        cases hf
        exact j_iret X dM_fund_65 rfl rfl
      · refine j_iconst X dM_fund_27 ?_
        cases hf
        exact j_iret X dM_fund_28 rfl rfl
def fM_holder (F : Nat) (M : bz_Mm) (a1 : Int) : Option (Int × bz_Mm) :=
  if w32 (fM_in (w32 a1) ((-11)) 12) = 0 then
  (some (((-1), M)))
  else
  (if w32 (M 81 20) = 16 then
  (some (((-1), M)))
  else
  (wa_ M 94 (M 81 20) 16 a1 fun m1 =>
  wa_ m1 95 (m1 81 20) 16 ((-1)) fun m2 =>
  wf_ m2 81 20 ((m2 81 20) + 1) fun m3 =>
  some (((m3 81 20) - 1, m3))))
set_option maxHeartbeats 4000000 in
set_option maxRecDepth 20000 in
theorem cM_holder (E : bz_E) (F : Nat)  {M : bz_Mm} {a1 : Int} {x0 : Int × bz_Mm} (hf : fM_holder F M a1 = some x0) : bz_Ct E yM_holder (.code yM_holder prog_14_method_20_code 2 (some .int)) 1 25 [bz_rf E 81, bz_i a1] M (some (bz_i x0.1)) x0.2 := by
  refine bz_met (by decide +kernel) (Nat.le_of_ble_eq_true rfl) (fun K X => ?_)
  have X : bz_X K E prog_14_method_20_code 2 "UnitsWrongModel" (some .int) 1 25 _ _ := X
  unfold fM_holder at hf
  show bz_J K 2 0 [(0, bz_rf E 81), (1, bz_i a1)] [] M
  refine j_iload_n X dM_holder_0 rfl 1 rfl ?_
  refine j_i2l X rfl dM_holder_1 ?_
  refine j_ldc2 X (v := -11) wd_1478 dM_holder_2 ?_
  refine j_ldc2 X (v := 12) wd_1479 dM_holder_5 ?_
  refine j_cs X (st := []) (cM_in E) gyM_in wd_1414 rfl (by decide) (by decide) wd_1413 rfl (Nat.le_of_ble_eq_true rfl) dM_holder_8 ?_
  refine j_if_eq X (tgt := 23) rfl dM_holder_11 (by decide) hf (fun hf => ?_) (fun hf => ?_)
  · refine j_iconst X dM_holder_23 ?_
    cases hf
    exact j_iret X dM_holder_24 rfl rfl
  · refine j_aload_n X dM_holder_14 rfl 0 rfl ?_
    refine j_geti X gf_M_284_81 dM_holder_15 ?_
    refine j_bipush X dM_holder_18 rfl ?_
    refine j_icmp_ne X (tgt := 25) rfl (w32_lit rfl) dM_holder_20 (by decide) hf (fun hf => ?_) (fun hf => ?_)
    · refine j_aload_n X dM_holder_25 rfl 0 rfl ?_
      refine j_geta X gf_M_47_81 dM_holder_26 ?_
      refine j_aload_n X dM_holder_29 rfl 0 rfl ?_
      refine j_geti X gf_M_284_81 dM_holder_30 ?_
      refine j_iload_n X dM_holder_33 rfl 1 rfl ?_
      refine j_iast X sh_94 dM_holder_34 hf (fun m1 hf => ?_)
      refine j_aload_n X dM_holder_35 rfl 0 rfl ?_
      show bz_J _ _ 36 _ _ _
      refine j_geta X gf_M_50_81 dM_holder_36 ?_
      refine j_aload_n X dM_holder_39 rfl 0 rfl ?_
      refine j_geti X gf_M_284_81 dM_holder_40 ?_
      refine j_iconst X dM_holder_43 ?_
      refine j_iast X sh_95 dM_holder_44 hf (fun m2 hf => ?_)
      refine j_aload_n X dM_holder_45 rfl 0 rfl ?_
      refine j_dup X dM_holder_46 rfl ?_
      refine j_geti X gf_M_284_81 dM_holder_47 ?_
      show bz_J _ _ 50 _ _ _
      refine j_iconst X dM_holder_50 ?_
      refine j_iadd X dM_holder_51 ?_
      refine j_puti X pf_M_284_81 dM_holder_52 hf (fun m3 hf => ?_)
      refine j_aload_n X dM_holder_55 rfl 0 rfl ?_
      refine j_geti X gf_M_284_81 dM_holder_56 ?_
      refine j_iconst X dM_holder_59 ?_
      refine j_isub X dM_holder_60 ?_
      cases hf
      exact j_iret X dM_holder_61 rfl rfl
    · refine j_iconst X dM_holder_23 ?_
      cases hf
      exact j_iret X dM_holder_24 rfl rfl
def gM_isFund (M : bz_Mm) (a1 : Int) : Option Int :=
  some (fM_in (w32 a1) 0 (w32 ((M 81 19) - 1)))
def fM_isFund (M : bz_Mm) (a1 : Int) : Int :=
  (fM_in (w32 a1) 0 (w32 ((M 81 19) - 1)))
theorem tM_isFund (M : bz_Mm) (a1 : Int) : gM_isFund M a1 = some (fM_isFund M a1) := by
  unfold gM_isFund fM_isFund
  (repeat' (first | rfl | split))
theorem zM_isFund {M : bz_Mm} {a1 : Int} : fM_isFund M a1 = 0 ∨ fM_isFund M a1 = 1 := by
  unfold fM_isFund
  (repeat' (first | exact Or.inl rfl | exact Or.inr rfl | exact zM_in | split))
set_option maxHeartbeats 4000000 in
set_option maxRecDepth 20000 in
theorem cM_isFund (E : bz_E) {M : bz_Mm} {a1 : Int} : bz_Ct E yM_isFund (.code yM_isFund prog_14_method_18_code 2 (some .boolean)) 1 25 [bz_rf E 81, bz_i a1] M (some (bz_i (fM_isFund M a1))) M := by
  have hf := tM_isFund M a1
  refine bz_met (by decide +kernel) (Nat.le_of_ble_eq_true rfl) (fun K X => ?_)
  have X : bz_X K E prog_14_method_18_code 2 "UnitsWrongModel" (some .boolean) 1 25 _ _ := X
  unfold gM_isFund at hf
  generalize fM_isFund M a1 = rr at hf X
  show bz_J K 2 0 [(0, bz_rf E 81), (1, bz_i a1)] [] M
  refine j_iload_n X dM_isFund_0 rfl 1 rfl ?_
  refine j_i2l X rfl dM_isFund_1 ?_
  refine j_lconst X (v := 0) dM_isFund_2 rfl ?_
  refine j_aload_n X dM_isFund_3 rfl 0 rfl ?_
  refine j_geti X gf_M_275_81 dM_isFund_4 ?_
  refine j_iconst X dM_isFund_7 ?_
  refine j_isub X dM_isFund_8 ?_
  show bz_J _ _ 9 _ _ _
  refine j_i2l X rfl dM_isFund_9 ?_
  refine j_cs X (st := []) (cM_in E) gyM_in wd_1414 rfl (by decide) (by decide) wd_1413 rfl (Nat.le_of_ble_eq_true rfl) dM_isFund_10 ?_
  cases hf
  exact j_zret X (bz_zz zM_in) dM_isFund_13 rfl rfl
def fM_trade (F : Nat) (M : bz_Mm) (a1 : Int) (a2 : Int) (a3 : Int) (a4 : Int) (a5 : Int) : Option (Int × bz_Mm) :=
  if w32 (fM_isFund M a1) = 0 then
  (some (((-1), M)))
  else
  (if w32 (fM_in (w32 a2) 0 7) = 0 then
  (some (((-1), M)))
  else
  (if w32 (fM_in (w32 a3) 0 (w32 (M 81 0))) = 0 then
  (some (((-1), M)))
  else
  (if w32 (fM_in (w32 a4) ((-10000)) 10000) = 0 then
  (some (((-1), M)))
  else
  (if w32 (fM_in (w32 a5) ((-100000000)) 100000000) = 0 then
  (some (((-1), M)))
  else
  (if w32 (M 81 27) = 120 then
  (some (((-1), M)))
  else
  (if w32 (M 81 0) = 260 then
  (some (((-1), M)))
  else
  (wa_ M 97 (M 81 27) 120 a1 fun m1 =>
  wa_ m1 98 (m1 81 27) 120 a2 fun m2 =>
  wa_ m2 99 (m2 81 27) 120 a3 fun m3 =>
  wa_ m3 100 (m3 81 27) 120 a4 fun m4 =>
  wa_ m4 101 (m4 81 27) 120 a5 fun m5 =>
  wa_ m5 102 (m5 81 27) 120 (m5 81 0) fun m6 =>
  wf_ m6 81 27 ((m6 81 27) + 1) fun m7 =>
  some (((m7 81 27) - 1, m7)))))))))
set_option maxHeartbeats 4000000 in
set_option maxRecDepth 20000 in
theorem cM_trade (E : bz_E) (F : Nat)  {M : bz_Mm} {a1 : Int} {a2 : Int} {a3 : Int} {a4 : Int} {a5 : Int} {x0 : Int × bz_Mm} (hf : fM_trade F M a1 a2 a3 a4 a5 = some x0) : bz_Ct E yM_trade (.code yM_trade prog_14_method_22_code 6 (some .int)) 2 46 [bz_rf E 81, bz_i a1, bz_i a2, bz_i a3, bz_i a4, bz_i a5] M (some (bz_i x0.1)) x0.2 := by
  refine bz_met (by decide +kernel) (Nat.le_of_ble_eq_true rfl) (fun K X => ?_)
  have X : bz_X K E prog_14_method_22_code 6 "UnitsWrongModel" (some .int) 2 46 _ _ := X
  unfold fM_trade at hf
  show bz_J K 6 0 [(0, bz_rf E 81), (1, bz_i a1), (2, bz_i a2), (3, bz_i a3), (4, bz_i a4), (5, bz_i a5)] [] M
  refine j_aload_n X dM_trade_0 rfl 0 rfl ?_
  refine j_iload_n X dM_trade_1 rfl 1 rfl ?_
  refine j_cv X (st := []) (cM_isFund E) gyM_isFund gv_M_isFund_81 rfl (by decide) (by decide) wd_1484 rfl (Nat.le_of_ble_eq_true rfl) dM_trade_2 ?_
  refine j_if_eq X (tgt := 83) rfl dM_trade_5 (by decide) hf (fun hf => ?_) (fun hf => ?_)
  · refine j_iconst X dM_trade_83 ?_
    cases hf
    exact j_iret X dM_trade_84 rfl rfl
  · refine j_iload_n X dM_trade_8 rfl 2 rfl ?_
    refine j_i2l X rfl dM_trade_9 ?_
    refine j_lconst X (v := 0) dM_trade_10 rfl ?_
    refine j_ldc2 X (v := 7) wd_1436 dM_trade_11 ?_
    refine j_cs X (st := []) (cM_in E) gyM_in wd_1414 rfl (by decide) (by decide) wd_1413 rfl (Nat.le_of_ble_eq_true rfl) dM_trade_14 ?_
    refine j_if_eq X (tgt := 83) rfl dM_trade_17 (by decide) hf (fun hf => ?_) (fun hf => ?_)
    · refine j_iconst X dM_trade_83 ?_
      cases hf
      exact j_iret X dM_trade_84 rfl rfl
    · refine j_iload_n X dM_trade_20 rfl 3 rfl ?_
      refine j_i2l X rfl dM_trade_21 ?_
      refine j_lconst X (v := 0) dM_trade_22 rfl ?_
      refine j_aload_n X dM_trade_23 rfl 0 rfl ?_
      refine j_geti X gf_M_216_81 dM_trade_24 ?_
      refine j_i2l X rfl dM_trade_27 ?_
      refine j_cs X (st := []) (cM_in E) gyM_in wd_1414 rfl (by decide) (by decide) wd_1413 rfl (Nat.le_of_ble_eq_true rfl) dM_trade_28 ?_
      show bz_J _ _ 31 _ _ _
      refine j_if_eq X (tgt := 83) rfl dM_trade_31 (by decide) hf (fun hf => ?_) (fun hf => ?_)
      · refine j_iconst X dM_trade_83 ?_
        cases hf
        exact j_iret X dM_trade_84 rfl rfl
      · refine j_iload X dM_trade_34 4 rfl ?_
        refine j_i2l X rfl dM_trade_36 ?_
        refine j_ldc2 X (v := -10000) wd_1488 dM_trade_37 ?_
        refine j_ldc2 X (v := 10000) wd_1437 dM_trade_40 ?_
        refine j_cs X (st := []) (cM_in E) gyM_in wd_1414 rfl (by decide) (by decide) wd_1413 rfl (Nat.le_of_ble_eq_true rfl) dM_trade_43 ?_
        refine j_if_eq X (tgt := 83) rfl dM_trade_46 (by decide) hf (fun hf => ?_) (fun hf => ?_)
        · refine j_iconst X dM_trade_83 ?_
          cases hf
          exact j_iret X dM_trade_84 rfl rfl
        · refine j_iload X dM_trade_49 5 rfl ?_
          refine j_i2l X rfl dM_trade_51 ?_
          refine j_ldc2 X (v := -100000000) wd_1489 dM_trade_52 ?_
          refine j_ldc2 X (v := 100000000) wd_1473 dM_trade_55 ?_
          refine j_cs X (st := []) (cM_in E) gyM_in wd_1414 rfl (by decide) (by decide) wd_1413 rfl (Nat.le_of_ble_eq_true rfl) dM_trade_58 ?_
          refine j_if_eq X (tgt := 83) rfl dM_trade_61 (by decide) hf (fun hf => ?_) (fun hf => ?_)
          · refine j_iconst X dM_trade_83 ?_
            cases hf
            exact j_iret X dM_trade_84 rfl rfl
          · refine j_aload_n X dM_trade_64 rfl 0 rfl ?_
            refine j_geti X gf_M_294_81 dM_trade_65 ?_
            refine j_bipush X dM_trade_68 rfl ?_
            refine j_icmp_eq X (tgt := 83) rfl (w32_lit rfl) dM_trade_70 (by decide) hf (fun hf => ?_) (fun hf => ?_)
            · refine j_iconst X dM_trade_83 ?_
              cases hf
              exact j_iret X dM_trade_84 rfl rfl
            · refine j_aload_n X dM_trade_73 rfl 0 rfl ?_
              refine j_geti X gf_M_216_81 dM_trade_74 ?_
              refine j_sipush X dM_trade_77 rfl ?_
              refine j_icmp_ne X (tgt := 85) rfl (w32_lit rfl) dM_trade_80 (by decide) hf (fun hf => ?_) (fun hf => ?_)
              · refine j_aload_n X dM_trade_85 rfl 0 rfl ?_
                refine j_geta X gf_M_56_81 dM_trade_86 ?_
                refine j_aload_n X dM_trade_89 rfl 0 rfl ?_
                refine j_geti X gf_M_294_81 dM_trade_90 ?_
                refine j_iload_n X dM_trade_93 rfl 1 rfl ?_
                refine j_iast X sh_97 dM_trade_94 hf (fun m1 hf => ?_)
                refine j_aload_n X dM_trade_95 rfl 0 rfl ?_
                show bz_J _ _ 96 _ _ _
                refine j_geta X gf_M_59_81 dM_trade_96 ?_
                refine j_aload_n X dM_trade_99 rfl 0 rfl ?_
                refine j_geti X gf_M_294_81 dM_trade_100 ?_
                refine j_iload_n X dM_trade_103 rfl 2 rfl ?_
                refine j_iast X sh_98 dM_trade_104 hf (fun m2 hf => ?_)
                refine j_aload_n X dM_trade_105 rfl 0 rfl ?_
                refine j_geta X gf_M_62_81 dM_trade_106 ?_
                refine j_aload_n X dM_trade_109 rfl 0 rfl ?_
                show bz_J _ _ 110 _ _ _
                refine j_geti X gf_M_294_81 dM_trade_110 ?_
                refine j_iload_n X dM_trade_113 rfl 3 rfl ?_
                refine j_iast X sh_99 dM_trade_114 hf (fun m3 hf => ?_)
                refine j_aload_n X dM_trade_115 rfl 0 rfl ?_
                refine j_geta X gf_M_65_81 dM_trade_116 ?_
                refine j_aload_n X dM_trade_119 rfl 0 rfl ?_
                refine j_geti X gf_M_294_81 dM_trade_120 ?_
                refine j_iload X dM_trade_123 4 rfl ?_
                show bz_J _ _ 125 _ _ _
                refine j_iast X sh_100 dM_trade_125 hf (fun m4 hf => ?_)
                refine j_aload_n X dM_trade_126 rfl 0 rfl ?_
                refine j_geta X gf_M_68_81 dM_trade_127 ?_
                refine j_aload_n X dM_trade_130 rfl 0 rfl ?_
                refine j_geti X gf_M_294_81 dM_trade_131 ?_
                refine j_iload X dM_trade_134 5 rfl ?_
                refine j_iast X sh_101 dM_trade_136 hf (fun m5 hf => ?_)
                refine j_aload_n X dM_trade_137 rfl 0 rfl ?_
                show bz_J _ _ 138 _ _ _
                refine j_geta X gf_M_71_81 dM_trade_138 ?_
                refine j_aload_n X dM_trade_141 rfl 0 rfl ?_
                refine j_geti X gf_M_294_81 dM_trade_142 ?_
                refine j_aload_n X dM_trade_145 rfl 0 rfl ?_
                refine j_geti X gf_M_216_81 dM_trade_146 ?_
                refine j_iast X sh_102 dM_trade_149 hf (fun m6 hf => ?_)
                refine j_aload_n X dM_trade_150 rfl 0 rfl ?_
                refine j_dup X dM_trade_151 rfl ?_
                show bz_J _ _ 152 _ _ _
                refine j_geti X gf_M_294_81 dM_trade_152 ?_
                refine j_iconst X dM_trade_155 ?_
                refine j_iadd X dM_trade_156 ?_
                refine j_puti X pf_M_294_81 dM_trade_157 hf (fun m7 hf => ?_)
                refine j_aload_n X dM_trade_160 rfl 0 rfl ?_
                refine j_geti X gf_M_294_81 dM_trade_161 ?_
                refine j_iconst X dM_trade_164 ?_
                refine j_isub X dM_trade_165 ?_
                show bz_J _ _ 166 _ _ _
                cases hf
                exact j_iret X dM_trade_166 rfl rfl
              · refine j_iconst X dM_trade_83 ?_
                cases hf
                exact j_iret X dM_trade_84 rfl rfl
def gM_placeOf (M : bz_Mm) (a1 : Int) : Option Int :=
  if w32 (fM_in (w32 a1) 0 (w32 ((M 81 20) - 1))) = 0 then
  (if w32 (fM_isFund M (a1 - 20)) = 0 then
  (some ((-1)))
  else
  (some ((16 + a1) - 20)))
  else
  (some a1)
def fM_placeOf (M : bz_Mm) (a1 : Int) : Int :=
  if w32 (fM_in (w32 a1) 0 (w32 ((M 81 20) - 1))) = 0 then
  (if w32 (fM_isFund M (a1 - 20)) = 0 then
  (((-1)))
  else
  (((16 + a1) - 20)))
  else
  (a1)
theorem tM_placeOf (M : bz_Mm) (a1 : Int) : gM_placeOf M a1 = some (fM_placeOf M a1) := by
  unfold gM_placeOf fM_placeOf
  (repeat' (first | rfl | split))
set_option maxHeartbeats 4000000 in
set_option maxRecDepth 20000 in
theorem cM_placeOf (E : bz_E) {M : bz_Mm} {a1 : Int} : bz_Ct E yM_placeOf (.code yM_placeOf prog_14_method_21_code 2 (some .int)) 2 46 [bz_rf E 81, bz_i a1] M (some (bz_i (fM_placeOf M a1))) M := by
  have hf := tM_placeOf M a1
  refine bz_met (by decide +kernel) (Nat.le_of_ble_eq_true rfl) (fun K X => ?_)
  have X : bz_X K E prog_14_method_21_code 2 "UnitsWrongModel" (some .int) 2 46 _ _ := X
  unfold gM_placeOf at hf
  generalize fM_placeOf M a1 = rr at hf X
  show bz_J K 2 0 [(0, bz_rf E 81), (1, bz_i a1)] [] M
  refine j_iload_n X dM_placeOf_0 rfl 1 rfl ?_
  refine j_i2l X rfl dM_placeOf_1 ?_
  refine j_lconst X (v := 0) dM_placeOf_2 rfl ?_
  refine j_aload_n X dM_placeOf_3 rfl 0 rfl ?_
  refine j_geti X gf_M_284_81 dM_placeOf_4 ?_
  refine j_iconst X dM_placeOf_7 ?_
  refine j_isub X dM_placeOf_8 ?_
  show bz_J _ _ 9 _ _ _
  refine j_i2l X rfl dM_placeOf_9 ?_
  refine j_cs X (st := []) (cM_in E) gyM_in wd_1414 rfl (by decide) (by decide) wd_1413 rfl (Nat.le_of_ble_eq_true rfl) dM_placeOf_10 ?_
  refine j_if_eq X (tgt := 18) rfl dM_placeOf_13 (by decide) hf (fun hf => ?_) (fun hf => ?_)
  · refine j_aload_n X dM_placeOf_18 rfl 0 rfl ?_
    refine j_iload_n X dM_placeOf_19 rfl 1 rfl ?_
    refine j_bipush X dM_placeOf_20 rfl ?_
    refine j_isub X dM_placeOf_22 ?_
    refine j_cv X (st := []) (cM_isFund E) gyM_isFund gv_M_isFund_81 rfl (by decide) (by decide) wd_1484 rfl (Nat.le_of_ble_eq_true rfl) dM_placeOf_23 ?_
    refine j_if_eq X (tgt := 39) rfl dM_placeOf_26 (by decide) hf (fun hf => ?_) (fun hf => ?_)
    · refine j_iconst X dM_placeOf_39 ?_
      cases hf
      exact j_iret X dM_placeOf_40 rfl rfl
    · refine j_bipush X dM_placeOf_29 rfl ?_
      refine j_iload_n X dM_placeOf_31 rfl 1 rfl ?_
      refine j_iadd X dM_placeOf_32 ?_
      refine j_bipush X dM_placeOf_33 rfl ?_
      refine j_isub X dM_placeOf_35 ?_
      refine j_goto X (tgt := 40) dM_placeOf_36 (by decide) ?_
      cases hf
      exact j_iret X dM_placeOf_40 rfl rfl
  · refine j_iload_n X dM_placeOf_16 rfl 1 rfl ?_
    cases hf
    exact j_iret X dM_placeOf_17 rfl rfl
def M_ruleOf_L6 (F : Nat) : Nat → bz_Mm → Int → Int → Int → Int → Int → Option (Int)
  | 0, _, _, _, _, _, _ => none
  | n + 1, M, l1, l2, l3, l5, l4 =>
    if w32 l5 < w32 (M 81 43) then
    (rd_ M 154 l5 6 fun x1 =>
    if w32 l2 < w32 x1 then
    (M_ruleOf_L6 F n M l1 l2 l3 (l5 + 1) l4)
    else
    (M_ruleOf_L6 F n M l1 l2 l3 (l5 + 1) l5))
    else
    (some l4)
theorem lM_ruleOf_L6 (E : bz_E) (F : Nat) {K : bz_K} {rv : Option Value} {M1 : bz_Mm} (X : bz_X K E prog_14_method_44_code 6 "UnitsWrongModel" (some .int) 0 0 rv M1) {M : bz_Mm} {l1 : Int} {l2 : Int} {l3 : Int} {res : (Int)}
    (kx : ∀ (l4 : Int), some l4 = some res → bz_J K 6 36 [(4, bz_i l4), (0, bz_rf E 81), (1, bz_i l1), (3, bz_i l3)] [] M) :
    ∀ (n : Nat) (l5 : Int) (l4 : Int), M_ruleOf_L6 F n M l1 l2 l3 l5 l4 = some res → bz_J K 6 6 [(5, bz_i l5), (4, bz_i l4), (0, bz_rf E 81), (1, bz_i l1), (2, bz_i l2), (3, bz_i l3)] [] M := by
  intro n
  induction n with
  | zero => intro l5 l4 hf; cases hf
  | succ n ih =>
    intro l5 l4 hf
    rw [M_ruleOf_L6] at hf
    refine j_iload X dM_ruleOf_6 0 rfl ?_
    refine j_aload_n X dM_ruleOf_8 rfl 2 rfl ?_
    refine j_geti X gf_M_413_81 dM_ruleOf_9 ?_
    refine j_icmp_ge X (tgt := 36) rfl rfl dM_ruleOf_12 (by decide) hf (fun hf => ?_) (fun hf => ?_)
    · exact j_sub [1, 2, 3, 5] rfl (kx _ hf)
    · refine j_aload_n X dM_ruleOf_15 rfl 2 rfl ?_
      refine j_geta X gf_M_105_81 dM_ruleOf_16 ?_
      refine j_iload X dM_ruleOf_19 0 rfl ?_
      refine j_iald X sh_154 dM_ruleOf_21 hf (fun x1 hf => ?_)
      refine j_iload_n X dM_ruleOf_22 rfl 4 rfl ?_
      refine j_icmp_gt X (tgt := 30) rfl rfl dM_ruleOf_23 (by decide) hf (fun hf => ?_) (fun hf => ?_)
      · refine j_iinc X (y := l5 + 1) (lv' := [(5, bz_i (l5 + 1)), (4, bz_i l4), (0, bz_rf E 81), (1, bz_i l1), (2, bz_i l2), (3, bz_i l3)]) dM_ruleOf_30 0 rfl rfl (by decide) rfl ?_
        refine j_goto X (tgt := 6) dM_ruleOf_33 (by decide) ?_
        exact ih _ _ hf
      · refine j_iload X dM_ruleOf_26 0 rfl ?_
        refine j_istore X (lv' := [(4, bz_i l5), (5, bz_i l5), (0, bz_rf E 81), (1, bz_i l1), (2, bz_i l2), (3, bz_i l3)]) dM_ruleOf_28 (by decide) rfl ?_
        refine j_iinc X (y := l5 + 1) (lv' := [(5, bz_i (l5 + 1)), (4, bz_i l5), (0, bz_rf E 81), (1, bz_i l1), (2, bz_i l2), (3, bz_i l3)]) dM_ruleOf_30 1 rfl rfl (by decide) rfl ?_
        refine j_goto X (tgt := 6) dM_ruleOf_33 (by decide) ?_
        exact ih _ _ hf
def fM_ruleOf (F : Nat) (M : bz_Mm) (a1 : Int) (a2 : Int) (a3 : Int) : Option (Int) :=
  cl1_ (M_ruleOf_L6 F F M a1 a2 a3 0 ((-1))) fun l4 =>
  if w32 l4 = (-1) then
  (rd_ M 155 a3 12 fun x15 =>
  some x15)
  else
  (ra_ l4 7 fun i2 =>
  ra_ a1 5 fun i3 =>
  rd_ M (119 + 5 * i2 + i3) a3 12 fun x4 =>
  if w32 x4 = (-2147483648) then
  (ra_ l4 7 fun i5 =>
  ra_ 4 5 fun i6 =>
  rd_ M (119 + 5 * i5 + i6) a3 12 fun x7 =>
  if w32 x7 = (-2147483648) then
  (rd_ M 155 a3 12 fun x8 =>
  some x8)
  else
  (ra_ l4 7 fun i9 =>
  ra_ 4 5 fun i10 =>
  rd_ M (119 + 5 * i9 + i10) a3 12 fun x11 =>
  some x11))
  else
  (ra_ l4 7 fun i12 =>
  ra_ a1 5 fun i13 =>
  rd_ M (119 + 5 * i12 + i13) a3 12 fun x14 =>
  some x14))
set_option maxHeartbeats 4000000 in
set_option maxRecDepth 20000 in
theorem cM_ruleOf (E : bz_E) (F : Nat)  {M : bz_Mm} {a1 : Int} {a2 : Int} {a3 : Int} {x0 : Int} (hf : fM_ruleOf F M a1 a2 a3 = some x0) : bz_Ct E yM_ruleOf (.code yM_ruleOf prog_14_method_44_code 6 (some .int)) 0 0 [bz_rf E 81, bz_i a1, bz_i a2, bz_i a3] M (some (bz_i x0)) M := by
  refine bz_met (by decide +kernel) (Nat.le_of_ble_eq_true rfl) (fun K X => ?_)
  have X : bz_X K E prog_14_method_44_code 6 "UnitsWrongModel" (some .int) 0 0 _ _ := X
  unfold fM_ruleOf at hf
  show bz_J K 6 0 [(0, bz_rf E 81), (1, bz_i a1), (2, bz_i a2), (3, bz_i a3)] [] M
  refine j_iconst X dM_ruleOf_0 ?_
  refine j_istore X (lv' := [(4, bz_i ((-1))), (0, bz_rf E 81), (1, bz_i a1), (2, bz_i a2), (3, bz_i a3)]) dM_ruleOf_1 (by decide) rfl ?_
  refine j_iconst X dM_ruleOf_3 ?_
  refine j_istore X (lv' := [(5, bz_i 0), (4, bz_i ((-1))), (0, bz_rf E 81), (1, bz_i a1), (2, bz_i a2), (3, bz_i a3)]) dM_ruleOf_4 (by decide) rfl ?_
  obtain ⟨res16, hz16, hk16⟩ := q_l1 hf
  clear hf
  refine lM_ruleOf_L6 E F X (fun l4 he => ?_) F 0 ((-1)) hz16
  have hf := hk16 _ he
  refine j_iload X dM_ruleOf_36 0 rfl ?_
  refine j_iconst X dM_ruleOf_38 ?_
  refine j_icmp_ne X (tgt := 49) rfl (w32_lit rfl) dM_ruleOf_39 (by decide) hf (fun hf => ?_) (fun hf => ?_)
  · refine j_aload_n X dM_ruleOf_49 rfl 1 rfl ?_
    refine j_geta X gf_M_102_81 dM_ruleOf_50 ?_
    refine j_iload X dM_ruleOf_53 0 rfl ?_
    refine j_aald X sh_111 (by decide) (by decide) dM_ruleOf_55 hf (fun i2 hi2 hf => ?_)
    refine j_iload_n X dM_ruleOf_56 rfl 2 rfl ?_
    refine j_aald X (sr_111 i2 hi2) (by decide) (by decide) dM_ruleOf_57 hf (fun i3 hi3 hf => ?_)
    refine j_iload_n X dM_ruleOf_58 rfl 3 rfl ?_
    show bz_J _ _ 59 _ _ _
    refine j_iald X (sq_111 i2 hi2 i3 hi3) dM_ruleOf_59 hf (fun x4 hf => ?_)
    refine j_ldcw X (v := -2147483648) wd_1453 dM_ruleOf_60 ?_
    refine j_icmp_eq X (tgt := 78) rfl (w32_lit rfl) dM_ruleOf_63 (by decide) hf (fun hf => ?_) (fun hf => ?_)
    · refine j_aload_n X dM_ruleOf_78 rfl 1 rfl ?_
      refine j_geta X gf_M_102_81 dM_ruleOf_79 ?_
      refine j_iload X dM_ruleOf_82 0 rfl ?_
      refine j_aald X sh_111 (by decide) (by decide) dM_ruleOf_84 hf (fun i5 hi5 hf => ?_)
      refine j_iconst X dM_ruleOf_85 ?_
      refine j_aald X (sr_111 i5 hi5) (by decide) (by decide) dM_ruleOf_86 hf (fun i6 hi6 hf => ?_)
      refine j_iload_n X dM_ruleOf_87 rfl 3 rfl ?_
      show bz_J _ _ 88 _ _ _
      refine j_iald X (sq_111 i5 hi5 i6 hi6) dM_ruleOf_88 hf (fun x7 hf => ?_)
      refine j_ldcw X (v := -2147483648) wd_1453 dM_ruleOf_89 ?_
      refine j_icmp_eq X (tgt := 109) rfl (w32_lit rfl) dM_ruleOf_92 (by decide) hf (fun hf => ?_) (fun hf => ?_)
      · refine j_aload_n X dM_ruleOf_109 rfl 1 rfl ?_
        refine j_geta X gf_M_108_81 dM_ruleOf_110 ?_
        refine j_iload_n X dM_ruleOf_113 rfl 3 rfl ?_
        refine j_iald X sh_155 dM_ruleOf_114 hf (fun x8 hf => ?_)
        cases hf
        exact j_iret X dM_ruleOf_115 rfl rfl
      · refine j_aload_n X dM_ruleOf_95 rfl 1 rfl ?_
        refine j_geta X gf_M_102_81 dM_ruleOf_96 ?_
        refine j_iload X dM_ruleOf_99 0 rfl ?_
        refine j_aald X sh_111 (by decide) (by decide) dM_ruleOf_101 hf (fun i9 hi9 hf => ?_)
        refine j_iconst X dM_ruleOf_102 ?_
        refine j_aald X (sr_111 i9 hi9) (by decide) (by decide) dM_ruleOf_103 hf (fun i10 hi10 hf => ?_)
        refine j_iload_n X dM_ruleOf_104 rfl 3 rfl ?_
        show bz_J _ _ 105 _ _ _
        refine j_iald X (sq_111 i9 hi9 i10 hi10) dM_ruleOf_105 hf (fun x11 hf => ?_)
        refine j_goto X (tgt := 115) dM_ruleOf_106 (by decide) ?_
        cases hf
        exact j_iret X dM_ruleOf_115 rfl rfl
    · refine j_aload_n X dM_ruleOf_66 rfl 1 rfl ?_
      refine j_geta X gf_M_102_81 dM_ruleOf_67 ?_
      refine j_iload X dM_ruleOf_70 0 rfl ?_
      refine j_aald X sh_111 (by decide) (by decide) dM_ruleOf_72 hf (fun i12 hi12 hf => ?_)
      refine j_iload_n X dM_ruleOf_73 rfl 2 rfl ?_
      refine j_aald X (sr_111 i12 hi12) (by decide) (by decide) dM_ruleOf_74 hf (fun i13 hi13 hf => ?_)
      refine j_iload_n X dM_ruleOf_75 rfl 3 rfl ?_
      show bz_J _ _ 76 _ _ _
      refine j_iald X (sq_111 i12 hi12 i13 hi13) dM_ruleOf_76 hf (fun x14 hf => ?_)
      cases hf
      exact j_iret X dM_ruleOf_77 rfl rfl
  · refine j_aload_n X dM_ruleOf_42 rfl 1 rfl ?_
    refine j_geta X gf_M_108_81 dM_ruleOf_43 ?_
    refine j_iload_n X dM_ruleOf_46 rfl 3 rfl ?_
    refine j_iald X sh_155 dM_ruleOf_47 hf (fun x15 hf => ?_)
    cases hf
    exact j_iret X dM_ruleOf_48 rfl rfl
def M_deal_L146 (F : Nat) : Nat → bz_Mm → Int → Int → Int → Int → Option (Int)
  | 0, _, _, _, _, _ => none
  | n + 1, M, l5, l2, l3, l6 =>
    if w32 l6 < 260 then
    (cl_ (fM_isOpen F M l6) fun x9 =>
    if w32 x9 = 0 then
    (M_deal_L146 F n M l5 l2 l3 (l6 + 1))
    else
    (some l6))
    else
    (some l6)
def M_deal_L146a (F : Nat) : Nat → bz_Mm → Int → Int → Int → Int → Option (Int)
  | 0, _, _, _, _, _ => none
  | n + 1, M, l5, l2, l3, l6 =>
    if w32 l6 < 260 then
    (cl_ (fM_isOpen F M l6) fun x24 =>
    if w32 x24 = 0 then
    (M_deal_L146a F n M l5 l2 l3 (l6 + 1))
    else
    (some l6))
    else
    (some l6)
theorem lM_deal_L146 (E : bz_E) (F : Nat) {K : bz_K} {rv : Option Value} {M1 : bz_Mm} (X : bz_X K E prog_14_method_23_code 8 "UnitsWrongModel" (some .int) 3 67 rv M1) {M : bz_Mm} {l5 : Int} {l2 : Int} {l3 : Int} {res : (Int)}
    (kx : ∀ (l6 : Int), some l6 = some res → bz_J K 8 169 [(6, bz_i l6), (5, bz_i l5), (0, bz_rf E 81), (2, bz_i l2), (3, bz_i l3)] [] M) :
    ∀ (n : Nat) (l6 : Int), M_deal_L146 F n M l5 l2 l3 l6 = some res → bz_J K 8 146 [(6, bz_i l6), (5, bz_i l5), (0, bz_rf E 81), (2, bz_i l2), (3, bz_i l3)] [] M := by
  intro n
  induction n with
  | zero => intro l6 hf; cases hf
  | succ n ih =>
    intro l6 hf
    rw [M_deal_L146] at hf
    refine j_iload X dM_deal_146 0 rfl ?_
    refine j_sipush X dM_deal_148 rfl ?_
    refine j_icmp_ge X (tgt := 169) rfl (w32_lit rfl) dM_deal_151 (by decide) hf (fun hf => ?_) (fun hf => ?_)
    · exact kx _ hf
    · refine j_aload_n X dM_deal_154 rfl 2 rfl ?_
      refine j_iload X dM_deal_155 0 rfl ?_
      obtain ⟨x9, hzx9, hf⟩ := q_cl hf
      refine j_cv X (st := []) (cM_isOpen E F hzx9) gyM_isOpen gv_M_isOpen_81 rfl (by decide) (by decide) wd_1420 rfl (Nat.le_of_ble_eq_true rfl) dM_deal_157 ?_
      refine j_if_ne X (tgt := 169) rfl dM_deal_160 (by decide) hf (fun hf => ?_) (fun hf => ?_)
      · exact kx _ hf
      · refine j_iinc X (y := l6 + 1) (lv' := [(6, bz_i (l6 + 1)), (5, bz_i l5), (0, bz_rf E 81), (2, bz_i l2), (3, bz_i l3)]) dM_deal_163 0 rfl rfl (by decide) rfl ?_
        refine j_goto X (tgt := 146) dM_deal_166 (by decide) ?_
        exact ih _ hf
theorem lM_deal_L146a (E : bz_E) (F : Nat) {K : bz_K} {rv : Option Value} {M1 : bz_Mm} (X : bz_X K E prog_14_method_23_code 8 "UnitsWrongModel" (some .int) 3 67 rv M1) {M : bz_Mm} {l5 : Int} {l2 : Int} {l3 : Int} {res : (Int)}
    (kx : ∀ (l6 : Int), some l6 = some res → bz_J K 8 169 [(6, bz_i l6), (5, bz_i l5), (0, bz_rf E 81), (2, bz_i l2), (3, bz_i l3)] [] M) :
    ∀ (n : Nat) (l6 : Int), M_deal_L146a F n M l5 l2 l3 l6 = some res → bz_J K 8 146 [(6, bz_i l6), (5, bz_i l5), (0, bz_rf E 81), (2, bz_i l2), (3, bz_i l3)] [] M := by
  intro n
  induction n with
  | zero => intro l6 hf; cases hf
  | succ n ih =>
    intro l6 hf
    rw [M_deal_L146a] at hf
    refine j_iload X dM_deal_146 0 rfl ?_
    refine j_sipush X dM_deal_148 rfl ?_
    refine j_icmp_ge X (tgt := 169) rfl (w32_lit rfl) dM_deal_151 (by decide) hf (fun hf => ?_) (fun hf => ?_)
    · exact kx _ hf
    · refine j_aload_n X dM_deal_154 rfl 2 rfl ?_
      refine j_iload X dM_deal_155 0 rfl ?_
      obtain ⟨x24, hzx24, hf⟩ := q_cl hf
      refine j_cv X (st := []) (cM_isOpen E F hzx24) gyM_isOpen gv_M_isOpen_81 rfl (by decide) (by decide) wd_1420 rfl (Nat.le_of_ble_eq_true rfl) dM_deal_157 ?_
      refine j_if_ne X (tgt := 169) rfl dM_deal_160 (by decide) hf (fun hf => ?_) (fun hf => ?_)
      · exact kx _ hf
      · refine j_iinc X (y := l6 + 1) (lv' := [(6, bz_i (l6 + 1)), (5, bz_i l5), (0, bz_rf E 81), (2, bz_i l2), (3, bz_i l3)]) dM_deal_163 0 rfl rfl (by decide) rfl ?_
        refine j_goto X (tgt := 146) dM_deal_166 (by decide) ?_
        exact ih _ hf
def fM_deal (F : Nat) (M : bz_Mm) (a1 : Int) (a2 : Int) (a3 : Int) (a4 : Int) : Option (Int × bz_Mm) :=
  lt_ (fM_placeOf M a1) fun l5 =>
  if w32 l5 = (-1) then
  (some (((-1), M)))
  else
  (if w32 (fM_isFund M a2) = 0 then
  (some (((-1), M)))
  else
  (if w32 l5 < 16 then
  (if w32 (fM_in (w32 a4) 0 23) = 0 then
  (some (((-1), M)))
  else
  (if w32 (fM_in (w32 a3) ((-10000)) 10000) = 0 then
  (some (((-1), M)))
  else
  (if w32 a3 = 0 then
  (some (((-1), M)))
  else
  (if w32 (M 81 35) = 200 then
  (some (((-1), M)))
  else
  (lt_ (M 81 0) fun l6 =>
  cl_ (fM_isOpen F M (M 81 0)) fun x1 =>
  cl1_ (if w32 x1 = 0 then
  (some (0))
  else
  (cl1_ (if w32 l5 < 16 then
  (rd_ M 94 l5 16 fun x6 =>
  some (x6))
  else
  (some (0))) fun v5 =>
  cl_ (fM_ruleOf F M a2 (M 81 0) 3) fun x7 =>
  if w32 (a4 - v5) < w32 x7 then
  (some (1))
  else
  (some (0)))) fun v3 =>
  cl1_ (if w32 v3 = 0 then
  (cl1_ (M_deal_L146 F F M l5 a2 a3 (l6 + 1)) fun l6 =>
  some (l6))
  else
  (some (l6))) fun l6 =>
  if w32 l6 < 260 then
  (wa_ M 103 (M 81 35) 200 l5 fun m11 =>
  wa_ m11 104 (m11 81 35) 200 a2 fun m12 =>
  wa_ m12 105 (m12 81 35) 200 a3 fun m13 =>
  wa_ m13 106 (m13 81 35) 200 l6 fun m14 =>
  wf_ m14 81 35 ((m14 81 35) + 1) fun m15 =>
  some (((m15 81 35) - 1, m15)))
  else
  (some (((-1), M))))))))
  else
  (if w32 a2 < w32 (l5 - 16) then
  (if w32 (fM_in (w32 a4) 0 23) = 0 then
  (some (((-1), M)))
  else
  (if w32 (fM_in (w32 a3) ((-10000)) 10000) = 0 then
  (some (((-1), M)))
  else
  (if w32 a3 = 0 then
  (some (((-1), M)))
  else
  (if w32 (M 81 35) = 200 then
  (some (((-1), M)))
  else
  (lt_ (M 81 0) fun l6 =>
  cl_ (fM_isOpen F M (M 81 0)) fun x16 =>
  cl1_ (if w32 x16 = 0 then
  (some (0))
  else
  (cl1_ (if w32 l5 < 16 then
  (rd_ M 94 l5 16 fun x21 =>
  some (x21))
  else
  (some (0))) fun v20 =>
  cl_ (fM_ruleOf F M a2 (M 81 0) 3) fun x22 =>
  if w32 (a4 - v20) < w32 x22 then
  (some (1))
  else
  (some (0)))) fun v18 =>
  cl1_ (if w32 v18 = 0 then
  (cl1_ (M_deal_L146a F F M l5 a2 a3 (l6 + 1)) fun l6 =>
  some (l6))
  else
  (some (l6))) fun l6 =>
  if w32 l6 < 260 then
  (wa_ M 103 (M 81 35) 200 l5 fun m26 =>
  wa_ m26 104 (m26 81 35) 200 a2 fun m27 =>
  wa_ m27 105 (m27 81 35) 200 a3 fun m28 =>
  wa_ m28 106 (m28 81 35) 200 l6 fun m29 =>
  wf_ m29 81 35 ((m29 81 35) + 1) fun m30 =>
  some (((m30 81 35) - 1, m30)))
  else
  (some (((-1), M))))))))
  else
  (some (((-1), M))))))
set_option maxHeartbeats 4000000 in
set_option maxRecDepth 20000 in
theorem cM_deal (E : bz_E) (F : Nat)  {M : bz_Mm} {a1 : Int} {a2 : Int} {a3 : Int} {a4 : Int} {x0 : Int × bz_Mm} (hf : fM_deal F M a1 a2 a3 a4 = some x0) : bz_Ct E yM_deal (.code yM_deal prog_14_method_23_code 8 (some .int)) 3 67 [bz_rf E 81, bz_i a1, bz_i a2, bz_i a3, bz_i a4] M (some (bz_i x0.1)) x0.2 := by
  refine bz_met (by decide +kernel) (Nat.le_of_ble_eq_true rfl) (fun K X => ?_)
  have X : bz_X K E prog_14_method_23_code 8 "UnitsWrongModel" (some .int) 3 67 _ _ := X
  unfold fM_deal at hf
  show bz_J K 8 0 [(0, bz_rf E 81), (1, bz_i a1), (2, bz_i a2), (3, bz_i a3), (4, bz_i a4)] [] M
  refine j_aload_n X dM_deal_0 rfl 0 rfl ?_
  refine j_iload_n X dM_deal_1 rfl 1 rfl ?_
  refine j_cv X (st := []) (cM_placeOf E) gyM_placeOf gv_M_placeOf_81 rfl (by decide) (by decide) wd_1494 rfl (Nat.le_of_ble_eq_true rfl) dM_deal_2 ?_
  refine j_lt (g := bz_i) hf (fun l5 hf => ?_)
  refine j_istore X (lv' := [(5, bz_i l5), (0, bz_rf E 81), (1, bz_i a1), (2, bz_i a2), (3, bz_i a3), (4, bz_i a4)]) dM_deal_5 (by decide) rfl ?_
  refine j_iload X dM_deal_7 0 rfl ?_
  refine j_iconst X dM_deal_9 ?_
  refine j_icmp_eq X (tgt := 78) rfl (w32_lit rfl) dM_deal_10 (by decide) hf (fun hf => ?_) (fun hf => ?_)
  · refine j_iconst X dM_deal_78 ?_
    cases hf
    exact j_iret X dM_deal_79 rfl rfl
  · refine j_aload_n X dM_deal_13 rfl 1 rfl ?_
    refine j_iload_n X dM_deal_14 rfl 3 rfl ?_
    refine j_cv X (st := []) (cM_isFund E) gyM_isFund gv_M_isFund_81 rfl (by decide) (by decide) wd_1484 rfl (Nat.le_of_ble_eq_true rfl) dM_deal_15 ?_
    refine j_if_eq X (tgt := 78) rfl dM_deal_18 (by decide) hf (fun hf => ?_) (fun hf => ?_)
    · refine j_iconst X dM_deal_78 ?_
      cases hf
      exact j_iret X dM_deal_79 rfl rfl
    · refine j_iload X dM_deal_21 0 rfl ?_
      refine j_bipush X dM_deal_23 rfl ?_
      refine j_icmp_lt X (tgt := 37) rfl (w32_lit rfl) dM_deal_25 (by decide) hf (fun hf => ?_) (fun hf => ?_)
      · refine j_iload X dM_deal_37 5 rfl ?_
        refine j_i2l X rfl dM_deal_39 ?_
        refine j_lconst X (v := 0) dM_deal_40 rfl ?_
        refine j_ldc2 X (v := 23) wd_1498 dM_deal_41 ?_
        refine j_cs X (st := []) (cM_in E) gyM_in wd_1414 rfl (by decide) (by decide) wd_1413 rfl (Nat.le_of_ble_eq_true rfl) dM_deal_44 ?_
        refine j_if_eq X (tgt := 78) rfl dM_deal_47 (by decide) hf (fun hf => ?_) (fun hf => ?_)
        · refine j_iconst X dM_deal_78 ?_
          cases hf
          exact j_iret X dM_deal_79 rfl rfl
        · refine j_iload_n X dM_deal_50 rfl 4 rfl ?_
          refine j_i2l X rfl dM_deal_51 ?_
          refine j_ldc2 X (v := -10000) wd_1488 dM_deal_52 ?_
          refine j_ldc2 X (v := 10000) wd_1437 dM_deal_55 ?_
          refine j_cs X (st := []) (cM_in E) gyM_in wd_1414 rfl (by decide) (by decide) wd_1413 rfl (Nat.le_of_ble_eq_true rfl) dM_deal_58 ?_
          refine j_if_eq X (tgt := 78) rfl dM_deal_61 (by decide) hf (fun hf => ?_) (fun hf => ?_)
          · refine j_iconst X dM_deal_78 ?_
            cases hf
            exact j_iret X dM_deal_79 rfl rfl
          · refine j_iload_n X dM_deal_64 rfl 4 rfl ?_
            refine j_if_eq X (tgt := 78) rfl dM_deal_65 (by decide) hf (fun hf => ?_) (fun hf => ?_)
            · refine j_iconst X dM_deal_78 ?_
              cases hf
              exact j_iret X dM_deal_79 rfl rfl
            · refine j_aload_n X dM_deal_68 rfl 1 rfl ?_
              refine j_geti X gf_M_302_81 dM_deal_69 ?_
              refine j_sipush X dM_deal_72 rfl ?_
              refine j_icmp_ne X (tgt := 80) rfl (w32_lit rfl) dM_deal_75 (by decide) hf (fun hf => ?_) (fun hf => ?_)
              · refine j_aload_n X dM_deal_80 rfl 1 rfl ?_
                refine j_geti X gf_M_216_81 dM_deal_81 ?_
                refine j_lt (g := bz_i) hf (fun l6 hf => ?_)
                refine j_istore X (lv' := [(6, bz_i l6), (5, bz_i l5), (0, bz_rf E 81), (1, bz_i a1), (2, bz_i a2), (3, bz_i a3), (4, bz_i a4)]) dM_deal_84 (by decide) rfl ?_
                refine j_aload_n X dM_deal_86 rfl 2 rfl ?_
                refine j_aload_n X dM_deal_87 rfl 2 rfl ?_
                refine j_geti X gf_M_216_81 dM_deal_88 ?_
                obtain ⟨x1, hzx1, hf⟩ := q_cl hf
                refine j_cv X (st := []) (cM_isOpen E F hzx1) gyM_isOpen gv_M_isOpen_81 rfl (by decide) (by decide) wd_1420 rfl (Nat.le_of_ble_eq_true rfl) dM_deal_91 ?_
                show bz_J _ _ 94 _ _ _
                obtain ⟨resJ2, hf0, hkJ2⟩ := q_l1 hf
                have J2 : ∀ (v3 : Int), some v3 = some resJ2 → bz_J K 8 136 [(6, bz_i l6), (5, bz_i l5), (0, bz_rf E 81), (2, bz_i a2), (3, bz_i a3)] [bz_i v3] M := by
                  intro v3 he
                  have hf := hkJ2 _ he
                  refine j_istore X (lv' := [(7, bz_i v3), (6, bz_i l6), (5, bz_i l5), (0, bz_rf E 81), (2, bz_i a2), (3, bz_i a3)]) dM_deal_136 (by decide) rfl ?_
                  refine j_iload X dM_deal_138 0 rfl ?_
                  obtain ⟨resJ8, hf0, hkJ8⟩ := q_l1 hf
                  have J8 : ∀ (l6 : Int), some l6 = some resJ8 → bz_J K 8 169 [(6, bz_i l6), (5, bz_i l5), (0, bz_rf E 81), (2, bz_i a2), (3, bz_i a3)] [] M := by
                    intro l6 he
                    have hf := hkJ8 _ he
                    refine j_iload X dM_deal_169 0 rfl ?_
                    refine j_sipush X dM_deal_171 rfl ?_
                    refine j_icmp_lt X (tgt := 179) rfl (w32_lit rfl) dM_deal_174 (by decide) hf (fun hf => ?_) (fun hf => ?_)
                    · refine j_aload_n X dM_deal_179 rfl 2 rfl ?_
                      refine j_geta X gf_M_74_81 dM_deal_180 ?_
                      refine j_aload_n X dM_deal_183 rfl 2 rfl ?_
                      refine j_geti X gf_M_302_81 dM_deal_184 ?_
                      refine j_iload X dM_deal_187 1 rfl ?_
                      refine j_iast X sh_103 dM_deal_189 hf (fun m11 hf => ?_)
                      refine j_aload_n X dM_deal_190 rfl 2 rfl ?_
                      show bz_J _ _ 191 _ _ _
                      refine j_geta X gf_M_77_81 dM_deal_191 ?_
                      refine j_aload_n X dM_deal_194 rfl 2 rfl ?_
                      refine j_geti X gf_M_302_81 dM_deal_195 ?_
                      refine j_iload_n X dM_deal_198 rfl 3 rfl ?_
                      refine j_iast X sh_104 dM_deal_199 hf (fun m12 hf => ?_)
                      refine j_aload_n X dM_deal_200 rfl 2 rfl ?_
                      refine j_geta X gf_M_80_81 dM_deal_201 ?_
                      refine j_aload_n X dM_deal_204 rfl 2 rfl ?_
                      show bz_J _ _ 205 _ _ _
                      refine j_geti X gf_M_302_81 dM_deal_205 ?_
                      refine j_iload_n X dM_deal_208 rfl 4 rfl ?_
                      refine j_iast X sh_105 dM_deal_209 hf (fun m13 hf => ?_)
                      refine j_aload_n X dM_deal_210 rfl 2 rfl ?_
                      refine j_geta X gf_M_83_81 dM_deal_211 ?_
                      refine j_aload_n X dM_deal_214 rfl 2 rfl ?_
                      refine j_geti X gf_M_302_81 dM_deal_215 ?_
                      refine j_iload X dM_deal_218 0 rfl ?_
                      show bz_J _ _ 220 _ _ _
                      refine j_iast X sh_106 dM_deal_220 hf (fun m14 hf => ?_)
                      refine j_aload_n X dM_deal_221 rfl 2 rfl ?_
                      refine j_dup X dM_deal_222 rfl ?_
                      refine j_geti X gf_M_302_81 dM_deal_223 ?_
                      refine j_iconst X dM_deal_226 ?_
                      refine j_iadd X dM_deal_227 ?_
                      refine j_puti X pf_M_302_81 dM_deal_228 hf (fun m15 hf => ?_)
                      refine j_aload_n X dM_deal_231 rfl 2 rfl ?_
                      show bz_J _ _ 232 _ _ _
                      refine j_geti X gf_M_302_81 dM_deal_232 ?_
                      refine j_iconst X dM_deal_235 ?_
                      refine j_isub X dM_deal_236 ?_
                      cases hf
                      exact j_iret X dM_deal_237 rfl rfl
                    · refine j_iconst X dM_deal_177 ?_
                      cases hf
                      exact j_iret X dM_deal_178 rfl rfl
                  clear hf
                  have hf := hf0
                  clear hf0
                  refine j_if_ne X (tgt := 169) rfl dM_deal_140 (by decide) hf (fun hf => ?_) (fun hf => ?_)
                  · exact j_sub [1, 2, 3, 4, 5] rfl (J8 _ hf)
                  · refine j_iinc X (y := l6 + 1) (lv' := [(6, bz_i (l6 + 1)), (7, bz_i v3), (5, bz_i l5), (0, bz_rf E 81), (2, bz_i a2), (3, bz_i a3)]) dM_deal_143 1 rfl rfl (by decide) rfl ?_
                    obtain ⟨res10, hz10, hk10⟩ := q_l1 hf
                    clear hf
                    refine j_sub [0, 2, 3, 4, 5] rfl ?_
                    refine lM_deal_L146 E F X (fun l6 he => ?_) F (l6 + 1) hz10
                    have hf := hk10 _ he
                    exact J8 _ hf
                clear hf
                have hf := hf0
                clear hf0
                refine j_if_eq X (tgt := 135) rfl dM_deal_94 (by decide) hf (fun hf => ?_) (fun hf => ?_)
                · refine j_iconst X dM_deal_135 ?_
                  exact j_sub [0, 1, 2, 4, 5] rfl (J2 _ hf)
                · refine j_iload X dM_deal_97 6 rfl ?_
                  refine j_iload X dM_deal_99 1 rfl ?_
                  refine j_bipush X dM_deal_101 rfl ?_
                  obtain ⟨resJ4, hf0, hkJ4⟩ := q_l1 hf
                  have J4 : ∀ (v5 : Int), some v5 = some resJ4 → bz_J K 8 117 [(6, bz_i l6), (5, bz_i l5), (0, bz_rf E 81), (2, bz_i a2), (3, bz_i a3)] [bz_i v5, bz_i a4] M := by
                    intro v5 he
                    have hf := hkJ4 _ he
                    refine j_isub X dM_deal_117 ?_
                    refine j_aload_n X dM_deal_118 rfl 2 rfl ?_
                    refine j_iload_n X dM_deal_119 rfl 3 rfl ?_
                    refine j_aload_n X dM_deal_120 rfl 2 rfl ?_
                    refine j_geti X gf_M_216_81 dM_deal_121 ?_
                    refine j_iconst X dM_deal_124 ?_
                    obtain ⟨x7, hzx7, hf⟩ := q_cl hf
                    refine j_cv X (st := [bz_i (a4 - v5)]) (cM_ruleOf E F hzx7) gyM_ruleOf gv_M_ruleOf_81 rfl (by decide) (by decide) wd_1499 rfl (Nat.le_of_ble_eq_true rfl) dM_deal_125 ?_
                    show bz_J _ _ 128 _ _ _
                    refine j_icmp_ge X (tgt := 135) rfl rfl dM_deal_128 (by decide) hf (fun hf => ?_) (fun hf => ?_)
                    · refine j_iconst X dM_deal_135 ?_
                      exact J2 _ hf
                    · refine j_iconst X dM_deal_131 ?_
                      refine j_goto X (tgt := 136) dM_deal_132 (by decide) ?_
                      exact J2 _ hf
                  clear hf
                  have hf := hf0
                  clear hf0
                  refine j_icmp_ge X (tgt := 116) rfl (w32_lit rfl) dM_deal_103 (by decide) hf (fun hf => ?_) (fun hf => ?_)
                  · refine j_iconst X dM_deal_116 ?_
                    exact j_sub [0, 1, 2, 4, 5] rfl (J4 _ hf)
                  · refine j_aload_n X dM_deal_106 rfl 2 rfl ?_
                    refine j_geta X gf_M_47_81 dM_deal_107 ?_
                    refine j_iload X dM_deal_110 1 rfl ?_
                    refine j_iald X sh_94 dM_deal_112 hf (fun x6 hf => ?_)
                    refine j_goto X (tgt := 117) dM_deal_113 (by decide) ?_
                    exact j_sub [0, 1, 2, 4, 5] rfl (J4 _ hf)
              · refine j_iconst X dM_deal_78 ?_
                cases hf
                exact j_iret X dM_deal_79 rfl rfl
      · refine j_iload_n X dM_deal_28 rfl 3 rfl ?_
        refine j_iload X dM_deal_29 0 rfl ?_
        refine j_bipush X dM_deal_31 rfl ?_
        refine j_isub X dM_deal_33 ?_
        refine j_icmp_ge X (tgt := 78) rfl rfl dM_deal_34 (by decide) hf (fun hf => ?_) (fun hf => ?_)
        · refine j_iconst X dM_deal_78 ?_
          cases hf
          exact j_iret X dM_deal_79 rfl rfl
        · refine j_iload X dM_deal_37 5 rfl ?_
          refine j_i2l X rfl dM_deal_39 ?_
          refine j_lconst X (v := 0) dM_deal_40 rfl ?_
          refine j_ldc2 X (v := 23) wd_1498 dM_deal_41 ?_
          refine j_cs X (st := []) (cM_in E) gyM_in wd_1414 rfl (by decide) (by decide) wd_1413 rfl (Nat.le_of_ble_eq_true rfl) dM_deal_44 ?_
          refine j_if_eq X (tgt := 78) rfl dM_deal_47 (by decide) hf (fun hf => ?_) (fun hf => ?_)
          · refine j_iconst X dM_deal_78 ?_
            cases hf
            exact j_iret X dM_deal_79 rfl rfl
          · refine j_iload_n X dM_deal_50 rfl 4 rfl ?_
            refine j_i2l X rfl dM_deal_51 ?_
            refine j_ldc2 X (v := -10000) wd_1488 dM_deal_52 ?_
            refine j_ldc2 X (v := 10000) wd_1437 dM_deal_55 ?_
            refine j_cs X (st := []) (cM_in E) gyM_in wd_1414 rfl (by decide) (by decide) wd_1413 rfl (Nat.le_of_ble_eq_true rfl) dM_deal_58 ?_
            refine j_if_eq X (tgt := 78) rfl dM_deal_61 (by decide) hf (fun hf => ?_) (fun hf => ?_)
            · refine j_iconst X dM_deal_78 ?_
              cases hf
              exact j_iret X dM_deal_79 rfl rfl
            · refine j_iload_n X dM_deal_64 rfl 4 rfl ?_
              refine j_if_eq X (tgt := 78) rfl dM_deal_65 (by decide) hf (fun hf => ?_) (fun hf => ?_)
              · refine j_iconst X dM_deal_78 ?_
                cases hf
                exact j_iret X dM_deal_79 rfl rfl
              · refine j_aload_n X dM_deal_68 rfl 1 rfl ?_
                refine j_geti X gf_M_302_81 dM_deal_69 ?_
                refine j_sipush X dM_deal_72 rfl ?_
                refine j_icmp_ne X (tgt := 80) rfl (w32_lit rfl) dM_deal_75 (by decide) hf (fun hf => ?_) (fun hf => ?_)
                · refine j_aload_n X dM_deal_80 rfl 1 rfl ?_
                  refine j_geti X gf_M_216_81 dM_deal_81 ?_
                  refine j_lt (g := bz_i) hf (fun l6 hf => ?_)
                  refine j_istore X (lv' := [(6, bz_i l6), (5, bz_i l5), (0, bz_rf E 81), (1, bz_i a1), (2, bz_i a2), (3, bz_i a3), (4, bz_i a4)]) dM_deal_84 (by decide) rfl ?_
                  refine j_aload_n X dM_deal_86 rfl 2 rfl ?_
                  refine j_aload_n X dM_deal_87 rfl 2 rfl ?_
                  refine j_geti X gf_M_216_81 dM_deal_88 ?_
                  obtain ⟨x16, hzx16, hf⟩ := q_cl hf
                  refine j_cv X (st := []) (cM_isOpen E F hzx16) gyM_isOpen gv_M_isOpen_81 rfl (by decide) (by decide) wd_1420 rfl (Nat.le_of_ble_eq_true rfl) dM_deal_91 ?_
                  show bz_J _ _ 94 _ _ _
                  obtain ⟨resJ17, hf0, hkJ17⟩ := q_l1 hf
                  have J17 : ∀ (v18 : Int), some v18 = some resJ17 → bz_J K 8 136 [(6, bz_i l6), (5, bz_i l5), (0, bz_rf E 81), (2, bz_i a2), (3, bz_i a3)] [bz_i v18] M := by
                    intro v18 he
                    have hf := hkJ17 _ he
                    refine j_istore X (lv' := [(7, bz_i v18), (6, bz_i l6), (5, bz_i l5), (0, bz_rf E 81), (2, bz_i a2), (3, bz_i a3)]) dM_deal_136 (by decide) rfl ?_
                    refine j_iload X dM_deal_138 0 rfl ?_
                    obtain ⟨resJ23, hf0, hkJ23⟩ := q_l1 hf
                    have J23 : ∀ (l6 : Int), some l6 = some resJ23 → bz_J K 8 169 [(6, bz_i l6), (5, bz_i l5), (0, bz_rf E 81), (2, bz_i a2), (3, bz_i a3)] [] M := by
                      intro l6 he
                      have hf := hkJ23 _ he
                      refine j_iload X dM_deal_169 0 rfl ?_
                      refine j_sipush X dM_deal_171 rfl ?_
                      refine j_icmp_lt X (tgt := 179) rfl (w32_lit rfl) dM_deal_174 (by decide) hf (fun hf => ?_) (fun hf => ?_)
                      · refine j_aload_n X dM_deal_179 rfl 2 rfl ?_
                        refine j_geta X gf_M_74_81 dM_deal_180 ?_
                        refine j_aload_n X dM_deal_183 rfl 2 rfl ?_
                        refine j_geti X gf_M_302_81 dM_deal_184 ?_
                        refine j_iload X dM_deal_187 1 rfl ?_
                        refine j_iast X sh_103 dM_deal_189 hf (fun m26 hf => ?_)
                        refine j_aload_n X dM_deal_190 rfl 2 rfl ?_
                        show bz_J _ _ 191 _ _ _
                        refine j_geta X gf_M_77_81 dM_deal_191 ?_
                        refine j_aload_n X dM_deal_194 rfl 2 rfl ?_
                        refine j_geti X gf_M_302_81 dM_deal_195 ?_
                        refine j_iload_n X dM_deal_198 rfl 3 rfl ?_
                        refine j_iast X sh_104 dM_deal_199 hf (fun m27 hf => ?_)
                        refine j_aload_n X dM_deal_200 rfl 2 rfl ?_
                        refine j_geta X gf_M_80_81 dM_deal_201 ?_
                        refine j_aload_n X dM_deal_204 rfl 2 rfl ?_
                        show bz_J _ _ 205 _ _ _
                        refine j_geti X gf_M_302_81 dM_deal_205 ?_
                        refine j_iload_n X dM_deal_208 rfl 4 rfl ?_
                        refine j_iast X sh_105 dM_deal_209 hf (fun m28 hf => ?_)
                        refine j_aload_n X dM_deal_210 rfl 2 rfl ?_
                        refine j_geta X gf_M_83_81 dM_deal_211 ?_
                        refine j_aload_n X dM_deal_214 rfl 2 rfl ?_
                        refine j_geti X gf_M_302_81 dM_deal_215 ?_
                        refine j_iload X dM_deal_218 0 rfl ?_
                        show bz_J _ _ 220 _ _ _
                        refine j_iast X sh_106 dM_deal_220 hf (fun m29 hf => ?_)
                        refine j_aload_n X dM_deal_221 rfl 2 rfl ?_
                        refine j_dup X dM_deal_222 rfl ?_
                        refine j_geti X gf_M_302_81 dM_deal_223 ?_
                        refine j_iconst X dM_deal_226 ?_
                        refine j_iadd X dM_deal_227 ?_
                        refine j_puti X pf_M_302_81 dM_deal_228 hf (fun m30 hf => ?_)
                        refine j_aload_n X dM_deal_231 rfl 2 rfl ?_
                        show bz_J _ _ 232 _ _ _
                        refine j_geti X gf_M_302_81 dM_deal_232 ?_
                        refine j_iconst X dM_deal_235 ?_
                        refine j_isub X dM_deal_236 ?_
                        cases hf
                        exact j_iret X dM_deal_237 rfl rfl
                      · refine j_iconst X dM_deal_177 ?_
                        cases hf
                        exact j_iret X dM_deal_178 rfl rfl
                    clear hf
                    have hf := hf0
                    clear hf0
                    refine j_if_ne X (tgt := 169) rfl dM_deal_140 (by decide) hf (fun hf => ?_) (fun hf => ?_)
                    · exact j_sub [1, 2, 3, 4, 5] rfl (J23 _ hf)
                    · refine j_iinc X (y := l6 + 1) (lv' := [(6, bz_i (l6 + 1)), (7, bz_i v18), (5, bz_i l5), (0, bz_rf E 81), (2, bz_i a2), (3, bz_i a3)]) dM_deal_143 1 rfl rfl (by decide) rfl ?_
                      obtain ⟨res25, hz25, hk25⟩ := q_l1 hf
                      clear hf
                      refine j_sub [0, 2, 3, 4, 5] rfl ?_
                      refine lM_deal_L146a E F X (fun l6 he => ?_) F (l6 + 1) hz25
                      have hf := hk25 _ he
                      exact J23 _ hf
                  clear hf
                  have hf := hf0
                  clear hf0
                  refine j_if_eq X (tgt := 135) rfl dM_deal_94 (by decide) hf (fun hf => ?_) (fun hf => ?_)
                  · refine j_iconst X dM_deal_135 ?_
                    exact j_sub [0, 1, 2, 4, 5] rfl (J17 _ hf)
                  · refine j_iload X dM_deal_97 6 rfl ?_
                    refine j_iload X dM_deal_99 1 rfl ?_
                    refine j_bipush X dM_deal_101 rfl ?_
                    obtain ⟨resJ19, hf0, hkJ19⟩ := q_l1 hf
                    have J19 : ∀ (v20 : Int), some v20 = some resJ19 → bz_J K 8 117 [(6, bz_i l6), (5, bz_i l5), (0, bz_rf E 81), (2, bz_i a2), (3, bz_i a3)] [bz_i v20, bz_i a4] M := by
                      intro v20 he
                      have hf := hkJ19 _ he
                      refine j_isub X dM_deal_117 ?_
                      refine j_aload_n X dM_deal_118 rfl 2 rfl ?_
                      refine j_iload_n X dM_deal_119 rfl 3 rfl ?_
                      refine j_aload_n X dM_deal_120 rfl 2 rfl ?_
                      refine j_geti X gf_M_216_81 dM_deal_121 ?_
                      refine j_iconst X dM_deal_124 ?_
                      obtain ⟨x22, hzx22, hf⟩ := q_cl hf
                      refine j_cv X (st := [bz_i (a4 - v20)]) (cM_ruleOf E F hzx22) gyM_ruleOf gv_M_ruleOf_81 rfl (by decide) (by decide) wd_1499 rfl (Nat.le_of_ble_eq_true rfl) dM_deal_125 ?_
                      show bz_J _ _ 128 _ _ _
                      refine j_icmp_ge X (tgt := 135) rfl rfl dM_deal_128 (by decide) hf (fun hf => ?_) (fun hf => ?_)
                      · refine j_iconst X dM_deal_135 ?_
                        exact J17 _ hf
                      · refine j_iconst X dM_deal_131 ?_
                        refine j_goto X (tgt := 136) dM_deal_132 (by decide) ?_
                        exact J17 _ hf
                    clear hf
                    have hf := hf0
                    clear hf0
                    refine j_icmp_ge X (tgt := 116) rfl (w32_lit rfl) dM_deal_103 (by decide) hf (fun hf => ?_) (fun hf => ?_)
                    · refine j_iconst X dM_deal_116 ?_
                      exact j_sub [0, 1, 2, 4, 5] rfl (J19 _ hf)
                    · refine j_aload_n X dM_deal_106 rfl 2 rfl ?_
                      refine j_geta X gf_M_47_81 dM_deal_107 ?_
                      refine j_iload X dM_deal_110 1 rfl ?_
                      refine j_iald X sh_94 dM_deal_112 hf (fun x21 hf => ?_)
                      refine j_goto X (tgt := 117) dM_deal_113 (by decide) ?_
                      exact j_sub [0, 1, 2, 4, 5] rfl (J19 _ hf)
                · refine j_iconst X dM_deal_78 ?_
                  cases hf
                  exact j_iret X dM_deal_79 rfl rfl
