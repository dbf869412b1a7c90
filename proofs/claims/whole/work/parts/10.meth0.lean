def fU_paper (F : Nat) (M : bz_Mm) (a1 : Int) (a2 : Int) : Option (Int × bz_Mm) :=
  if w32 a1 < 0 then
  (some ((0, M)))
  else
  (if w32 a1 < 8 then
  (if w32 a2 < 0 then
  (some ((0, M)))
  else
  (if w32 a2 < 3 then
  (if w32 (M 1 13) = 0 then
  (wa_ M 6 a1 8 a2 fun m1 =>
  some ((1, m1)))
  else
  (some ((0, M))))
  else
  (some ((0, M)))))
  else
  (some ((0, M))))
set_option maxHeartbeats 4000000 in
set_option maxRecDepth 20000 in
theorem cU_paper (E : bz_E) (F : Nat)  {M : bz_Mm} {a1 : Int} {a2 : Int} {x0 : Int × bz_Mm} (hf : fU_paper F M a1 a2 = some x0) : bz_Ct E yU_paper (.code yU_paper prog_1_method_2_code 3 (some .boolean)) 0 0 [bz_rf E 0, bz_i a1, bz_i a2] M (some (bz_i x0.1)) x0.2 := by
  refine bz_met (by decide +kernel) (Nat.le_of_ble_eq_true rfl) (fun K X => ?_)
  have X : bz_X K E prog_1_method_2_code 3 "UnitsWrong" (some .boolean) 0 0 _ _ := X
  unfold fU_paper at hf
  show bz_J K 3 0 [(0, bz_rf E 0), (1, bz_i a1), (2, bz_i a2)] [] M
  refine j_iload_n X dU_paper_0 rfl 1 rfl ?_
  refine j_if_lt X (tgt := 29) rfl dU_paper_1 (by decide) hf (fun hf => ?_) (fun hf => ?_)
  · refine j_iconst X dU_paper_29 ?_
    cases hf
    exact j_zret X (by decide +kernel) dU_paper_30 rfl rfl
  · refine j_iload_n X dU_paper_4 rfl 1 rfl ?_
    refine j_bipush X dU_paper_5 rfl ?_
    refine j_icmp_ge X (tgt := 29) rfl (w32_lit rfl) dU_paper_7 (by decide) hf (fun hf => ?_) (fun hf => ?_)
    · refine j_iconst X dU_paper_29 ?_
      cases hf
      exact j_zret X (by decide +kernel) dU_paper_30 rfl rfl
    · refine j_iload_n X dU_paper_10 rfl 2 rfl ?_
      refine j_if_lt X (tgt := 29) rfl dU_paper_11 (by decide) hf (fun hf => ?_) (fun hf => ?_)
      · refine j_iconst X dU_paper_29 ?_
        cases hf
        exact j_zret X (by decide +kernel) dU_paper_30 rfl rfl
      · refine j_iload_n X dU_paper_14 rfl 2 rfl ?_
        refine j_iconst X dU_paper_15 ?_
        refine j_icmp_ge X (tgt := 29) rfl (w32_lit rfl) dU_paper_16 (by decide) hf (fun hf => ?_) (fun hf => ?_)
        · refine j_iconst X dU_paper_29 ?_
          cases hf
          exact j_zret X (by decide +kernel) dU_paper_30 rfl rfl
        · refine j_aload_n X dU_paper_19 rfl 0 rfl ?_
          refine j_geta X gf_U_10_0 dU_paper_20 ?_
          refine j_geti X gf_U_51_1 dU_paper_23 ?_
          refine j_if_eq X (tgt := 31) rfl dU_paper_26 (by decide) hf (fun hf => ?_) (fun hf => ?_)
          · refine j_aload_n X dU_paper_31 rfl 0 rfl ?_
            refine j_geta X gf_U_10_0 dU_paper_32 ?_
            refine j_geta X gf_U_55_1 dU_paper_35 ?_
            refine j_iload_n X dU_paper_38 rfl 1 rfl ?_
            refine j_iload_n X dU_paper_39 rfl 2 rfl ?_
            refine j_iast X sh_6 dU_paper_40 hf (fun m1 hf => ?_)
            refine j_iconst X dU_paper_41 ?_
            show bz_J _ _ 42 _ _ _
            cases hf
            exact j_zret X (by decide +kernel) dU_paper_42 rfl rfl
          · refine j_iconst X dU_paper_29 ?_
            cases hf
            exact j_zret X (by decide +kernel) dU_paper_30 rfl rfl
def fU_fund (F : Nat) (M : bz_Mm) (a1 : Int) : Option (Int × bz_Mm) :=
  if w32 a1 < 0 then
  (some (((-1), M)))
  else
  (if 100000000 < w32 a1 then
  (some (((-1), M)))
  else
  (if w32 (M 1 14) < 4 then
  (if w32 (M 1 13) = 0 then
  (lt_ (M 1 14) fun l2 =>
  wa_ M 2 l2 4 (w32 a1) fun m1 =>
  wf_ m1 1 14 (l2 + 1) fun m2 =>
  wf_ m2 1 17 ((m2 1 17) + 1) fun m3 =>
  some ((l2, m3)))
  else
  (some (((-1), M))))
  else
  (some (((-1), M)))))
set_option maxHeartbeats 4000000 in
set_option maxRecDepth 20000 in
theorem cU_fund (E : bz_E) (F : Nat)  {M : bz_Mm} {a1 : Int} {x0 : Int × bz_Mm} (hf : fU_fund F M a1 = some x0) : bz_Ct E yU_fund (.code yU_fund prog_1_method_3_code 3 (some .int)) 0 0 [bz_rf E 0, bz_i a1] M (some (bz_i x0.1)) x0.2 := by
  refine bz_met (by decide +kernel) (Nat.le_of_ble_eq_true rfl) (fun K X => ?_)
  have X : bz_X K E prog_1_method_3_code 3 "UnitsWrong" (some .int) 0 0 _ _ := X
  unfold fU_fund at hf
  show bz_J K 3 0 [(0, bz_rf E 0), (1, bz_i a1)] [] M
  refine j_iload_n X dU_fund_0 rfl 1 rfl ?_
  refine j_if_lt X (tgt := 31) rfl dU_fund_1 (by decide) hf (fun hf => ?_) (fun hf => ?_)
  · refine j_iconst X dU_fund_31 ?_
    cases hf
    exact j_iret X dU_fund_32 rfl rfl
  · refine j_iload_n X dU_fund_4 rfl 1 rfl ?_
    refine j_ldc X (v := 100000000) wd_528 dU_fund_5 ?_
    refine j_icmp_gt X (tgt := 31) rfl (w32_lit rfl) dU_fund_7 (by decide) hf (fun hf => ?_) (fun hf => ?_)
    · refine j_iconst X dU_fund_31 ?_
      cases hf
      exact j_iret X dU_fund_32 rfl rfl
    · refine j_aload_n X dU_fund_10 rfl 0 rfl ?_
      refine j_geta X gf_U_10_0 dU_fund_11 ?_
      refine j_geti X gf_U_60_1 dU_fund_14 ?_
      refine j_iconst X dU_fund_17 ?_
      refine j_icmp_ge X (tgt := 31) rfl (w32_lit rfl) dU_fund_18 (by decide) hf (fun hf => ?_) (fun hf => ?_)
      · refine j_iconst X dU_fund_31 ?_
        cases hf
        exact j_iret X dU_fund_32 rfl rfl
      · refine j_aload_n X dU_fund_21 rfl 0 rfl ?_
        refine j_geta X gf_U_10_0 dU_fund_22 ?_
        refine j_geti X gf_U_51_1 dU_fund_25 ?_
        refine j_if_eq X (tgt := 33) rfl dU_fund_28 (by decide) hf (fun hf => ?_) (fun hf => ?_)
        · refine j_aload_n X dU_fund_33 rfl 0 rfl ?_
          refine j_geta X gf_U_10_0 dU_fund_34 ?_
          refine j_geti X gf_U_60_1 dU_fund_37 ?_
          refine j_lt (g := bz_i) hf (fun l2 hf => ?_)
          refine j_istore_n X (lv' := [(2, bz_i l2), (0, bz_rf E 0), (1, bz_i a1)]) dU_fund_40 rfl (by decide) rfl ?_
          refine j_aload_n X dU_fund_41 rfl 1 rfl ?_
          refine j_geta X gf_U_10_0 dU_fund_42 ?_
          refine j_geta X gf_U_63_1 dU_fund_45 ?_
          show bz_J _ _ 48 _ _ _
          refine j_iload_n X dU_fund_48 rfl 0 rfl ?_
          refine j_iload_n X dU_fund_49 rfl 2 rfl ?_
          refine j_i2l X rfl dU_fund_50 ?_
          refine j_last X sh_2 dU_fund_51 hf (fun m1 hf => ?_)
          refine j_aload_n X dU_fund_52 rfl 1 rfl ?_
          refine j_geta X gf_U_10_0 dU_fund_53 ?_
          refine j_iload_n X dU_fund_56 rfl 0 rfl ?_
          refine j_iconst X dU_fund_57 ?_
          show bz_J _ _ 58 _ _ _
          refine j_iadd X dU_fund_58 ?_
          refine j_puti X pf_U_60_1 dU_fund_59 hf (fun m2 hf => ?_)
          refine j_aload_n X dU_fund_62 rfl 1 rfl ?_
          refine j_geta X gf_U_10_0 dU_fund_63 ?_
          refine j_dup X dU_fund_66 rfl ?_
          refine j_geti X gf_U_67_1 dU_fund_67 ?_
          refine j_iconst X dU_fund_70 ?_
          refine j_iadd X dU_fund_71 ?_
          show bz_J _ _ 72 _ _ _
          refine j_puti X pf_U_67_1 dU_fund_72 hf (fun m3 hf => ?_)
          refine j_iload_n X dU_fund_75 rfl 0 rfl ?_
          cases hf
          exact j_iret X dU_fund_76 rfl rfl
        · refine j_iconst X dU_fund_31 ?_
          cases hf
          exact j_iret X dU_fund_32 rfl rfl
def fU_holder (F : Nat) (M : bz_Mm) (a1 : Int) : Option (Int × bz_Mm) :=
  if w32 a1 < (-11) then
  (some (((-1), M)))
  else
  (if 12 < w32 a1 then
  (some (((-1), M)))
  else
  (if w32 (M 1 15) < 16 then
  (lt_ (M 1 15) fun l2 =>
  wa_ M 4 l2 16 a1 fun m1 =>
  wf_ m1 1 15 (l2 + 1) fun m2 =>
  some ((l2, m2)))
  else
  (some (((-1), M)))))
set_option maxHeartbeats 4000000 in
set_option maxRecDepth 20000 in
theorem cU_holder (E : bz_E) (F : Nat)  {M : bz_Mm} {a1 : Int} {x0 : Int × bz_Mm} (hf : fU_holder F M a1 = some x0) : bz_Ct E yU_holder (.code yU_holder prog_1_method_4_code 3 (some .int)) 0 0 [bz_rf E 0, bz_i a1] M (some (bz_i x0.1)) x0.2 := by
  refine bz_met (by decide +kernel) (Nat.le_of_ble_eq_true rfl) (fun K X => ?_)
  have X : bz_X K E prog_1_method_4_code 3 "UnitsWrong" (some .int) 0 0 _ _ := X
  unfold fU_holder at hf
  show bz_J K 3 0 [(0, bz_rf E 0), (1, bz_i a1)] [] M
  refine j_iload_n X dU_holder_0 rfl 1 rfl ?_
  refine j_bipush X dU_holder_1 rfl ?_
  refine j_icmp_lt X (tgt := 24) rfl (w32_lit rfl) dU_holder_3 (by decide) hf (fun hf => ?_) (fun hf => ?_)
  · refine j_iconst X dU_holder_24 ?_
    cases hf
    exact j_iret X dU_holder_25 rfl rfl
  · refine j_iload_n X dU_holder_6 rfl 1 rfl ?_
    refine j_bipush X dU_holder_7 rfl ?_
    refine j_icmp_gt X (tgt := 24) rfl (w32_lit rfl) dU_holder_9 (by decide) hf (fun hf => ?_) (fun hf => ?_)
    · refine j_iconst X dU_holder_24 ?_
      cases hf
      exact j_iret X dU_holder_25 rfl rfl
    · refine j_aload_n X dU_holder_12 rfl 0 rfl ?_
      refine j_geta X gf_U_10_0 dU_holder_13 ?_
      refine j_geti X gf_U_70_1 dU_holder_16 ?_
      refine j_bipush X dU_holder_19 rfl ?_
      refine j_icmp_lt X (tgt := 26) rfl (w32_lit rfl) dU_holder_21 (by decide) hf (fun hf => ?_) (fun hf => ?_)
      · refine j_aload_n X dU_holder_26 rfl 0 rfl ?_
        refine j_geta X gf_U_10_0 dU_holder_27 ?_
        refine j_geti X gf_U_70_1 dU_holder_30 ?_
        refine j_lt (g := bz_i) hf (fun l2 hf => ?_)
        refine j_istore_n X (lv' := [(2, bz_i l2), (0, bz_rf E 0), (1, bz_i a1)]) dU_holder_33 rfl (by decide) rfl ?_
        refine j_aload_n X dU_holder_34 rfl 1 rfl ?_
        refine j_geta X gf_U_10_0 dU_holder_35 ?_
        refine j_geta X gf_U_73_1 dU_holder_38 ?_
        show bz_J _ _ 41 _ _ _
        refine j_iload_n X dU_holder_41 rfl 0 rfl ?_
        refine j_iload_n X dU_holder_42 rfl 2 rfl ?_
        refine j_iast X sh_4 dU_holder_43 hf (fun m1 hf => ?_)
        refine j_aload_n X dU_holder_44 rfl 1 rfl ?_
        refine j_geta X gf_U_10_0 dU_holder_45 ?_
        refine j_iload_n X dU_holder_48 rfl 0 rfl ?_
        refine j_iconst X dU_holder_49 ?_
        refine j_iadd X dU_holder_50 ?_
        show bz_J _ _ 51 _ _ _
        refine j_puti X pf_U_70_1 dU_holder_51 hf (fun m2 hf => ?_)
        refine j_iload_n X dU_holder_54 rfl 0 rfl ?_
        cases hf
        exact j_iret X dU_holder_55 rfl rfl
      · refine j_iconst X dU_holder_24 ?_
        cases hf
        exact j_iret X dU_holder_25 rfl rfl
def fU_holiday (F : Nat) (M : bz_Mm) (a1 : Int) : Option (Int × bz_Mm) :=
  if w32 (M 1 13) < w32 a1 then
  (if w32 a1 < 260 then
  (rd_ M 7 a1 260 fun x1 =>
  if w32 x1 = 0 then
  (wa_ M 7 a1 260 1 fun m2 =>
  wf_ m2 1 16 ((m2 1 16) + 1) fun m3 =>
  some ((1, m3)))
  else
  (some ((0, M))))
  else
  (some ((0, M))))
  else
  (some ((0, M)))
set_option maxHeartbeats 4000000 in
set_option maxRecDepth 20000 in
theorem cU_holiday (E : bz_E) (F : Nat)  {M : bz_Mm} {a1 : Int} {x0 : Int × bz_Mm} (hf : fU_holiday F M a1 = some x0) : bz_Ct E yU_holiday (.code yU_holiday prog_1_method_5_code 2 (some .boolean)) 0 0 [bz_rf E 0, bz_i a1] M (some (bz_i x0.1)) x0.2 := by
  refine bz_met (by decide +kernel) (Nat.le_of_ble_eq_true rfl) (fun K X => ?_)
  have X : bz_X K E prog_1_method_5_code 2 "UnitsWrong" (some .boolean) 0 0 _ _ := X
  unfold fU_holiday at hf
  show bz_J K 2 0 [(0, bz_rf E 0), (1, bz_i a1)] [] M
  refine j_iload_n X dU_holiday_0 rfl 1 rfl ?_
  refine j_aload_n X dU_holiday_1 rfl 0 rfl ?_
  refine j_geta X gf_U_10_0 dU_holiday_2 ?_
  refine j_geti X gf_U_51_1 dU_holiday_5 ?_
  refine j_icmp_le X (tgt := 30) rfl rfl dU_holiday_8 (by decide) hf (fun hf => ?_) (fun hf => ?_)
  · refine j_iconst X dU_holiday_30 ?_
    cases hf
    exact j_zret X (by decide +kernel) dU_holiday_31 rfl rfl
  · refine j_iload_n X dU_holiday_11 rfl 1 rfl ?_
    refine j_sipush X dU_holiday_12 rfl ?_
    refine j_icmp_ge X (tgt := 30) rfl (w32_lit rfl) dU_holiday_15 (by decide) hf (fun hf => ?_) (fun hf => ?_)
    · refine j_iconst X dU_holiday_30 ?_
      cases hf
      exact j_zret X (by decide +kernel) dU_holiday_31 rfl rfl
    · refine j_aload_n X dU_holiday_18 rfl 0 rfl ?_
      refine j_geta X gf_U_10_0 dU_holiday_19 ?_
      refine j_geta X gf_U_76_1 dU_holiday_22 ?_
      refine j_iload_n X dU_holiday_25 rfl 1 rfl ?_
      refine j_zald X sh_7 dU_holiday_26 hf (fun x1 hf => ?_)
      refine j_if_eq X (tgt := 32) rfl dU_holiday_27 (by decide) hf (fun hf => ?_) (fun hf => ?_)
      · refine j_aload_n X dU_holiday_32 rfl 0 rfl ?_
        refine j_geta X gf_U_10_0 dU_holiday_33 ?_
        refine j_geta X gf_U_76_1 dU_holiday_36 ?_
        refine j_iload_n X dU_holiday_39 rfl 1 rfl ?_
        refine j_iconst X dU_holiday_40 ?_
        refine j_zast X sh_7 (by decide +kernel) dU_holiday_41 hf (fun m2 hf => ?_)
        refine j_aload_n X dU_holiday_42 rfl 0 rfl ?_
        show bz_J _ _ 43 _ _ _
        refine j_geta X gf_U_10_0 dU_holiday_43 ?_
        refine j_dup X dU_holiday_46 rfl ?_
        refine j_geti X gf_U_80_1 dU_holiday_47 ?_
        refine j_iconst X dU_holiday_50 ?_
        refine j_iadd X dU_holiday_51 ?_
        refine j_puti X pf_U_80_1 dU_holiday_52 hf (fun m3 hf => ?_)
        refine j_iconst X dU_holiday_55 ?_
        cases hf
        exact j_zret X (by decide +kernel) dU_holiday_56 rfl rfl
      · refine j_iconst X dU_holiday_30 ?_
        cases hf
        exact j_zret X (by decide +kernel) dU_holiday_31 rfl rfl
def gU_isDay (a0 : Int) : Option Int :=
  if w32 a0 < 0 then
  (some 0)
  else
  (if w32 a0 < 260 then
  (some 1)
  else
  (some 0))
def fU_isDay (a0 : Int) : Int :=
  if w32 a0 < 0 then
  (0)
  else
  (if w32 a0 < 260 then
  (1)
  else
  (0))
theorem tU_isDay (a0 : Int) : gU_isDay a0 = some (fU_isDay a0) := by
  unfold gU_isDay fU_isDay
  (repeat' (first | rfl | split))
theorem zU_isDay {a0 : Int} : fU_isDay a0 = 0 ∨ fU_isDay a0 = 1 := by
  unfold fU_isDay
  (repeat' (first | exact Or.inl rfl | exact Or.inr rfl | split))
set_option maxHeartbeats 4000000 in
set_option maxRecDepth 20000 in
theorem cU_isDay (E : bz_E) {M : bz_Mm} {a0 : Int} : bz_Ct E yU_isDay (.code yU_isDay prog_1_method_44_code 1 (some .boolean)) 0 0 [bz_i a0] M (some (bz_i (fU_isDay a0))) M := by
  have hf := tU_isDay a0
  refine bz_met (by decide +kernel) (Nat.le_of_ble_eq_true rfl) (fun K X => ?_)
  have X : bz_X K E prog_1_method_44_code 1 "UnitsWrong" (some .boolean) 0 0 _ _ := X
  unfold gU_isDay at hf
  generalize fU_isDay a0 = rr at hf X
  show bz_J K 1 0 [(0, bz_i a0)] [] M
  refine j_iload_n X dU_isDay_0 rfl 0 rfl ?_
  refine j_if_lt X (tgt := 15) rfl dU_isDay_1 (by decide) hf (fun hf => ?_) (fun hf => ?_)
  · refine j_iconst X dU_isDay_15 ?_
    cases hf
    exact j_zret X (by decide +kernel) dU_isDay_16 rfl rfl
  · refine j_iload_n X dU_isDay_4 rfl 0 rfl ?_
    refine j_sipush X dU_isDay_5 rfl ?_
    refine j_icmp_ge X (tgt := 15) rfl (w32_lit rfl) dU_isDay_8 (by decide) hf (fun hf => ?_) (fun hf => ?_)
    · refine j_iconst X dU_isDay_15 ?_
      cases hf
      exact j_zret X (by decide +kernel) dU_isDay_16 rfl rfl
    · refine j_iconst X dU_isDay_11 ?_
      refine j_goto X (tgt := 16) dU_isDay_12 (by decide) ?_
      cases hf
      exact j_zret X (by decide +kernel) dU_isDay_16 rfl rfl
def fUS_isOpen (F : Nat) (M : bz_Mm) (a1 : Int) : Option (Int) :=
  if w32 (fU_isDay a1) = 0 then
  (some 0)
  else
  (if w32 ((w32 a1).tmod 7) < 5 then
  (rd_ M 7 a1 260 fun x1 =>
  if w32 x1 = 0 then
  (some 1)
  else
  (some 0))
  else
  (some 0))
set_option maxHeartbeats 4000000 in
set_option maxRecDepth 20000 in
theorem cUS_isOpen (E : bz_E) (F : Nat)  {M : bz_Mm} {a1 : Int} {x0 : Int} (hf : fUS_isOpen F M a1 = some x0) : bz_Ct E yUS_isOpen (.code yUS_isOpen prog_9_method_6_code 2 (some .boolean)) 1 20 [bz_rf E 1, bz_i a1] M (some (bz_i x0)) M := by
  refine bz_met (by decide +kernel) (Nat.le_of_ble_eq_true rfl) (fun K X => ?_)
  have X : bz_X K E prog_9_method_6_code 2 "UnitsWrong$State" (some .boolean) 1 20 _ _ := X
  unfold fUS_isOpen at hf
  show bz_J K 2 0 [(0, bz_rf E 1), (1, bz_i a1)] [] M
  refine j_iload_n X dUS_isOpen_0 rfl 1 rfl ?_
  refine j_cn X (st := []) (cU_isDay E) gyU_isDay wd_546 rfl (by decide) (by decide) nl_545 rfl (Nat.le_of_ble_eq_true rfl) dUS_isOpen_1 ?_
  refine j_if_eq X (tgt := 28) rfl dUS_isOpen_4 (by decide) hf (fun hf => ?_) (fun hf => ?_)
  · refine j_iconst X dUS_isOpen_28 ?_
    cases hf
    exact j_zret X (by decide +kernel) dUS_isOpen_29 rfl rfl
  · refine j_iload_n X dUS_isOpen_7 rfl 1 rfl ?_
    refine j_bipush X dUS_isOpen_8 rfl ?_
    refine j_irl X (w32_lit rfl) (by decide) dUS_isOpen_10 ?_
    refine j_iconst X dUS_isOpen_11 ?_
    refine j_icmp_ge X (tgt := 28) rfl (w32_lit rfl) dUS_isOpen_12 (by decide) hf (fun hf => ?_) (fun hf => ?_)
    · refine j_iconst X dUS_isOpen_28 ?_
      cases hf
      exact j_zret X (by decide +kernel) dUS_isOpen_29 rfl rfl
    · refine j_aload_n X dUS_isOpen_15 rfl 0 rfl ?_
      refine j_geta X gf_US_28_1 dUS_isOpen_16 ?_
      refine j_iload_n X dUS_isOpen_19 rfl 1 rfl ?_
      refine j_zald X sh_7 dUS_isOpen_20 hf (fun x1 hf => ?_)
      refine j_if_ne X (tgt := 28) rfl dUS_isOpen_21 (by decide) hf (fun hf => ?_) (fun hf => ?_)
      · refine j_iconst X dUS_isOpen_28 ?_
        cases hf
        exact j_zret X (by decide +kernel) dUS_isOpen_29 rfl rfl
      · refine j_iconst X dUS_isOpen_24 ?_
        refine j_goto X (tgt := 29) dUS_isOpen_25 (by decide) ?_
        cases hf
        exact j_zret X (by decide +kernel) dUS_isOpen_29 rfl rfl
def fU_open (F : Nat) (M : bz_Mm) (a1 : Int) : Option (Int) :=
  cl_ (fUS_isOpen F M a1) fun x1 =>
  bo_ x1 (some x1)
set_option maxHeartbeats 4000000 in
set_option maxRecDepth 20000 in
theorem cU_open (E : bz_E) (F : Nat)  {M : bz_Mm} {a1 : Int} {x0 : Int} (hf : fU_open F M a1 = some x0) : bz_Ct E yU_open (.code yU_open prog_1_method_6_code 2 (some .boolean)) 2 41 [bz_rf E 0, bz_i a1] M (some (bz_i x0)) M := by
  refine bz_met (by decide +kernel) (Nat.le_of_ble_eq_true rfl) (fun K X => ?_)
  have X : bz_X K E prog_1_method_6_code 2 "UnitsWrong" (some .boolean) 2 41 _ _ := X
  unfold fU_open at hf
  show bz_J K 2 0 [(0, bz_rf E 0), (1, bz_i a1)] [] M
  refine j_aload_n X dU_open_0 rfl 0 rfl ?_
  refine j_geta X gf_U_10_0 dU_open_1 ?_
  refine j_iload_n X dU_open_4 rfl 1 rfl ?_
  obtain ⟨x1, hzx1, hf⟩ := q_cl hf
  refine j_cv X (st := []) (cUS_isOpen E F hzx1) gyUS_isOpen gv_US_isOpen_1 rfl (by decide) (by decide) wd_541 rfl (Nat.le_of_ble_eq_true rfl) dU_open_5 ?_
  obtain ⟨hbo, hf⟩ := q_in hf
  cases hf
  exact j_zret X (bz_zz hbo) dU_open_8 rfl rfl
def gU_isSubject (a0 : Int) (a1 : Int) : Option Int :=
  if w32 a0 = 0 then
  (if w32 a1 < 0 then
  (some 0)
  else
  (if w32 a1 < 8 then
  (some 1)
  else
  (some 0)))
  else if w32 a0 = 1 then
  (if w32 a1 < 1 then
  (some 0)
  else
  (if w32 a1 < 3 then
  (some 1)
  else
  (some 0)))
  else if w32 a0 = 2 then
  (if w32 a1 < 0 then
  (some 0)
  else
  (if w32 a1 < 8 then
  (some 1)
  else
  (some 0)))
  else if w32 a0 = 3 then
  (if w32 a1 < 0 then
  (some 0)
  else
  (if w32 a1 < 8 then
  (some 1)
  else
  (some 0)))
  else (some 0)
def fU_isSubject (a0 : Int) (a1 : Int) : Int :=
  if w32 a0 = 0 then
  (if w32 a1 < 0 then
  (0)
  else
  (if w32 a1 < 8 then
  (1)
  else
  (0)))
  else if w32 a0 = 1 then
  (if w32 a1 < 1 then
  (0)
  else
  (if w32 a1 < 3 then
  (1)
  else
  (0)))
  else if w32 a0 = 2 then
  (if w32 a1 < 0 then
  (0)
  else
  (if w32 a1 < 8 then
  (1)
  else
  (0)))
  else if w32 a0 = 3 then
  (if w32 a1 < 0 then
  (0)
  else
  (if w32 a1 < 8 then
  (1)
  else
  (0)))
  else (0)
theorem tU_isSubject (a0 : Int) (a1 : Int) : gU_isSubject a0 a1 = some (fU_isSubject a0 a1) := by
  unfold gU_isSubject fU_isSubject
  (repeat' (first | rfl | split))
theorem zU_isSubject {a0 : Int} {a1 : Int} : fU_isSubject a0 a1 = 0 ∨ fU_isSubject a0 a1 = 1 := by
  unfold fU_isSubject
  (repeat' (first | exact Or.inl rfl | exact Or.inr rfl | split))
set_option maxHeartbeats 4000000 in
set_option maxRecDepth 20000 in
theorem cU_isSubject (E : bz_E) {M : bz_Mm} {a0 : Int} {a1 : Int} : bz_Ct E yU_isSubject (.code yU_isSubject prog_1_method_48_code 2 (some .boolean)) 0 0 [bz_i a0, bz_i a1] M (some (bz_i (fU_isSubject a0 a1))) M := by
  have hf := tU_isSubject a0 a1
  refine bz_met (by decide +kernel) (Nat.le_of_ble_eq_true rfl) (fun K X => ?_)
  have X : bz_X K E prog_1_method_48_code 2 "UnitsWrong" (some .boolean) 0 0 _ _ := X
  unfold gU_isSubject at hf
  generalize fU_isSubject a0 a1 = rr at hf X
  show bz_J K 2 0 [(0, bz_i a0), (1, bz_i a1)] [] M
  refine j_iload_n X dU_isSubject_0 rfl 0 rfl ?_
  rcases q_ite hf with ⟨hc0, hf⟩ | ⟨hc0, hf⟩
  · refine j_tabIn X (tgt := 32) (v := 0) hc0 dU_isSubject_1 (by decide) (by decide) rfl (by decide) ?_
    refine j_iload_n X dU_isSubject_32 rfl 1 rfl ?_
    refine j_if_lt X (tgt := 46) rfl dU_isSubject_33 (by decide) hf (fun hf => ?_) (fun hf => ?_)
    · refine j_iconst X dU_isSubject_46 ?_
      cases hf
      exact j_zret X (by decide +kernel) dU_isSubject_47 rfl rfl
    · refine j_iload_n X dU_isSubject_36 rfl 1 rfl ?_
      refine j_bipush X dU_isSubject_37 rfl ?_
      refine j_icmp_ge X (tgt := 46) rfl (w32_lit rfl) dU_isSubject_39 (by decide) hf (fun hf => ?_) (fun hf => ?_)
      · refine j_iconst X dU_isSubject_46 ?_
        cases hf
        exact j_zret X (by decide +kernel) dU_isSubject_47 rfl rfl
      · refine j_iconst X dU_isSubject_42 ?_
        refine j_goto X (tgt := 47) dU_isSubject_43 (by decide) ?_
        cases hf
        exact j_zret X (by decide +kernel) dU_isSubject_47 rfl rfl
  rcases q_ite hf with ⟨hc1, hf⟩ | ⟨hc1, hf⟩
  · refine j_tabIn X (tgt := 48) (v := 1) hc1 dU_isSubject_1 (by decide) (by decide) rfl (by decide) ?_
    refine j_iload_n X dU_isSubject_48 rfl 1 rfl ?_
    refine j_iconst X dU_isSubject_49 ?_
    refine j_icmp_lt X (tgt := 62) rfl (w32_lit rfl) dU_isSubject_50 (by decide) hf (fun hf => ?_) (fun hf => ?_)
    · refine j_iconst X dU_isSubject_62 ?_
      cases hf
      exact j_zret X (by decide +kernel) dU_isSubject_63 rfl rfl
    · refine j_iload_n X dU_isSubject_53 rfl 1 rfl ?_
      refine j_iconst X dU_isSubject_54 ?_
      refine j_icmp_ge X (tgt := 62) rfl (w32_lit rfl) dU_isSubject_55 (by decide) hf (fun hf => ?_) (fun hf => ?_)
      · refine j_iconst X dU_isSubject_62 ?_
        cases hf
        exact j_zret X (by decide +kernel) dU_isSubject_63 rfl rfl
      · refine j_iconst X dU_isSubject_58 ?_
        refine j_goto X (tgt := 63) dU_isSubject_59 (by decide) ?_
        cases hf
        exact j_zret X (by decide +kernel) dU_isSubject_63 rfl rfl
  rcases q_ite hf with ⟨hc2, hf⟩ | ⟨hc2, hf⟩
  · refine j_tabIn X (tgt := 32) (v := 2) hc2 dU_isSubject_1 (by decide) (by decide) rfl (by decide) ?_
    refine j_iload_n X dU_isSubject_32 rfl 1 rfl ?_
    refine j_if_lt X (tgt := 46) rfl dU_isSubject_33 (by decide) hf (fun hf => ?_) (fun hf => ?_)
    · refine j_iconst X dU_isSubject_46 ?_
      cases hf
      exact j_zret X (by decide +kernel) dU_isSubject_47 rfl rfl
    · refine j_iload_n X dU_isSubject_36 rfl 1 rfl ?_
      refine j_bipush X dU_isSubject_37 rfl ?_
      refine j_icmp_ge X (tgt := 46) rfl (w32_lit rfl) dU_isSubject_39 (by decide) hf (fun hf => ?_) (fun hf => ?_)
      · refine j_iconst X dU_isSubject_46 ?_
        cases hf
        exact j_zret X (by decide +kernel) dU_isSubject_47 rfl rfl
      · refine j_iconst X dU_isSubject_42 ?_
        refine j_goto X (tgt := 47) dU_isSubject_43 (by decide) ?_
        cases hf
        exact j_zret X (by decide +kernel) dU_isSubject_47 rfl rfl
  rcases q_ite hf with ⟨hc3, hf⟩ | ⟨hc3, hf⟩
  · refine j_tabIn X (tgt := 32) (v := 3) hc3 dU_isSubject_1 (by decide) (by decide) rfl (by decide) ?_
    refine j_iload_n X dU_isSubject_32 rfl 1 rfl ?_
    refine j_if_lt X (tgt := 46) rfl dU_isSubject_33 (by decide) hf (fun hf => ?_) (fun hf => ?_)
    · refine j_iconst X dU_isSubject_46 ?_
      cases hf
      exact j_zret X (by decide +kernel) dU_isSubject_47 rfl rfl
    · refine j_iload_n X dU_isSubject_36 rfl 1 rfl ?_
      refine j_bipush X dU_isSubject_37 rfl ?_
      refine j_icmp_ge X (tgt := 46) rfl (w32_lit rfl) dU_isSubject_39 (by decide) hf (fun hf => ?_) (fun hf => ?_)
      · refine j_iconst X dU_isSubject_46 ?_
        cases hf
        exact j_zret X (by decide +kernel) dU_isSubject_47 rfl rfl
      · refine j_iconst X dU_isSubject_42 ?_
        refine j_goto X (tgt := 47) dU_isSubject_43 (by decide) ?_
        cases hf
        exact j_zret X (by decide +kernel) dU_isSubject_47 rfl rfl
  refine j_tabOut X (tgt := 64) (by omega) dU_isSubject_1 (by decide) ?_
  refine j_iconst X dU_isSubject_64 ?_
  cases hf
  exact j_zret X (by decide +kernel) dU_isSubject_65 rfl rfl
def gU_canBeTold (a0 : Int) (a1 : Int) (a2 : Int) (a3 : Int) : Option Int :=
  if w32 (fU_isSubject a0 a1) = 0 then
  (some 0)
  else
  (if w32 (fU_isDay a2) = 0 then
  (some 0)
  else
  (if w32 a0 = 0 then
  (if w32 a3 < 1 then
  (some 0)
  else
  (if 10000 < w32 a3 then
  (some 0)
  else
  (some 1)))
  else if w32 a0 = 1 then
  (if w32 a3 < 1 then
  (some 0)
  else
  (if 9999 < w32 a3 then
  (some 0)
  else
  (some 1)))
  else if w32 a0 = 2 then
  (if w32 a3 < 0 then
  (some 0)
  else
  (if 1000 < w32 a3 then
  (some 0)
  else
  (some 1)))
  else (if w32 a3 < 100 then
  (some 0)
  else
  (if 10000 < w32 a3 then
  (some 0)
  else
  (some 1)))))
def fU_canBeTold (a0 : Int) (a1 : Int) (a2 : Int) (a3 : Int) : Int :=
  if w32 (fU_isSubject a0 a1) = 0 then
  (0)
  else
  (if w32 (fU_isDay a2) = 0 then
  (0)
  else
  (if w32 a0 = 0 then
  (if w32 a3 < 1 then
  (0)
  else
  (if 10000 < w32 a3 then
  (0)
  else
  (1)))
  else if w32 a0 = 1 then
  (if w32 a3 < 1 then
  (0)
  else
  (if 9999 < w32 a3 then
  (0)
  else
  (1)))
  else if w32 a0 = 2 then
  (if w32 a3 < 0 then
  (0)
  else
  (if 1000 < w32 a3 then
  (0)
  else
  (1)))
  else (if w32 a3 < 100 then
  (0)
  else
  (if 10000 < w32 a3 then
  (0)
  else
  (1)))))
theorem tU_canBeTold (a0 : Int) (a1 : Int) (a2 : Int) (a3 : Int) : gU_canBeTold a0 a1 a2 a3 = some (fU_canBeTold a0 a1 a2 a3) := by
  unfold gU_canBeTold fU_canBeTold
  (repeat' (first | rfl | split))
theorem zU_canBeTold {a0 : Int} {a1 : Int} {a2 : Int} {a3 : Int} : fU_canBeTold a0 a1 a2 a3 = 0 ∨ fU_canBeTold a0 a1 a2 a3 = 1 := by
  unfold fU_canBeTold
  (repeat' (first | exact Or.inl rfl | exact Or.inr rfl | exact zU_isSubject | exact zU_isDay | split))
set_option maxHeartbeats 4000000 in
set_option maxRecDepth 20000 in
theorem cU_canBeTold (E : bz_E) {M : bz_Mm} {a0 : Int} {a1 : Int} {a2 : Int} {a3 : Int} : bz_Ct E yU_canBeTold (.code yU_canBeTold prog_1_method_49_code 4 (some .boolean)) 1 21 [bz_i a0, bz_i a1, bz_i a2, bz_i a3] M (some (bz_i (fU_canBeTold a0 a1 a2 a3))) M := by
  have hf := tU_canBeTold a0 a1 a2 a3
  refine bz_met (by decide +kernel) (Nat.le_of_ble_eq_true rfl) (fun K X => ?_)
  have X : bz_X K E prog_1_method_49_code 4 "UnitsWrong" (some .boolean) 1 21 _ _ := X
  unfold gU_canBeTold at hf
  generalize fU_canBeTold a0 a1 a2 a3 = rr at hf X
  show bz_J K 4 0 [(0, bz_i a0), (1, bz_i a1), (2, bz_i a2), (3, bz_i a3)] [] M
  refine j_iload_n X dU_canBeTold_0 rfl 0 rfl ?_
  refine j_iload_n X dU_canBeTold_1 rfl 1 rfl ?_
  refine j_cs X (st := []) (cU_isSubject E) gyU_isSubject wd_556 rfl (by decide) (by decide) wd_555 rfl (Nat.le_of_ble_eq_true rfl) dU_canBeTold_2 ?_
  refine j_if_eq X (tgt := 15) rfl dU_canBeTold_5 (by decide) hf (fun hf => ?_) (fun hf => ?_)
  · refine j_iconst X dU_canBeTold_15 ?_
    cases hf
    exact j_zret X (by decide +kernel) dU_canBeTold_16 rfl rfl
  · refine j_iload_n X dU_canBeTold_8 rfl 2 rfl ?_
    refine j_cs X (st := []) (cU_isDay E) gyU_isDay wd_546 rfl (by decide) (by decide) wd_558 rfl (Nat.le_of_ble_eq_true rfl) dU_canBeTold_9 ?_
    refine j_if_ne X (tgt := 17) rfl dU_canBeTold_12 (by decide) hf (fun hf => ?_) (fun hf => ?_)
    · refine j_iload_n X dU_canBeTold_17 rfl 0 rfl ?_
      rcases q_ite hf with ⟨hc0, hf⟩ | ⟨hc0, hf⟩
      · refine j_tabIn X (tgt := 44) (v := 0) hc0 dU_canBeTold_18 (by decide) (by decide) rfl (by decide) ?_
        refine j_iload_n X dU_canBeTold_44 rfl 3 rfl ?_
        refine j_iconst X dU_canBeTold_45 ?_
        refine j_icmp_lt X (tgt := 60) rfl (w32_lit rfl) dU_canBeTold_46 (by decide) hf (fun hf => ?_) (fun hf => ?_)
        · refine j_iconst X dU_canBeTold_60 ?_
          cases hf
          exact j_zret X (by decide +kernel) dU_canBeTold_61 rfl rfl
        · refine j_iload_n X dU_canBeTold_49 rfl 3 rfl ?_
          refine j_sipush X dU_canBeTold_50 rfl ?_
          refine j_icmp_gt X (tgt := 60) rfl (w32_lit rfl) dU_canBeTold_53 (by decide) hf (fun hf => ?_) (fun hf => ?_)
          · refine j_iconst X dU_canBeTold_60 ?_
            cases hf
            exact j_zret X (by decide +kernel) dU_canBeTold_61 rfl rfl
          · refine j_iconst X dU_canBeTold_56 ?_
            refine j_goto X (tgt := 61) dU_canBeTold_57 (by decide) ?_
            cases hf
            exact j_zret X (by decide +kernel) dU_canBeTold_61 rfl rfl
      rcases q_ite hf with ⟨hc1, hf⟩ | ⟨hc1, hf⟩
      · refine j_tabIn X (tgt := 62) (v := 1) hc1 dU_canBeTold_18 (by decide) (by decide) rfl (by decide) ?_
        refine j_iload_n X dU_canBeTold_62 rfl 3 rfl ?_
        refine j_iconst X dU_canBeTold_63 ?_
        refine j_icmp_lt X (tgt := 78) rfl (w32_lit rfl) dU_canBeTold_64 (by decide) hf (fun hf => ?_) (fun hf => ?_)
        · refine j_iconst X dU_canBeTold_78 ?_
          cases hf
          exact j_zret X (by decide +kernel) dU_canBeTold_79 rfl rfl
        · refine j_iload_n X dU_canBeTold_67 rfl 3 rfl ?_
          refine j_sipush X dU_canBeTold_68 rfl ?_
          refine j_icmp_gt X (tgt := 78) rfl (w32_lit rfl) dU_canBeTold_71 (by decide) hf (fun hf => ?_) (fun hf => ?_)
          · refine j_iconst X dU_canBeTold_78 ?_
            cases hf
            exact j_zret X (by decide +kernel) dU_canBeTold_79 rfl rfl
          · refine j_iconst X dU_canBeTold_74 ?_
            refine j_goto X (tgt := 79) dU_canBeTold_75 (by decide) ?_
            cases hf
            exact j_zret X (by decide +kernel) dU_canBeTold_79 rfl rfl
      rcases q_ite hf with ⟨hc2, hf⟩ | ⟨hc2, hf⟩
      · refine j_tabIn X (tgt := 80) (v := 2) hc2 dU_canBeTold_18 (by decide) (by decide) rfl (by decide) ?_
        refine j_iload_n X dU_canBeTold_80 rfl 3 rfl ?_
        refine j_if_lt X (tgt := 95) rfl dU_canBeTold_81 (by decide) hf (fun hf => ?_) (fun hf => ?_)
        · refine j_iconst X dU_canBeTold_95 ?_
          cases hf
          exact j_zret X (by decide +kernel) dU_canBeTold_96 rfl rfl
        · refine j_iload_n X dU_canBeTold_84 rfl 3 rfl ?_
          refine j_sipush X dU_canBeTold_85 rfl ?_
          refine j_icmp_gt X (tgt := 95) rfl (w32_lit rfl) dU_canBeTold_88 (by decide) hf (fun hf => ?_) (fun hf => ?_)
          · refine j_iconst X dU_canBeTold_95 ?_
            cases hf
            exact j_zret X (by decide +kernel) dU_canBeTold_96 rfl rfl
          · refine j_iconst X dU_canBeTold_91 ?_
            refine j_goto X (tgt := 96) dU_canBeTold_92 (by decide) ?_
            cases hf
            exact j_zret X (by decide +kernel) dU_canBeTold_96 rfl rfl
      refine j_tabOut X (tgt := 97) (by omega) dU_canBeTold_18 (by decide) ?_
      refine j_iload_n X dU_canBeTold_97 rfl 3 rfl ?_
      refine j_bipush X dU_canBeTold_98 rfl ?_
      refine j_icmp_lt X (tgt := 114) rfl (w32_lit rfl) dU_canBeTold_100 (by decide) hf (fun hf => ?_) (fun hf => ?_)
      · refine j_iconst X dU_canBeTold_114 ?_
        cases hf
        exact j_zret X (by decide +kernel) dU_canBeTold_115 rfl rfl
      · refine j_iload_n X dU_canBeTold_103 rfl 3 rfl ?_
        refine j_sipush X dU_canBeTold_104 rfl ?_
        refine j_icmp_gt X (tgt := 114) rfl (w32_lit rfl) dU_canBeTold_107 (by decide) hf (fun hf => ?_) (fun hf => ?_)
        · refine j_iconst X dU_canBeTold_114 ?_
          cases hf
          exact j_zret X (by decide +kernel) dU_canBeTold_115 rfl rfl
        · refine j_iconst X dU_canBeTold_110 ?_
          refine j_goto X (tgt := 115) dU_canBeTold_111 (by decide) ?_
          cases hf
          exact j_zret X (by decide +kernel) dU_canBeTold_115 rfl rfl
    · refine j_iconst X dU_canBeTold_15 ?_
      cases hf
      exact j_zret X (by decide +kernel) dU_canBeTold_16 rfl rfl
def UB_add_9_L21 (F : Nat) : Nat → Int → Int → Int → bz_Mm → Option (Int × bz_Mm)
  | 0, _, _, _, _ => none
  | n + 1, l2, l1, l3, M =>
    if 0 < w32 l3 then
    (rd_ M 11 (l3 - 1) 400 fun x1 =>
    rd_ M 10 x1 400 fun x2 =>
    if w32 l1 < w32 x2 then
    (rd_ M 11 (l3 - 1) 400 fun x3 =>
    wa_ M 11 l3 400 x3 fun m4 =>
    UB_add_9_L21 F n l2 l1 (l3 + (-1)) m4)
    else
    (some (l3, M)))
    else
    (some (l3, M))
theorem lUB_add_9_L21 (E : bz_E) (F : Nat) {K : bz_K} {rv : Option Value} {M1 : bz_Mm} (X : bz_X K E prog_3_method_2_code 4 "UnitsWrong$ByDay" (some .int) 0 0 rv M1) {l2 : Int} {l1 : Int} {res : (Int × bz_Mm)}
    (kx : ∀ (l3 : Int) (M : bz_Mm), some (l3, M) = some res → bz_J K 4 62 [(3, bz_i l3), (2, bz_i l2), (0, bz_rf E 9), (1, bz_i l1)] [] M) :
    ∀ (n : Nat) (l3 : Int) (M : bz_Mm), UB_add_9_L21 F n l2 l1 l3 M = some res → bz_J K 4 21 [(3, bz_i l3), (2, bz_i l2), (0, bz_rf E 9), (1, bz_i l1)] [] M := by
  intro n
  induction n with
  | zero => intro l3 M hf; cases hf
  | succ n ih =>
    intro l3 M hf
    rw [UB_add_9_L21] at hf
    refine j_iload_n X dUB_add_21 rfl 0 rfl ?_
    refine j_if_le X (tgt := 62) rfl dUB_add_22 (by decide) hf (fun hf => ?_) (fun hf => ?_)
    · exact kx _ _ hf
    · refine j_aload_n X dUB_add_25 rfl 2 rfl ?_
      refine j_geta X gf_UB_9_9 dUB_add_26 ?_
      refine j_aload_n X dUB_add_29 rfl 2 rfl ?_
      refine j_geta X gf_UB_15_9 dUB_add_30 ?_
      refine j_iload_n X dUB_add_33 rfl 0 rfl ?_
      refine j_iconst X dUB_add_34 ?_
      refine j_isub X dUB_add_35 ?_
      show bz_J _ _ 36 _ _ _
      refine j_iald X sh_11 dUB_add_36 hf (fun x1 hf => ?_)
      refine j_iald X sh_10 dUB_add_37 hf (fun x2 hf => ?_)
      refine j_iload_n X dUB_add_38 rfl 3 rfl ?_
      refine j_icmp_le X (tgt := 62) rfl rfl dUB_add_39 (by decide) hf (fun hf => ?_) (fun hf => ?_)
      · exact kx _ _ hf
      · refine j_aload_n X dUB_add_42 rfl 2 rfl ?_
        refine j_geta X gf_UB_15_9 dUB_add_43 ?_
        refine j_iload_n X dUB_add_46 rfl 0 rfl ?_
        refine j_aload_n X dUB_add_47 rfl 2 rfl ?_
        refine j_geta X gf_UB_15_9 dUB_add_48 ?_
        refine j_iload_n X dUB_add_51 rfl 0 rfl ?_
        refine j_iconst X dUB_add_52 ?_
        show bz_J _ _ 53 _ _ _
        refine j_isub X dUB_add_53 ?_
        refine j_iald X sh_11 dUB_add_54 hf (fun x3 hf => ?_)
        refine j_iast X sh_11 dUB_add_55 hf (fun m4 hf => ?_)
        refine j_iinc X (y := l3 + (-1)) (lv' := [(3, bz_i (l3 + (-1))), (2, bz_i l2), (0, bz_rf E 9), (1, bz_i l1)]) dUB_add_56 0 rfl rfl (by decide) rfl ?_
        refine j_goto X (tgt := 21) dUB_add_59 (by decide) ?_
        exact ih _ _ hf
def fUB_add_9 (F : Nat) (M : bz_Mm) (a1 : Int) : Option (Int × bz_Mm) :=
  if w32 (M 9 2) < 400 then
  (lt_ (M 9 2) fun l2 =>
  cl2_ (UB_add_9_L21 F F l2 a1 l2 M) fun l3 m5 =>
  wa_ m5 11 l3 400 l2 fun m6 =>
  wa_ m6 10 l2 400 a1 fun m7 =>
  wf_ m7 9 2 (l2 + 1) fun m8 =>
  some ((l2, m8)))
  else
  (some (((-1), M)))
set_option maxHeartbeats 4000000 in
set_option maxRecDepth 20000 in
theorem cUB_add_9 (E : bz_E) (F : Nat)  {M : bz_Mm} {a1 : Int} {x0 : Int × bz_Mm} (hf : fUB_add_9 F M a1 = some x0) : bz_Ct E yUB_add (.code yUB_add prog_3_method_2_code 4 (some .int)) 0 0 [bz_rf E 9, bz_i a1] M (some (bz_i x0.1)) x0.2 := by
  refine bz_met (by decide +kernel) (Nat.le_of_ble_eq_true rfl) (fun K X => ?_)
  have X : bz_X K E prog_3_method_2_code 4 "UnitsWrong$ByDay" (some .int) 0 0 _ _ := X
  unfold fUB_add_9 at hf
  show bz_J K 4 0 [(0, bz_rf E 9), (1, bz_i a1)] [] M
  refine j_aload_n X dUB_add_0 rfl 0 rfl ?_
  refine j_geti X gf_UB_18_9 dUB_add_1 ?_
  refine j_aload_n X dUB_add_4 rfl 0 rfl ?_
  refine j_geta X gf_UB_9_9 dUB_add_5 ?_
  refine j_alen X sh_10 (by decide) dUB_add_8 ?_
  refine j_icmp_lt X (tgt := 14) rfl (w32_lit rfl) dUB_add_9 (by decide) hf (fun hf => ?_) (fun hf => ?_)
  · refine j_aload_n X dUB_add_14 rfl 0 rfl ?_
    refine j_geti X gf_UB_18_9 dUB_add_15 ?_
    refine j_lt (g := bz_i) hf (fun l2 hf => ?_)
    refine j_istore_n X (lv' := [(2, bz_i l2), (0, bz_rf E 9), (1, bz_i a1)]) dUB_add_18 rfl (by decide) rfl ?_
    refine j_iload_n X dUB_add_19 rfl 0 rfl ?_
    refine j_istore_n X (lv' := [(3, bz_i l2), (2, bz_i l2), (0, bz_rf E 9), (1, bz_i a1)]) dUB_add_20 rfl (by decide) rfl ?_
    obtain ⟨res9, hz9, hk9⟩ := q_l2 hf
    clear hf
    refine lUB_add_9_L21 E F X (fun l3 m5 he => ?_) F l2 M hz9
    have hf := hk9 _ _ he
    refine j_aload_n X dUB_add_62 rfl 2 rfl ?_
    refine j_geta X gf_UB_15_9 dUB_add_63 ?_
    refine j_iload_n X dUB_add_66 rfl 0 rfl ?_
    refine j_iload_n X dUB_add_67 rfl 1 rfl ?_
    refine j_iast X sh_11 dUB_add_68 hf (fun m6 hf => ?_)
    refine j_aload_n X dUB_add_69 rfl 2 rfl ?_
    refine j_geta X gf_UB_9_9 dUB_add_70 ?_
    show bz_J _ _ 73 _ _ _
    refine j_iload_n X dUB_add_73 rfl 1 rfl ?_
    refine j_iload_n X dUB_add_74 rfl 3 rfl ?_
    refine j_iast X sh_10 dUB_add_75 hf (fun m7 hf => ?_)
    refine j_aload_n X dUB_add_76 rfl 2 rfl ?_
    refine j_iload_n X dUB_add_77 rfl 1 rfl ?_
    refine j_iconst X dUB_add_78 ?_
    refine j_iadd X dUB_add_79 ?_
    refine j_puti X pf_UB_18_9 dUB_add_80 hf (fun m8 hf => ?_)
    show bz_J _ _ 83 _ _ _
    refine j_iload_n X dUB_add_83 rfl 1 rfl ?_
    cases hf
    exact j_iret X dUB_add_84 rfl rfl
  · refine j_iconst X dUB_add_12 ?_
    cases hf
    exact j_iret X dUB_add_13 rfl rfl
def fUTe_add_8 (F : Nat) (M : bz_Mm) (a1 : Int) (a2 : Int) (a3 : Int) (a4 : Int) (a5 : Int) : Option (Int × bz_Mm) :=
  cl2_ (fUB_add_9 F M a3) fun x2 m1 =>
  if w32 x2 = (-1) then
  (some ((x2, m1)))
  else
  (wa_ m1 12 x2 400 a1 fun m3 =>
  wa_ m3 13 x2 400 a2 fun m4 =>
  wa_ m4 14 x2 400 a4 fun m5 =>
  wa_ m5 15 x2 400 a5 fun m6 =>
  some ((x2, m6)))
set_option maxHeartbeats 4000000 in
set_option maxRecDepth 20000 in
theorem cUTe_add_8 (E : bz_E) (F : Nat)  {M : bz_Mm} {a1 : Int} {a2 : Int} {a3 : Int} {a4 : Int} {a5 : Int} {x0 : Int × bz_Mm} (hf : fUTe_add_8 F M a1 a2 a3 a4 a5 = some x0) : bz_Ct E yUTe_add (.code yUTe_add prog_10_method_2_code 7 (some .int)) 1 23 [bz_rf E 8, bz_i a1, bz_i a2, bz_i a3, bz_i a4, bz_i a5] M (some (bz_i x0.1)) x0.2 := by
  refine bz_met (by decide +kernel) (Nat.le_of_ble_eq_true rfl) (fun K X => ?_)
  have X : bz_X K E prog_10_method_2_code 7 "UnitsWrong$Tellings" (some .int) 1 23 _ _ := X
  unfold fUTe_add_8 at hf
  show bz_J K 7 0 [(0, bz_rf E 8), (1, bz_i a1), (2, bz_i a2), (3, bz_i a3), (4, bz_i a4), (5, bz_i a5)] [] M
  refine j_aload_n X dUTe_add_0 rfl 0 rfl ?_
  refine j_geta X gf_UTe_14_8 dUTe_add_1 ?_
  refine j_iload_n X dUTe_add_4 rfl 3 rfl ?_
  obtain ⟨x2, m1, hz, hf⟩ := q_cl2 hf
  refine j_cv X (st := []) (cUB_add_9 E F hz) gyUB_add gv_UB_add_9 rfl (by decide) (by decide) wd_563 rfl (Nat.le_of_ble_eq_true rfl) dUTe_add_5 ?_
  clear hz
  refine j_istore X (lv' := [(6, bz_i x2), (0, bz_rf E 8), (1, bz_i a1), (2, bz_i a2), (3, bz_i a3), (4, bz_i a4), (5, bz_i a5)]) dUTe_add_8 (by decide) rfl ?_
  refine j_iload X dUTe_add_10 0 rfl ?_
  refine j_iconst X dUTe_add_12 ?_
  show bz_J _ _ 13 _ _ _
  refine j_icmp_eq X (tgt := 50) rfl (w32_lit rfl) dUTe_add_13 (by decide) hf (fun hf => ?_) (fun hf => ?_)
  · refine j_iload X dUTe_add_50 0 rfl ?_
    cases hf
    exact j_iret X dUTe_add_52 rfl rfl
  · refine j_aload_n X dUTe_add_16 rfl 1 rfl ?_
    refine j_geta X gf_UTe_20_8 dUTe_add_17 ?_
    refine j_iload X dUTe_add_20 0 rfl ?_
    refine j_iload_n X dUTe_add_22 rfl 2 rfl ?_
    refine j_iast X sh_12 dUTe_add_23 hf (fun m3 hf => ?_)
    refine j_aload_n X dUTe_add_24 rfl 1 rfl ?_
    refine j_geta X gf_UTe_24_8 dUTe_add_25 ?_
    show bz_J _ _ 28 _ _ _
    refine j_iload X dUTe_add_28 0 rfl ?_
    refine j_iload_n X dUTe_add_30 rfl 3 rfl ?_
    refine j_iast X sh_13 dUTe_add_31 hf (fun m4 hf => ?_)
    refine j_aload_n X dUTe_add_32 rfl 1 rfl ?_
    refine j_geta X gf_UTe_27_8 dUTe_add_33 ?_
    refine j_iload X dUTe_add_36 0 rfl ?_
    refine j_iload X dUTe_add_38 5 rfl ?_
    refine j_iast X sh_14 dUTe_add_40 hf (fun m5 hf => ?_)
    show bz_J _ _ 41 _ _ _
    refine j_aload_n X dUTe_add_41 rfl 1 rfl ?_
    refine j_geta X gf_UTe_30_8 dUTe_add_42 ?_
    refine j_iload X dUTe_add_45 0 rfl ?_
    refine j_iload X dUTe_add_47 6 rfl ?_
    refine j_iast X sh_15 dUTe_add_49 hf (fun m6 hf => ?_)
    refine j_iload X dUTe_add_50 0 rfl ?_
    cases hf
    exact j_iret X dUTe_add_52 rfl rfl
def fU_tell (F : Nat) (M : bz_Mm) (a1 : Int) (a2 : Int) (a3 : Int) (a4 : Int) : Option (Int × bz_Mm) :=
  if w32 (fU_canBeTold a1 a2 a3 a4) = 0 then
  (some (((-1), M)))
  else
  (if w32 (M 1 13) < 260 then
  (cl2_ (fUTe_add_8 F M a1 a2 a3 a4 (M 1 13)) fun x2 m1 =>
  if w32 x2 = (-1) then
  (some (((-1), m1)))
  else
  (wf_ m1 1 17 ((m1 1 17) + 1) fun m3 =>
  some ((m3 9 2, m3))))
  else
  (some (((-1), M))))
set_option maxHeartbeats 4000000 in
set_option maxRecDepth 20000 in
theorem cU_tell (E : bz_E) (F : Nat)  {M : bz_Mm} {a1 : Int} {a2 : Int} {a3 : Int} {a4 : Int} {x0 : Int × bz_Mm} (hf : fU_tell F M a1 a2 a3 a4 = some x0) : bz_Ct E yU_tell (.code yU_tell prog_1_method_7_code 5 (some .int)) 2 49 [bz_rf E 0, bz_i a1, bz_i a2, bz_i a3, bz_i a4] M (some (bz_i x0.1)) x0.2 := by
  refine bz_met (by decide +kernel) (Nat.le_of_ble_eq_true rfl) (fun K X => ?_)
  have X : bz_X K E prog_1_method_7_code 5 "UnitsWrong" (some .int) 2 49 _ _ := X
  unfold fU_tell at hf
  show bz_J K 5 0 [(0, bz_rf E 0), (1, bz_i a1), (2, bz_i a2), (3, bz_i a3), (4, bz_i a4)] [] M
  refine j_iload_n X dU_tell_0 rfl 1 rfl ?_
  refine j_iload_n X dU_tell_1 rfl 2 rfl ?_
  refine j_iload_n X dU_tell_2 rfl 3 rfl ?_
  refine j_iload X dU_tell_3 4 rfl ?_
  refine j_cs X (st := []) (cU_canBeTold E) gyU_canBeTold wd_553 rfl (by decide) (by decide) wd_552 rfl (Nat.le_of_ble_eq_true rfl) dU_tell_5 ?_
  refine j_if_eq X (tgt := 24) rfl dU_tell_8 (by decide) hf (fun hf => ?_) (fun hf => ?_)
  · refine j_iconst X dU_tell_24 ?_
    cases hf
    exact j_iret X dU_tell_25 rfl rfl
  · refine j_aload_n X dU_tell_11 rfl 0 rfl ?_
    refine j_geta X gf_U_10_0 dU_tell_12 ?_
    refine j_geti X gf_U_51_1 dU_tell_15 ?_
    refine j_sipush X dU_tell_18 rfl ?_
    refine j_icmp_lt X (tgt := 26) rfl (w32_lit rfl) dU_tell_21 (by decide) hf (fun hf => ?_) (fun hf => ?_)
    · refine j_aload_n X dU_tell_26 rfl 0 rfl ?_
      refine j_geta X gf_U_10_0 dU_tell_27 ?_
      refine j_geta X gf_U_91_1 dU_tell_30 ?_
      refine j_iload_n X dU_tell_33 rfl 1 rfl ?_
      refine j_iload_n X dU_tell_34 rfl 2 rfl ?_
      refine j_iload_n X dU_tell_35 rfl 3 rfl ?_
      refine j_iload X dU_tell_36 4 rfl ?_
      show bz_J _ _ 38 _ _ _
      refine j_aload_n X dU_tell_38 rfl 0 rfl ?_
      refine j_geta X gf_U_10_0 dU_tell_39 ?_
      refine j_geti X gf_U_51_1 dU_tell_42 ?_
      obtain ⟨x2, m1, hz, hf⟩ := q_cl2 hf
      refine j_cv X (st := []) (cUTe_add_8 E F hz) gyUTe_add gv_UTe_add_8 rfl (by decide) (by decide) wd_559 rfl (Nat.le_of_ble_eq_true rfl) dU_tell_45 ?_
      clear hz
      refine j_iconst X dU_tell_48 ?_
      refine j_icmp_ne X (tgt := 54) rfl (w32_lit rfl) dU_tell_49 (by decide) hf (fun hf => ?_) (fun hf => ?_)
      · refine j_aload_n X dU_tell_54 rfl 0 rfl ?_
        refine j_geta X gf_U_10_0 dU_tell_55 ?_
        refine j_dup X dU_tell_58 rfl ?_
        refine j_geti X gf_U_67_1 dU_tell_59 ?_
        refine j_iconst X dU_tell_62 ?_
        refine j_iadd X dU_tell_63 ?_
        refine j_puti X pf_U_67_1 dU_tell_64 hf (fun m3 hf => ?_)
        show bz_J _ _ 67 _ _ _
        refine j_aload_n X dU_tell_67 rfl 0 rfl ?_
        refine j_geta X gf_U_10_0 dU_tell_68 ?_
        refine j_geta X gf_U_91_1 dU_tell_71 ?_
        refine j_geta X gf_U_101_8 dU_tell_74 ?_
        refine j_geti X gf_U_105_9 dU_tell_77 ?_
        cases hf
        exact j_iret X dU_tell_80 rfl rfl
      · refine j_iconst X dU_tell_52 ?_
        cases hf
        exact j_iret X dU_tell_53 rfl rfl
    · refine j_iconst X dU_tell_24 ?_
      cases hf
      exact j_iret X dU_tell_25 rfl rfl
def UTe_latest_8_L22 (F : Nat) : Nat → bz_Mm → Int → Int → Int → Int → Int → Int → Int → Option (Int)
  | 0, _, _, _, _, _, _, _, _ => none
  | n + 1, M, l5, l1, l2, l3, l4, l7, l6 =>
    if w32 l7 < w32 (M 9 2) then
    (rd_ M 11 l7 400 fun x3 =>
    rd_ M 10 x3 400 fun x4 =>
    cl1_ (if w32 x4 = w32 l3 then
    (some (1))
    else
    (if w32 l5 = 0 then
    (some (0))
    else
    (if w32 x4 < w32 l3 then
    (some (1))
    else
    (some (0))))) fun v6 =>
    if w32 v6 = 0 then
    (UTe_latest_8_L22 F n M l5 l1 l2 l3 l4 (l7 + 1) l6)
    else
    (rd_ M 12 x3 400 fun x7 =>
    if w32 x7 = w32 l1 then
    (rd_ M 13 x3 400 fun x8 =>
    if w32 x8 = w32 l2 then
    (rd_ M 15 x3 400 fun x9 =>
    if w32 l4 < w32 x9 then
    (UTe_latest_8_L22 F n M l5 l1 l2 l3 l4 (l7 + 1) l6)
    else
    (UTe_latest_8_L22 F n M l5 l1 l2 l3 l4 (l7 + 1) x3))
    else
    (UTe_latest_8_L22 F n M l5 l1 l2 l3 l4 (l7 + 1) l6))
    else
    (UTe_latest_8_L22 F n M l5 l1 l2 l3 l4 (l7 + 1) l6)))
    else
    (some l6)
theorem lUTe_latest_8_L22 (E : bz_E) (F : Nat) {K : bz_K} {rv : Option Value} {M1 : bz_Mm} (X : bz_X K E prog_10_method_3_code 11 "UnitsWrong$Tellings" (some .int) 0 0 rv M1) {M : bz_Mm} {l5 : Int} {l1 : Int} {l2 : Int} {l3 : Int} {l4 : Int} {res : (Int)}
    (kx : ∀ (l6 : Int), some l6 = some res → bz_J K 11 131 [(6, bz_i l6)] [] M) :
    ∀ (n : Nat) (l7 : Int) (l6 : Int), UTe_latest_8_L22 F n M l5 l1 l2 l3 l4 l7 l6 = some res → bz_J K 11 22 [(7, bz_i l7), (6, bz_i l6), (5, bz_i l5), (0, bz_rf E 8), (1, bz_i l1), (2, bz_i l2), (3, bz_i l3), (4, bz_i l4)] [] M := by
  intro n
  induction n with
  | zero => intro l7 l6 hf; cases hf
  | succ n ih =>
    intro l7 l6 hf
    rw [UTe_latest_8_L22] at hf
    refine j_iload X dUTe_latest_22 0 rfl ?_
    refine j_aload_n X dUTe_latest_24 rfl 3 rfl ?_
    refine j_geta X gf_UTe_14_8 dUTe_latest_25 ?_
    refine j_geti X gf_UTe_37_9 dUTe_latest_28 ?_
    refine j_icmp_ge X (tgt := 131) rfl rfl dUTe_latest_31 (by decide) hf (fun hf => ?_) (fun hf => ?_)
    · exact j_sub [1] rfl (kx _ hf)
    · refine j_aload_n X dUTe_latest_34 rfl 3 rfl ?_
      refine j_geta X gf_UTe_14_8 dUTe_latest_35 ?_
      refine j_geta X gf_UTe_41_9 dUTe_latest_38 ?_
      refine j_iload X dUTe_latest_41 0 rfl ?_
      refine j_iald X sh_11 dUTe_latest_43 hf (fun x3 hf => ?_)
      refine j_istore X (lv' := [(8, bz_i x3), (7, bz_i l7), (6, bz_i l6), (5, bz_i l5), (0, bz_rf E 8), (1, bz_i l1), (2, bz_i l2), (3, bz_i l3), (4, bz_i l4)]) dUTe_latest_44 (by decide) rfl ?_
      refine j_aload_n X dUTe_latest_46 rfl 4 rfl ?_
      show bz_J _ _ 47 _ _ _
      refine j_geta X gf_UTe_14_8 dUTe_latest_47 ?_
      refine j_geta X gf_UTe_44_9 dUTe_latest_50 ?_
      refine j_iload X dUTe_latest_53 0 rfl ?_
      refine j_iald X sh_10 dUTe_latest_55 hf (fun x4 hf => ?_)
      refine j_istore X (lv' := [(9, bz_i x4), (8, bz_i x3), (7, bz_i l7), (6, bz_i l6), (5, bz_i l5), (0, bz_rf E 8), (1, bz_i l1), (2, bz_i l2), (3, bz_i l3), (4, bz_i l4)]) dUTe_latest_56 (by decide) rfl ?_
      refine j_iload X dUTe_latest_58 0 rfl ?_
      refine j_iload_n X dUTe_latest_60 rfl 8 rfl ?_
      obtain ⟨resJ5, hf0, hkJ5⟩ := q_l1 hf
      have J5 : ∀ (v6 : Int), some v6 = some resJ5 → bz_J K 11 80 [(8, bz_i x3), (7, bz_i l7), (6, bz_i l6), (5, bz_i l5), (0, bz_rf E 8), (1, bz_i l1), (2, bz_i l2), (3, bz_i l3), (4, bz_i l4)] [bz_i v6] M := by
        intro v6 he
        have hf := hkJ5 _ he
        refine j_istore X (lv' := [(10, bz_i v6), (8, bz_i x3), (7, bz_i l7), (6, bz_i l6), (5, bz_i l5), (0, bz_rf E 8), (1, bz_i l1), (2, bz_i l2), (3, bz_i l3), (4, bz_i l4)]) dUTe_latest_80 (by decide) rfl ?_
        refine j_iload X dUTe_latest_82 0 rfl ?_
        refine j_if_eq X (tgt := 125) rfl dUTe_latest_84 (by decide) hf (fun hf => ?_) (fun hf => ?_)
        · refine j_iinc X (y := l7 + 1) (lv' := [(7, bz_i (l7 + 1)), (10, bz_i v6), (8, bz_i x3), (6, bz_i l6), (5, bz_i l5), (0, bz_rf E 8), (1, bz_i l1), (2, bz_i l2), (3, bz_i l3), (4, bz_i l4)]) dUTe_latest_125 2 rfl rfl (by decide) rfl ?_
          refine j_goto X (tgt := 22) dUTe_latest_128 (by decide) ?_
          exact j_sub [0, 3, 4, 5, 6, 7, 8, 9] rfl (ih _ _ hf)
        · refine j_aload_n X dUTe_latest_87 rfl 5 rfl ?_
          refine j_geta X gf_UTe_20_8 dUTe_latest_88 ?_
          refine j_iload X dUTe_latest_91 1 rfl ?_
          refine j_iald X sh_12 dUTe_latest_93 hf (fun x7 hf => ?_)
          refine j_iload_n X dUTe_latest_94 rfl 6 rfl ?_
          refine j_icmp_ne X (tgt := 125) rfl rfl dUTe_latest_95 (by decide) hf (fun hf => ?_) (fun hf => ?_)
          · refine j_iinc X (y := l7 + 1) (lv' := [(7, bz_i (l7 + 1)), (10, bz_i v6), (8, bz_i x3), (6, bz_i l6), (5, bz_i l5), (0, bz_rf E 8), (1, bz_i l1), (2, bz_i l2), (3, bz_i l3), (4, bz_i l4)]) dUTe_latest_125 2 rfl rfl (by decide) rfl ?_
            refine j_goto X (tgt := 22) dUTe_latest_128 (by decide) ?_
            exact j_sub [0, 3, 4, 5, 6, 7, 8, 9] rfl (ih _ _ hf)
          · refine j_aload_n X dUTe_latest_98 rfl 5 rfl ?_
            refine j_geta X gf_UTe_24_8 dUTe_latest_99 ?_
            refine j_iload X dUTe_latest_102 1 rfl ?_
            refine j_iald X sh_13 dUTe_latest_104 hf (fun x8 hf => ?_)
            refine j_iload_n X dUTe_latest_105 rfl 7 rfl ?_
            refine j_icmp_ne X (tgt := 125) rfl rfl dUTe_latest_106 (by decide) hf (fun hf => ?_) (fun hf => ?_)
            · refine j_iinc X (y := l7 + 1) (lv' := [(7, bz_i (l7 + 1)), (10, bz_i v6), (8, bz_i x3), (6, bz_i l6), (5, bz_i l5), (0, bz_rf E 8), (1, bz_i l1), (2, bz_i l2), (3, bz_i l3), (4, bz_i l4)]) dUTe_latest_125 2 rfl rfl (by decide) rfl ?_
              refine j_goto X (tgt := 22) dUTe_latest_128 (by decide) ?_
              exact j_sub [0, 3, 4, 5, 6, 7, 8, 9] rfl (ih _ _ hf)
            · refine j_aload_n X dUTe_latest_109 rfl 5 rfl ?_
              refine j_geta X gf_UTe_30_8 dUTe_latest_110 ?_
              refine j_iload X dUTe_latest_113 1 rfl ?_
              refine j_iald X sh_15 dUTe_latest_115 hf (fun x9 hf => ?_)
              refine j_iload X dUTe_latest_116 9 rfl ?_
              refine j_icmp_gt X (tgt := 125) rfl rfl dUTe_latest_118 (by decide) hf (fun hf => ?_) (fun hf => ?_)
              · refine j_iinc X (y := l7 + 1) (lv' := [(7, bz_i (l7 + 1)), (10, bz_i v6), (8, bz_i x3), (6, bz_i l6), (5, bz_i l5), (0, bz_rf E 8), (1, bz_i l1), (2, bz_i l2), (3, bz_i l3), (4, bz_i l4)]) dUTe_latest_125 2 rfl rfl (by decide) rfl ?_
                refine j_goto X (tgt := 22) dUTe_latest_128 (by decide) ?_
                exact j_sub [0, 3, 4, 5, 6, 7, 8, 9] rfl (ih _ _ hf)
              · refine j_iload X dUTe_latest_121 1 rfl ?_
                refine j_istore X (lv' := [(6, bz_i x3), (10, bz_i v6), (8, bz_i x3), (7, bz_i l7), (5, bz_i l5), (0, bz_rf E 8), (1, bz_i l1), (2, bz_i l2), (3, bz_i l3), (4, bz_i l4)]) dUTe_latest_123 (by decide) rfl ?_
                refine j_iinc X (y := l7 + 1) (lv' := [(7, bz_i (l7 + 1)), (6, bz_i x3), (10, bz_i v6), (8, bz_i x3), (5, bz_i l5), (0, bz_rf E 8), (1, bz_i l1), (2, bz_i l2), (3, bz_i l3), (4, bz_i l4)]) dUTe_latest_125 3 rfl rfl (by decide) rfl ?_
                refine j_goto X (tgt := 22) dUTe_latest_128 (by decide) ?_
                exact j_sub [0, 1, 4, 5, 6, 7, 8, 9] rfl (ih _ _ hf)
      clear hf
      have hf := hf0
      clear hf0
      refine j_icmp_eq X (tgt := 75) rfl rfl dUTe_latest_61 (by decide) hf (fun hf => ?_) (fun hf => ?_)
      · refine j_iconst X dUTe_latest_75 ?_
        refine j_goto X (tgt := 80) dUTe_latest_76 (by decide) ?_
        exact j_sub [1, 2, 3, 4, 5, 6, 7, 8, 9] rfl (J5 _ hf)
      · refine j_iload X dUTe_latest_64 4 rfl ?_
        refine j_if_eq X (tgt := 79) rfl dUTe_latest_66 (by decide) hf (fun hf => ?_) (fun hf => ?_)
        · refine j_iconst X dUTe_latest_79 ?_
          exact j_sub [1, 2, 3, 4, 5, 6, 7, 8, 9] rfl (J5 _ hf)
        · refine j_iload X dUTe_latest_69 0 rfl ?_
          refine j_iload_n X dUTe_latest_71 rfl 8 rfl ?_
          refine j_icmp_ge X (tgt := 79) rfl rfl dUTe_latest_72 (by decide) hf (fun hf => ?_) (fun hf => ?_)
          · refine j_iconst X dUTe_latest_79 ?_
            exact j_sub [1, 2, 3, 4, 5, 6, 7, 8, 9] rfl (J5 _ hf)
          · refine j_iconst X dUTe_latest_75 ?_
            refine j_goto X (tgt := 80) dUTe_latest_76 (by decide) ?_
            exact j_sub [1, 2, 3, 4, 5, 6, 7, 8, 9] rfl (J5 _ hf)
def fUTe_latest_8 (F : Nat) (M : bz_Mm) (a1 : Int) (a2 : Int) (a3 : Int) (a4 : Int) : Option (Int) :=
  cl1_ (if w32 a1 = 0 then
  (some (1))
  else
  (if w32 a1 = 1 then
  (some (1))
  else
  (some (0)))) fun v2 =>
  cl1_ (UTe_latest_8_L22 F F M v2 a1 a2 a3 a4 0 ((-1))) fun l6 =>
  some l6
set_option maxHeartbeats 4000000 in
set_option maxRecDepth 20000 in
theorem cUTe_latest_8 (E : bz_E) (F : Nat)  {M : bz_Mm} {a1 : Int} {a2 : Int} {a3 : Int} {a4 : Int} {x0 : Int} (hf : fUTe_latest_8 F M a1 a2 a3 a4 = some x0) : bz_Ct E yUTe_latest (.code yUTe_latest prog_10_method_3_code 11 (some .int)) 0 0 [bz_rf E 8, bz_i a1, bz_i a2, bz_i a3, bz_i a4] M (some (bz_i x0)) M := by
  refine bz_met (by decide +kernel) (Nat.le_of_ble_eq_true rfl) (fun K X => ?_)
  have X : bz_X K E prog_10_method_3_code 11 "UnitsWrong$Tellings" (some .int) 0 0 _ _ := X
  unfold fUTe_latest_8 at hf
  show bz_J K 11 0 [(0, bz_rf E 8), (1, bz_i a1), (2, bz_i a2), (3, bz_i a3), (4, bz_i a4)] [] M
  refine j_iload_n X dUTe_latest_0 rfl 1 rfl ?_
  obtain ⟨resJ1, hf0, hkJ1⟩ := q_l1 hf
  have J1 : ∀ (v2 : Int), some v2 = some resJ1 → bz_J K 11 14 [(0, bz_rf E 8), (1, bz_i a1), (2, bz_i a2), (3, bz_i a3), (4, bz_i a4)] [bz_i v2] M := by
    intro v2 he
    have hf := hkJ1 _ he
    refine j_istore X (lv' := [(5, bz_i v2), (0, bz_rf E 8), (1, bz_i a1), (2, bz_i a2), (3, bz_i a3), (4, bz_i a4)]) dUTe_latest_14 (by decide) rfl ?_
    refine j_iconst X dUTe_latest_16 ?_
    refine j_istore X (lv' := [(6, bz_i ((-1))), (5, bz_i v2), (0, bz_rf E 8), (1, bz_i a1), (2, bz_i a2), (3, bz_i a3), (4, bz_i a4)]) dUTe_latest_17 (by decide) rfl ?_
    refine j_iconst X dUTe_latest_19 ?_
    refine j_istore X (lv' := [(7, bz_i 0), (6, bz_i ((-1))), (5, bz_i v2), (0, bz_rf E 8), (1, bz_i a1), (2, bz_i a2), (3, bz_i a3), (4, bz_i a4)]) dUTe_latest_20 (by decide) rfl ?_
    obtain ⟨res10, hz10, hk10⟩ := q_l1 hf
    clear hf
    refine lUTe_latest_8_L22 E F X (fun l6 he => ?_) F 0 ((-1)) hz10
    have hf := hk10 _ he
    refine j_iload X dUTe_latest_131 0 rfl ?_
    cases hf
    exact j_iret X dUTe_latest_133 rfl rfl
  clear hf
  have hf := hf0
  clear hf0
  refine j_if_eq X (tgt := 9) rfl dUTe_latest_1 (by decide) hf (fun hf => ?_) (fun hf => ?_)
  · refine j_iconst X dUTe_latest_9 ?_
    refine j_goto X (tgt := 14) dUTe_latest_10 (by decide) ?_
    exact J1 _ hf
  · refine j_iload_n X dUTe_latest_4 rfl 1 rfl ?_
    refine j_iconst X dUTe_latest_5 ?_
    refine j_icmp_ne X (tgt := 13) rfl (w32_lit rfl) dUTe_latest_6 (by decide) hf (fun hf => ?_) (fun hf => ?_)
    · refine j_iconst X dUTe_latest_13 ?_
      exact J1 _ hf
    · refine j_iconst X dUTe_latest_9 ?_
      refine j_goto X (tgt := 14) dUTe_latest_10 (by decide) ?_
      exact J1 _ hf
def fU_known (F : Nat) (M : bz_Mm) (a1 : Int) (a2 : Int) (a3 : Int) (a4 : Int) : Option (Int) :=
  if w32 (fU_isSubject a1 a2) = 0 then
  (some ((-2147483648)))
  else
  (if w32 (fU_isDay a3) = 0 then
  (some ((-2147483648)))
  else
  (if w32 (fU_isDay a4) = 0 then
  (some ((-2147483648)))
  else
  (cl_ (fUTe_latest_8 F M a1 a2 a3 a4) fun x1 =>
  if w32 x1 = (-1) then
  (if w32 a1 = 0 then
  (some 0)
  else
  (if w32 a1 = 2 then
  (some 0)
  else
  (some 1000)))
  else
  (rd_ M 14 x1 400 fun x2 =>
  some x2))))
set_option maxHeartbeats 4000000 in
set_option maxRecDepth 20000 in
theorem cU_known (E : bz_E) (F : Nat)  {M : bz_Mm} {a1 : Int} {a2 : Int} {a3 : Int} {a4 : Int} {x0 : Int} (hf : fU_known F M a1 a2 a3 a4 = some x0) : bz_Ct E yU_known (.code yU_known prog_1_method_8_code 6 (some .int)) 1 30 [bz_rf E 0, bz_i a1, bz_i a2, bz_i a3, bz_i a4] M (some (bz_i x0)) M := by
  refine bz_met (by decide +kernel) (Nat.le_of_ble_eq_true rfl) (fun K X => ?_)
  have X : bz_X K E prog_1_method_8_code 6 "UnitsWrong" (some .int) 1 30 _ _ := X
  unfold fU_known at hf
  show bz_J K 6 0 [(0, bz_rf E 0), (1, bz_i a1), (2, bz_i a2), (3, bz_i a3), (4, bz_i a4)] [] M
  refine j_iload_n X dU_known_0 rfl 1 rfl ?_
  refine j_iload_n X dU_known_1 rfl 2 rfl ?_
  refine j_cs X (st := []) (cU_isSubject E) gyU_isSubject wd_556 rfl (by decide) (by decide) wd_555 rfl (Nat.le_of_ble_eq_true rfl) dU_known_2 ?_
  refine j_if_eq X (tgt := 23) rfl dU_known_5 (by decide) hf (fun hf => ?_) (fun hf => ?_)
  · refine j_ldc X (v := -2147483648) wd_571 dU_known_23 ?_
    cases hf
    exact j_iret X dU_known_25 rfl rfl
  · refine j_iload_n X dU_known_8 rfl 3 rfl ?_
    refine j_cs X (st := []) (cU_isDay E) gyU_isDay wd_546 rfl (by decide) (by decide) wd_558 rfl (Nat.le_of_ble_eq_true rfl) dU_known_9 ?_
    refine j_if_eq X (tgt := 23) rfl dU_known_12 (by decide) hf (fun hf => ?_) (fun hf => ?_)
    · refine j_ldc X (v := -2147483648) wd_571 dU_known_23 ?_
      cases hf
      exact j_iret X dU_known_25 rfl rfl
    · refine j_iload X dU_known_15 4 rfl ?_
      refine j_cs X (st := []) (cU_isDay E) gyU_isDay wd_546 rfl (by decide) (by decide) wd_558 rfl (Nat.le_of_ble_eq_true rfl) dU_known_17 ?_
      refine j_if_ne X (tgt := 26) rfl dU_known_20 (by decide) hf (fun hf => ?_) (fun hf => ?_)
      · refine j_aload_n X dU_known_26 rfl 0 rfl ?_
        refine j_geta X gf_U_10_0 dU_known_27 ?_
        refine j_geta X gf_U_91_1 dU_known_30 ?_
        refine j_iload_n X dU_known_33 rfl 1 rfl ?_
        refine j_iload_n X dU_known_34 rfl 2 rfl ?_
        refine j_iload_n X dU_known_35 rfl 3 rfl ?_
        refine j_iload X dU_known_36 4 rfl ?_
        show bz_J _ _ 38 _ _ _
        obtain ⟨x1, hzx1, hf⟩ := q_cl hf
        refine j_cv X (st := []) (cUTe_latest_8 E F hzx1) gyUTe_latest gv_UTe_latest_8 rfl (by decide) (by decide) wd_572 rfl (Nat.le_of_ble_eq_true rfl) dU_known_38 ?_
        refine j_istore X (lv' := [(5, bz_i x1), (0, bz_rf E 0), (1, bz_i a1), (2, bz_i a2), (3, bz_i a3), (4, bz_i a4)]) dU_known_41 (by decide) rfl ?_
        refine j_iload X dU_known_43 0 rfl ?_
        refine j_iconst X dU_known_45 ?_
        refine j_icmp_eq X (tgt := 63) rfl (w32_lit rfl) dU_known_46 (by decide) hf (fun hf => ?_) (fun hf => ?_)
        · refine j_iload_n X dU_known_63 rfl 2 rfl ?_
          refine j_if_eq X (tgt := 72) rfl dU_known_64 (by decide) hf (fun hf => ?_) (fun hf => ?_)
          · refine j_iconst X dU_known_72 ?_
            refine j_goto X (tgt := 79) dU_known_73 (by decide) ?_
            cases hf
            exact j_iret X dU_known_79 rfl rfl
          · refine j_iload_n X dU_known_67 rfl 2 rfl ?_
            refine j_iconst X dU_known_68 ?_
            refine j_icmp_ne X (tgt := 76) rfl (w32_lit rfl) dU_known_69 (by decide) hf (fun hf => ?_) (fun hf => ?_)
            · refine j_sipush X dU_known_76 rfl ?_
              cases hf
              exact j_iret X dU_known_79 rfl rfl
            · refine j_iconst X dU_known_72 ?_
              refine j_goto X (tgt := 79) dU_known_73 (by decide) ?_
              cases hf
              exact j_iret X dU_known_79 rfl rfl
        · refine j_aload_n X dU_known_49 rfl 1 rfl ?_
          refine j_geta X gf_U_10_0 dU_known_50 ?_
          refine j_geta X gf_U_91_1 dU_known_53 ?_
          refine j_geta X gf_U_122_8 dU_known_56 ?_
          refine j_iload X dU_known_59 0 rfl ?_
          refine j_iald X sh_14 dU_known_61 hf (fun x2 hf => ?_)
          cases hf
          exact j_iret X dU_known_62 rfl rfl
      · refine j_ldc X (v := -2147483648) wd_571 dU_known_23 ?_
        cases hf
        exact j_iret X dU_known_25 rfl rfl
def fU_stale (F : Nat) (M : bz_Mm) (a1 : Int) (a2 : Int) (a3 : Int) (a4 : Int) : Option (Int) :=
  if w32 (fU_isSubject a1 a2) = 0 then
  (some 0)
  else
  (if w32 (fU_isDay a3) = 0 then
  (some 0)
  else
  (if w32 (fU_isDay a4) = 0 then
  (some 0)
  else
  (cl_ (fUTe_latest_8 F M a1 a2 a3 a4) fun x1 =>
  if w32 x1 = (-1) then
  (some 0)
  else
  (rd_ M 10 x1 400 fun x2 =>
  if w32 x2 = w32 a3 then
  (some 0)
  else
  (some 1)))))
set_option maxHeartbeats 4000000 in
set_option maxRecDepth 20000 in
theorem cU_stale (E : bz_E) (F : Nat)  {M : bz_Mm} {a1 : Int} {a2 : Int} {a3 : Int} {a4 : Int} {x0 : Int} (hf : fU_stale F M a1 a2 a3 a4 = some x0) : bz_Ct E yU_stale (.code yU_stale prog_1_method_9_code 6 (some .boolean)) 1 30 [bz_rf E 0, bz_i a1, bz_i a2, bz_i a3, bz_i a4] M (some (bz_i x0)) M := by
  refine bz_met (by decide +kernel) (Nat.le_of_ble_eq_true rfl) (fun K X => ?_)
  have X : bz_X K E prog_1_method_9_code 6 "UnitsWrong" (some .boolean) 1 30 _ _ := X
  unfold fU_stale at hf
  show bz_J K 6 0 [(0, bz_rf E 0), (1, bz_i a1), (2, bz_i a2), (3, bz_i a3), (4, bz_i a4)] [] M
  refine j_iload_n X dU_stale_0 rfl 1 rfl ?_
  refine j_iload_n X dU_stale_1 rfl 2 rfl ?_
  refine j_cs X (st := []) (cU_isSubject E) gyU_isSubject wd_556 rfl (by decide) (by decide) wd_555 rfl (Nat.le_of_ble_eq_true rfl) dU_stale_2 ?_
  refine j_if_eq X (tgt := 23) rfl dU_stale_5 (by decide) hf (fun hf => ?_) (fun hf => ?_)
  · refine j_iconst X dU_stale_23 ?_
    cases hf
    exact j_zret X (by decide +kernel) dU_stale_24 rfl rfl
  · refine j_iload_n X dU_stale_8 rfl 3 rfl ?_
    refine j_cs X (st := []) (cU_isDay E) gyU_isDay wd_546 rfl (by decide) (by decide) wd_558 rfl (Nat.le_of_ble_eq_true rfl) dU_stale_9 ?_
    refine j_if_eq X (tgt := 23) rfl dU_stale_12 (by decide) hf (fun hf => ?_) (fun hf => ?_)
    · refine j_iconst X dU_stale_23 ?_
      cases hf
      exact j_zret X (by decide +kernel) dU_stale_24 rfl rfl
    · refine j_iload X dU_stale_15 4 rfl ?_
      refine j_cs X (st := []) (cU_isDay E) gyU_isDay wd_546 rfl (by decide) (by decide) wd_558 rfl (Nat.le_of_ble_eq_true rfl) dU_stale_17 ?_
      refine j_if_ne X (tgt := 25) rfl dU_stale_20 (by decide) hf (fun hf => ?_) (fun hf => ?_)
      · refine j_aload_n X dU_stale_25 rfl 0 rfl ?_
        refine j_geta X gf_U_10_0 dU_stale_26 ?_
        refine j_geta X gf_U_91_1 dU_stale_29 ?_
        refine j_iload_n X dU_stale_32 rfl 1 rfl ?_
        refine j_iload_n X dU_stale_33 rfl 2 rfl ?_
        refine j_iload_n X dU_stale_34 rfl 3 rfl ?_
        refine j_iload X dU_stale_35 4 rfl ?_
        show bz_J _ _ 37 _ _ _
        obtain ⟨x1, hzx1, hf⟩ := q_cl hf
        refine j_cv X (st := []) (cUTe_latest_8 E F hzx1) gyUTe_latest gv_UTe_latest_8 rfl (by decide) (by decide) wd_572 rfl (Nat.le_of_ble_eq_true rfl) dU_stale_37 ?_
        refine j_istore X (lv' := [(5, bz_i x1), (0, bz_rf E 0), (1, bz_i a1), (2, bz_i a2), (3, bz_i a3), (4, bz_i a4)]) dU_stale_40 (by decide) rfl ?_
        refine j_iload X dU_stale_42 0 rfl ?_
        refine j_iconst X dU_stale_44 ?_
        refine j_icmp_eq X (tgt := 72) rfl (w32_lit rfl) dU_stale_45 (by decide) hf (fun hf => ?_) (fun hf => ?_)
        · refine j_iconst X dU_stale_72 ?_
          cases hf
          exact j_zret X (by decide +kernel) dU_stale_73 rfl rfl
        · refine j_aload_n X dU_stale_48 rfl 1 rfl ?_
          refine j_geta X gf_U_10_0 dU_stale_49 ?_
          refine j_geta X gf_U_91_1 dU_stale_52 ?_
          refine j_geta X gf_U_101_8 dU_stale_55 ?_
          refine j_geta X gf_U_125_9 dU_stale_58 ?_
          refine j_iload X dU_stale_61 0 rfl ?_
          refine j_iald X sh_10 dU_stale_63 hf (fun x2 hf => ?_)
          show bz_J _ _ 64 _ _ _
          refine j_iload_n X dU_stale_64 rfl 4 rfl ?_
          refine j_icmp_eq X (tgt := 72) rfl rfl dU_stale_65 (by decide) hf (fun hf => ?_) (fun hf => ?_)
          · refine j_iconst X dU_stale_72 ?_
            cases hf
            exact j_zret X (by decide +kernel) dU_stale_73 rfl rfl
          · refine j_iconst X dU_stale_68 ?_
            refine j_goto X (tgt := 73) dU_stale_69 (by decide) ?_
            cases hf
            exact j_zret X (by decide +kernel) dU_stale_73 rfl rfl
      · refine j_iconst X dU_stale_23 ?_
        cases hf
        exact j_zret X (by decide +kernel) dU_stale_24 rfl rfl
def gUS_isFund (M : bz_Mm) (a1 : Int) : Option Int :=
  if w32 a1 < 0 then
  (some 0)
  else
  (if w32 a1 < w32 (M 1 14) then
  (some 1)
  else
  (some 0))
def fUS_isFund (M : bz_Mm) (a1 : Int) : Int :=
  if w32 a1 < 0 then
  (0)
  else
  (if w32 a1 < w32 (M 1 14) then
  (1)
  else
  (0))
theorem tUS_isFund (M : bz_Mm) (a1 : Int) : gUS_isFund M a1 = some (fUS_isFund M a1) := by
  unfold gUS_isFund fUS_isFund
  (repeat' (first | rfl | split))
theorem zUS_isFund {M : bz_Mm} {a1 : Int} : fUS_isFund M a1 = 0 ∨ fUS_isFund M a1 = 1 := by
  unfold fUS_isFund
  (repeat' (first | exact Or.inl rfl | exact Or.inr rfl | split))
set_option maxHeartbeats 4000000 in
set_option maxRecDepth 20000 in
theorem cUS_isFund (E : bz_E) {M : bz_Mm} {a1 : Int} : bz_Ct E yUS_isFund (.code yUS_isFund prog_9_method_2_code 2 (some .boolean)) 0 0 [bz_rf E 1, bz_i a1] M (some (bz_i (fUS_isFund M a1))) M := by
  have hf := tUS_isFund M a1
  refine bz_met (by decide +kernel) (Nat.le_of_ble_eq_true rfl) (fun K X => ?_)
  have X : bz_X K E prog_9_method_2_code 2 "UnitsWrong$State" (some .boolean) 0 0 _ _ := X
  unfold gUS_isFund at hf
  generalize fUS_isFund M a1 = rr at hf X
  show bz_J K 2 0 [(0, bz_rf E 1), (1, bz_i a1)] [] M
  refine j_iload_n X dUS_isFund_0 rfl 1 rfl ?_
  refine j_if_lt X (tgt := 16) rfl dUS_isFund_1 (by decide) hf (fun hf => ?_) (fun hf => ?_)
  · refine j_iconst X dUS_isFund_16 ?_
    cases hf
    exact j_zret X (by decide +kernel) dUS_isFund_17 rfl rfl
  · refine j_iload_n X dUS_isFund_4 rfl 1 rfl ?_
    refine j_aload_n X dUS_isFund_5 rfl 0 rfl ?_
    refine j_geti X gf_US_77_1 dUS_isFund_6 ?_
    refine j_icmp_ge X (tgt := 16) rfl rfl dUS_isFund_9 (by decide) hf (fun hf => ?_) (fun hf => ?_)
    · refine j_iconst X dUS_isFund_16 ?_
      cases hf
      exact j_zret X (by decide +kernel) dUS_isFund_17 rfl rfl
    · refine j_iconst X dUS_isFund_12 ?_
      refine j_goto X (tgt := 17) dUS_isFund_13 (by decide) ?_
      cases hf
      exact j_zret X (by decide +kernel) dUS_isFund_17 rfl rfl
def gU_isWithin (a0 : Int) (a1 : Int) : Option Int :=
  if w32 a0 < w32 (-a1) then
  (some 0)
  else
  (if w32 a1 < w32 a0 then
  (some 0)
  else
  (some 1))
def fU_isWithin (a0 : Int) (a1 : Int) : Int :=
  if w32 a0 < w32 (-a1) then
  (0)
  else
  (if w32 a1 < w32 a0 then
  (0)
  else
  (1))
theorem tU_isWithin (a0 : Int) (a1 : Int) : gU_isWithin a0 a1 = some (fU_isWithin a0 a1) := by
  unfold gU_isWithin fU_isWithin
  (repeat' (first | rfl | split))
theorem zU_isWithin {a0 : Int} {a1 : Int} : fU_isWithin a0 a1 = 0 ∨ fU_isWithin a0 a1 = 1 := by
  unfold fU_isWithin
  (repeat' (first | exact Or.inl rfl | exact Or.inr rfl | split))
set_option maxHeartbeats 4000000 in
set_option maxRecDepth 20000 in
theorem cU_isWithin (E : bz_E) {M : bz_Mm} {a0 : Int} {a1 : Int} : bz_Ct E yU_isWithin (.code yU_isWithin prog_1_method_45_code 2 (some .boolean)) 0 0 [bz_i a0, bz_i a1] M (some (bz_i (fU_isWithin a0 a1))) M := by
  have hf := tU_isWithin a0 a1
  refine bz_met (by decide +kernel) (Nat.le_of_ble_eq_true rfl) (fun K X => ?_)
  have X : bz_X K E prog_1_method_45_code 2 "UnitsWrong" (some .boolean) 0 0 _ _ := X
  unfold gU_isWithin at hf
  generalize fU_isWithin a0 a1 = rr at hf X
  show bz_J K 2 0 [(0, bz_i a0), (1, bz_i a1)] [] M
  refine j_iload_n X dU_isWithin_0 rfl 0 rfl ?_
  refine j_iload_n X dU_isWithin_1 rfl 1 rfl ?_
  refine j_ineg X dU_isWithin_2 ?_
  refine j_icmp_lt X (tgt := 15) rfl rfl dU_isWithin_3 (by decide) hf (fun hf => ?_) (fun hf => ?_)
  · refine j_iconst X dU_isWithin_15 ?_
    cases hf
    exact j_zret X (by decide +kernel) dU_isWithin_16 rfl rfl
  · refine j_iload_n X dU_isWithin_6 rfl 0 rfl ?_
    refine j_iload_n X dU_isWithin_7 rfl 1 rfl ?_
    refine j_icmp_gt X (tgt := 15) rfl rfl dU_isWithin_8 (by decide) hf (fun hf => ?_) (fun hf => ?_)
    · refine j_iconst X dU_isWithin_15 ?_
      cases hf
      exact j_zret X (by decide +kernel) dU_isWithin_16 rfl rfl
    · refine j_iconst X dU_isWithin_11 ?_
      refine j_goto X (tgt := 16) dU_isWithin_12 (by decide) ?_
      cases hf
      exact j_zret X (by decide +kernel) dU_isWithin_16 rfl rfl
def UB_add_25_L21 (F : Nat) : Nat → Int → Int → Int → bz_Mm → Option (Int × bz_Mm)
  | 0, _, _, _, _ => none
  | n + 1, l2, l1, l3, M =>
    if 0 < w32 l3 then
    (rd_ M 27 (l3 - 1) 120 fun x1 =>
    rd_ M 26 x1 120 fun x2 =>
    if w32 l1 < w32 x2 then
    (rd_ M 27 (l3 - 1) 120 fun x3 =>
    wa_ M 27 l3 120 x3 fun m4 =>
    UB_add_25_L21 F n l2 l1 (l3 + (-1)) m4)
    else
    (some (l3, M)))
    else
    (some (l3, M))
theorem lUB_add_25_L21 (E : bz_E) (F : Nat) {K : bz_K} {rv : Option Value} {M1 : bz_Mm} (X : bz_X K E prog_3_method_2_code 4 "UnitsWrong$ByDay" (some .int) 0 0 rv M1) {l2 : Int} {l1 : Int} {res : (Int × bz_Mm)}
    (kx : ∀ (l3 : Int) (M : bz_Mm), some (l3, M) = some res → bz_J K 4 62 [(3, bz_i l3), (2, bz_i l2), (0, bz_rf E 25), (1, bz_i l1)] [] M) :
    ∀ (n : Nat) (l3 : Int) (M : bz_Mm), UB_add_25_L21 F n l2 l1 l3 M = some res → bz_J K 4 21 [(3, bz_i l3), (2, bz_i l2), (0, bz_rf E 25), (1, bz_i l1)] [] M := by
  intro n
  induction n with
  | zero => intro l3 M hf; cases hf
  | succ n ih =>
    intro l3 M hf
    rw [UB_add_25_L21] at hf
    refine j_iload_n X dUB_add_21 rfl 0 rfl ?_
    refine j_if_le X (tgt := 62) rfl dUB_add_22 (by decide) hf (fun hf => ?_) (fun hf => ?_)
    · exact kx _ _ hf
    · refine j_aload_n X dUB_add_25 rfl 2 rfl ?_
      refine j_geta X gf_UB_9_25 dUB_add_26 ?_
      refine j_aload_n X dUB_add_29 rfl 2 rfl ?_
      refine j_geta X gf_UB_15_25 dUB_add_30 ?_
      refine j_iload_n X dUB_add_33 rfl 0 rfl ?_
      refine j_iconst X dUB_add_34 ?_
      refine j_isub X dUB_add_35 ?_
      show bz_J _ _ 36 _ _ _
      refine j_iald X sh_27 dUB_add_36 hf (fun x1 hf => ?_)
      refine j_iald X sh_26 dUB_add_37 hf (fun x2 hf => ?_)
      refine j_iload_n X dUB_add_38 rfl 3 rfl ?_
      refine j_icmp_le X (tgt := 62) rfl rfl dUB_add_39 (by decide) hf (fun hf => ?_) (fun hf => ?_)
      · exact kx _ _ hf
      · refine j_aload_n X dUB_add_42 rfl 2 rfl ?_
        refine j_geta X gf_UB_15_25 dUB_add_43 ?_
        refine j_iload_n X dUB_add_46 rfl 0 rfl ?_
        refine j_aload_n X dUB_add_47 rfl 2 rfl ?_
        refine j_geta X gf_UB_15_25 dUB_add_48 ?_
        refine j_iload_n X dUB_add_51 rfl 0 rfl ?_
        refine j_iconst X dUB_add_52 ?_
        show bz_J _ _ 53 _ _ _
        refine j_isub X dUB_add_53 ?_
        refine j_iald X sh_27 dUB_add_54 hf (fun x3 hf => ?_)
        refine j_iast X sh_27 dUB_add_55 hf (fun m4 hf => ?_)
        refine j_iinc X (y := l3 + (-1)) (lv' := [(3, bz_i (l3 + (-1))), (2, bz_i l2), (0, bz_rf E 25), (1, bz_i l1)]) dUB_add_56 0 rfl rfl (by decide) rfl ?_
        refine j_goto X (tgt := 21) dUB_add_59 (by decide) ?_
        exact ih _ _ hf
def fUB_add_25 (F : Nat) (M : bz_Mm) (a1 : Int) : Option (Int × bz_Mm) :=
  if w32 (M 25 2) < 120 then
  (lt_ (M 25 2) fun l2 =>
  cl2_ (UB_add_25_L21 F F l2 a1 l2 M) fun l3 m5 =>
  wa_ m5 27 l3 120 l2 fun m6 =>
  wa_ m6 26 l2 120 a1 fun m7 =>
  wf_ m7 25 2 (l2 + 1) fun m8 =>
  some ((l2, m8)))
  else
  (some (((-1), M)))
set_option maxHeartbeats 4000000 in
set_option maxRecDepth 20000 in
theorem cUB_add_25 (E : bz_E) (F : Nat)  {M : bz_Mm} {a1 : Int} {x0 : Int × bz_Mm} (hf : fUB_add_25 F M a1 = some x0) : bz_Ct E yUB_add (.code yUB_add prog_3_method_2_code 4 (some .int)) 0 0 [bz_rf E 25, bz_i a1] M (some (bz_i x0.1)) x0.2 := by
  refine bz_met (by decide +kernel) (Nat.le_of_ble_eq_true rfl) (fun K X => ?_)
  have X : bz_X K E prog_3_method_2_code 4 "UnitsWrong$ByDay" (some .int) 0 0 _ _ := X
  unfold fUB_add_25 at hf
  show bz_J K 4 0 [(0, bz_rf E 25), (1, bz_i a1)] [] M
  refine j_aload_n X dUB_add_0 rfl 0 rfl ?_
  refine j_geti X gf_UB_18_25 dUB_add_1 ?_
  refine j_aload_n X dUB_add_4 rfl 0 rfl ?_
  refine j_geta X gf_UB_9_25 dUB_add_5 ?_
  refine j_alen X sh_26 (by decide) dUB_add_8 ?_
  refine j_icmp_lt X (tgt := 14) rfl (w32_lit rfl) dUB_add_9 (by decide) hf (fun hf => ?_) (fun hf => ?_)
  · refine j_aload_n X dUB_add_14 rfl 0 rfl ?_
    refine j_geti X gf_UB_18_25 dUB_add_15 ?_
    refine j_lt (g := bz_i) hf (fun l2 hf => ?_)
    refine j_istore_n X (lv' := [(2, bz_i l2), (0, bz_rf E 25), (1, bz_i a1)]) dUB_add_18 rfl (by decide) rfl ?_
    refine j_iload_n X dUB_add_19 rfl 0 rfl ?_
    refine j_istore_n X (lv' := [(3, bz_i l2), (2, bz_i l2), (0, bz_rf E 25), (1, bz_i a1)]) dUB_add_20 rfl (by decide) rfl ?_
    obtain ⟨res9, hz9, hk9⟩ := q_l2 hf
    clear hf
    refine lUB_add_25_L21 E F X (fun l3 m5 he => ?_) F l2 M hz9
    have hf := hk9 _ _ he
    refine j_aload_n X dUB_add_62 rfl 2 rfl ?_
    refine j_geta X gf_UB_15_25 dUB_add_63 ?_
    refine j_iload_n X dUB_add_66 rfl 0 rfl ?_
    refine j_iload_n X dUB_add_67 rfl 1 rfl ?_
    refine j_iast X sh_27 dUB_add_68 hf (fun m6 hf => ?_)
    refine j_aload_n X dUB_add_69 rfl 2 rfl ?_
    refine j_geta X gf_UB_9_25 dUB_add_70 ?_
    show bz_J _ _ 73 _ _ _
    refine j_iload_n X dUB_add_73 rfl 1 rfl ?_
    refine j_iload_n X dUB_add_74 rfl 3 rfl ?_
    refine j_iast X sh_26 dUB_add_75 hf (fun m7 hf => ?_)
    refine j_aload_n X dUB_add_76 rfl 2 rfl ?_
    refine j_iload_n X dUB_add_77 rfl 1 rfl ?_
    refine j_iconst X dUB_add_78 ?_
    refine j_iadd X dUB_add_79 ?_
    refine j_puti X pf_UB_18_25 dUB_add_80 hf (fun m8 hf => ?_)
    show bz_J _ _ 83 _ _ _
    refine j_iload_n X dUB_add_83 rfl 1 rfl ?_
    cases hf
    exact j_iret X dUB_add_84 rfl rfl
  · refine j_iconst X dUB_add_12 ?_
    cases hf
    exact j_iret X dUB_add_13 rfl rfl
def fUTr_add (F : Nat) (M : bz_Mm) (a1 : Int) (a2 : Int) (a3 : Int) (a4 : Int) : Option (Int × bz_Mm) :=
  cl2_ (fUB_add_25 F M a3) fun x2 m1 =>
  if w32 x2 = (-1) then
  (some ((x2, m1)))
  else
  (wa_ m1 28 x2 120 a1 fun m3 =>
  wa_ m3 29 x2 120 a2 fun m4 =>
  wa_ m4 32 x2 120 a4 fun m5 =>
  some ((x2, m5)))
set_option maxHeartbeats 4000000 in
set_option maxRecDepth 20000 in
theorem cUTr_add (E : bz_E) (F : Nat)  {M : bz_Mm} {a1 : Int} {a2 : Int} {a3 : Int} {a4 : Int} {x0 : Int × bz_Mm} (hf : fUTr_add F M a1 a2 a3 a4 = some x0) : bz_Ct E yUTr_add (.code yUTr_add prog_12_method_2_code 6 (some .int)) 1 23 [bz_rf E 24, bz_i a1, bz_i a2, bz_i a3, bz_i a4] M (some (bz_i x0.1)) x0.2 := by
  refine bz_met (by decide +kernel) (Nat.le_of_ble_eq_true rfl) (fun K X => ?_)
  have X : bz_X K E prog_12_method_2_code 6 "UnitsWrong$Trades" (some .int) 1 23 _ _ := X
  unfold fUTr_add at hf
  show bz_J K 6 0 [(0, bz_rf E 24), (1, bz_i a1), (2, bz_i a2), (3, bz_i a3), (4, bz_i a4)] [] M
  refine j_aload_n X dUTr_add_0 rfl 0 rfl ?_
  refine j_geta X gf_UTr_16_24 dUTr_add_1 ?_
  refine j_iload_n X dUTr_add_4 rfl 3 rfl ?_
  obtain ⟨x2, m1, hz, hf⟩ := q_cl2 hf
  refine j_cv X (st := []) (cUB_add_25 E F hz) gyUB_add gv_UB_add_25 rfl (by decide) (by decide) wd_595 rfl (Nat.le_of_ble_eq_true rfl) dUTr_add_5 ?_
  clear hz
  refine j_istore X (lv' := [(5, bz_i x2), (0, bz_rf E 24), (1, bz_i a1), (2, bz_i a2), (3, bz_i a3), (4, bz_i a4)]) dUTr_add_8 (by decide) rfl ?_
  refine j_iload X dUTr_add_10 0 rfl ?_
  refine j_iconst X dUTr_add_12 ?_
  show bz_J _ _ 13 _ _ _
  refine j_icmp_eq X (tgt := 41) rfl (w32_lit rfl) dUTr_add_13 (by decide) hf (fun hf => ?_) (fun hf => ?_)
  · refine j_iload X dUTr_add_41 0 rfl ?_
    cases hf
    exact j_iret X dUTr_add_43 rfl rfl
  · refine j_aload_n X dUTr_add_16 rfl 1 rfl ?_
    refine j_geta X gf_UTr_20_24 dUTr_add_17 ?_
    refine j_iload X dUTr_add_20 0 rfl ?_
    refine j_iload_n X dUTr_add_22 rfl 2 rfl ?_
    refine j_iast X sh_28 dUTr_add_23 hf (fun m3 hf => ?_)
    refine j_aload_n X dUTr_add_24 rfl 1 rfl ?_
    refine j_geta X gf_UTr_24_24 dUTr_add_25 ?_
    show bz_J _ _ 28 _ _ _
    refine j_iload X dUTr_add_28 0 rfl ?_
    refine j_iload_n X dUTr_add_30 rfl 3 rfl ?_
    refine j_iast X sh_29 dUTr_add_31 hf (fun m4 hf => ?_)
    refine j_aload_n X dUTr_add_32 rfl 1 rfl ?_
    refine j_geta X gf_UTr_33_24 dUTr_add_33 ?_
    refine j_iload X dUTr_add_36 0 rfl ?_
    refine j_iload X dUTr_add_38 5 rfl ?_
    refine j_iast X sh_32 dUTr_add_40 hf (fun m5 hf => ?_)
    show bz_J _ _ 41 _ _ _
    refine j_iload X dUTr_add_41 0 rfl ?_
    cases hf
    exact j_iret X dUTr_add_43 rfl rfl
def fU_trade (F : Nat) (M : bz_Mm) (a1 : Int) (a2 : Int) (a3 : Int) (a4 : Int) (a5 : Int) : Option (Int × bz_Mm) :=
  if w32 (fUS_isFund M a1) = 0 then
  (some (((-1), M)))
  else
  (if w32 a2 < 0 then
  (some (((-1), M)))
  else
  (if w32 a2 < 8 then
  (if w32 a3 < 0 then
  (some (((-1), M)))
  else
  (if w32 (M 1 13) < w32 a3 then
  (some (((-1), M)))
  else
  (if w32 (M 1 13) < 260 then
  (if w32 (fU_isWithin a4 10000) = 0 then
  (some (((-1), M)))
  else
  (if w32 (fU_isWithin a5 100000000) = 0 then
  (some (((-1), M)))
  else
  (cl2_ (fUTr_add F M a1 a2 a3 (M 1 13)) fun x2 m1 =>
  if w32 x2 = (-1) then
  (some ((x2, m1)))
  else
  (wa_ m1 30 x2 120 a4 fun m3 =>
  wa_ m3 31 x2 120 a5 fun m4 =>
  wf_ m4 1 17 ((m4 1 17) + 1) fun m5 =>
  some ((x2, m5))))))
  else
  (some (((-1), M))))))
  else
  (some (((-1), M)))))
set_option maxHeartbeats 4000000 in
set_option maxRecDepth 20000 in
theorem cU_trade (E : bz_E) (F : Nat)  {M : bz_Mm} {a1 : Int} {a2 : Int} {a3 : Int} {a4 : Int} {a5 : Int} {x0 : Int × bz_Mm} (hf : fU_trade F M a1 a2 a3 a4 a5 = some x0) : bz_Ct E yU_trade (.code yU_trade prog_1_method_10_code 7 (some .int)) 2 48 [bz_rf E 0, bz_i a1, bz_i a2, bz_i a3, bz_i a4, bz_i a5] M (some (bz_i x0.1)) x0.2 := by
  refine bz_met (by decide +kernel) (Nat.le_of_ble_eq_true rfl) (fun K X => ?_)
  have X : bz_X K E prog_1_method_10_code 7 "UnitsWrong" (some .int) 2 48 _ _ := X
  unfold fU_trade at hf
  show bz_J K 7 0 [(0, bz_rf E 0), (1, bz_i a1), (2, bz_i a2), (3, bz_i a3), (4, bz_i a4), (5, bz_i a5)] [] M
  refine j_aload_n X dU_trade_0 rfl 0 rfl ?_
  refine j_geta X gf_U_10_0 dU_trade_1 ?_
  refine j_iload_n X dU_trade_4 rfl 1 rfl ?_
  refine j_cv X (st := []) (cUS_isFund E) gyUS_isFund gv_US_isFund_1 rfl (by decide) (by decide) wd_584 rfl (Nat.le_of_ble_eq_true rfl) dU_trade_5 ?_
  refine j_if_eq X (tgt := 49) rfl dU_trade_8 (by decide) hf (fun hf => ?_) (fun hf => ?_)
  · refine j_iconst X dU_trade_49 ?_
    cases hf
    exact j_iret X dU_trade_50 rfl rfl
  · refine j_iload_n X dU_trade_11 rfl 2 rfl ?_
    refine j_if_lt X (tgt := 49) rfl dU_trade_12 (by decide) hf (fun hf => ?_) (fun hf => ?_)
    · refine j_iconst X dU_trade_49 ?_
      cases hf
      exact j_iret X dU_trade_50 rfl rfl
    · refine j_iload_n X dU_trade_15 rfl 2 rfl ?_
      refine j_bipush X dU_trade_16 rfl ?_
      refine j_icmp_ge X (tgt := 49) rfl (w32_lit rfl) dU_trade_18 (by decide) hf (fun hf => ?_) (fun hf => ?_)
      · refine j_iconst X dU_trade_49 ?_
        cases hf
        exact j_iret X dU_trade_50 rfl rfl
      · refine j_iload_n X dU_trade_21 rfl 3 rfl ?_
        refine j_if_lt X (tgt := 49) rfl dU_trade_22 (by decide) hf (fun hf => ?_) (fun hf => ?_)
        · refine j_iconst X dU_trade_49 ?_
          cases hf
          exact j_iret X dU_trade_50 rfl rfl
        · refine j_iload_n X dU_trade_25 rfl 3 rfl ?_
          refine j_aload_n X dU_trade_26 rfl 0 rfl ?_
          refine j_geta X gf_U_10_0 dU_trade_27 ?_
          refine j_geti X gf_U_51_1 dU_trade_30 ?_
          refine j_icmp_gt X (tgt := 49) rfl rfl dU_trade_33 (by decide) hf (fun hf => ?_) (fun hf => ?_)
          · refine j_iconst X dU_trade_49 ?_
            cases hf
            exact j_iret X dU_trade_50 rfl rfl
          · refine j_aload_n X dU_trade_36 rfl 0 rfl ?_
            refine j_geta X gf_U_10_0 dU_trade_37 ?_
            refine j_geti X gf_U_51_1 dU_trade_40 ?_
            refine j_sipush X dU_trade_43 rfl ?_
            refine j_icmp_lt X (tgt := 51) rfl (w32_lit rfl) dU_trade_46 (by decide) hf (fun hf => ?_) (fun hf => ?_)
            · refine j_iload X dU_trade_51 4 rfl ?_
              refine j_sipush X dU_trade_53 rfl ?_
              refine j_cs X (st := []) (cU_isWithin E) gyU_isWithin wd_589 rfl (by decide) (by decide) wd_588 rfl (Nat.le_of_ble_eq_true rfl) dU_trade_56 ?_
              refine j_if_eq X (tgt := 72) rfl dU_trade_59 (by decide) hf (fun hf => ?_) (fun hf => ?_)
              · refine j_iconst X dU_trade_72 ?_
                cases hf
                exact j_iret X dU_trade_73 rfl rfl
              · refine j_iload X dU_trade_62 5 rfl ?_
                refine j_ldc X (v := 100000000) wd_528 dU_trade_64 ?_
                refine j_cs X (st := []) (cU_isWithin E) gyU_isWithin wd_589 rfl (by decide) (by decide) wd_588 rfl (Nat.le_of_ble_eq_true rfl) dU_trade_66 ?_
                refine j_if_ne X (tgt := 74) rfl dU_trade_69 (by decide) hf (fun hf => ?_) (fun hf => ?_)
                · refine j_aload_n X dU_trade_74 rfl 0 rfl ?_
                  refine j_geta X gf_U_10_0 dU_trade_75 ?_
                  refine j_geta X gf_U_134_1 dU_trade_78 ?_
                  refine j_iload_n X dU_trade_81 rfl 1 rfl ?_
                  refine j_iload_n X dU_trade_82 rfl 2 rfl ?_
                  refine j_iload_n X dU_trade_83 rfl 3 rfl ?_
                  refine j_aload_n X dU_trade_84 rfl 0 rfl ?_
                  show bz_J _ _ 85 _ _ _
                  refine j_geta X gf_U_10_0 dU_trade_85 ?_
                  refine j_geti X gf_U_51_1 dU_trade_88 ?_
                  obtain ⟨x2, m1, hz, hf⟩ := q_cl2 hf
                  refine j_cv X (st := []) (cUTr_add E F hz) gyUTr_add gv_UTr_add_24 rfl (by decide) (by decide) wd_591 rfl (Nat.le_of_ble_eq_true rfl) dU_trade_91 ?_
                  clear hz
                  refine j_istore X (lv' := [(6, bz_i x2), (0, bz_rf E 0), (1, bz_i a1), (2, bz_i a2), (3, bz_i a3), (4, bz_i a4), (5, bz_i a5)]) dU_trade_94 (by decide) rfl ?_
                  refine j_iload X dU_trade_96 0 rfl ?_
                  refine j_iconst X dU_trade_98 ?_
                  refine j_icmp_eq X (tgt := 145) rfl (w32_lit rfl) dU_trade_99 (by decide) hf (fun hf => ?_) (fun hf => ?_)
                  · refine j_iload X dU_trade_145 0 rfl ?_
                    cases hf
                    exact j_iret X dU_trade_147 rfl rfl
                  · refine j_aload_n X dU_trade_102 rfl 1 rfl ?_
                    refine j_geta X gf_U_10_0 dU_trade_103 ?_
                    refine j_geta X gf_U_134_1 dU_trade_106 ?_
                    refine j_geta X gf_U_142_24 dU_trade_109 ?_
                    refine j_iload X dU_trade_112 0 rfl ?_
                    refine j_iload X dU_trade_114 5 rfl ?_
                    refine j_iast X sh_30 dU_trade_116 hf (fun m3 hf => ?_)
                    show bz_J _ _ 117 _ _ _
                    refine j_aload_n X dU_trade_117 rfl 1 rfl ?_
                    refine j_geta X gf_U_10_0 dU_trade_118 ?_
                    refine j_geta X gf_U_134_1 dU_trade_121 ?_
                    refine j_geta X gf_U_145_24 dU_trade_124 ?_
                    refine j_iload X dU_trade_127 0 rfl ?_
                    refine j_iload X dU_trade_129 6 rfl ?_
                    refine j_iast X sh_31 dU_trade_131 hf (fun m4 hf => ?_)
                    refine j_aload_n X dU_trade_132 rfl 1 rfl ?_
                    show bz_J _ _ 133 _ _ _
                    refine j_geta X gf_U_10_0 dU_trade_133 ?_
                    refine j_dup X dU_trade_136 rfl ?_
                    refine j_geti X gf_U_67_1 dU_trade_137 ?_
                    refine j_iconst X dU_trade_140 ?_
                    refine j_iadd X dU_trade_141 ?_
                    refine j_puti X pf_U_67_1 dU_trade_142 hf (fun m5 hf => ?_)
                    refine j_iload X dU_trade_145 0 rfl ?_
                    cases hf
                    exact j_iret X dU_trade_147 rfl rfl
                · refine j_iconst X dU_trade_72 ?_
                  cases hf
                  exact j_iret X dU_trade_73 rfl rfl
            · refine j_iconst X dU_trade_49 ?_
              cases hf
              exact j_iret X dU_trade_50 rfl rfl
def gUS_isHolder (M : bz_Mm) (a1 : Int) : Option Int :=
  if w32 a1 < 0 then
  (some 0)
  else
  (if w32 a1 < w32 (M 1 15) then
  (some 1)
  else
  (some 0))
def fUS_isHolder (M : bz_Mm) (a1 : Int) : Int :=
  if w32 a1 < 0 then
  (0)
  else
  (if w32 a1 < w32 (M 1 15) then
  (1)
  else
  (0))
theorem tUS_isHolder (M : bz_Mm) (a1 : Int) : gUS_isHolder M a1 = some (fUS_isHolder M a1) := by
  unfold gUS_isHolder fUS_isHolder
  (repeat' (first | rfl | split))
theorem zUS_isHolder {M : bz_Mm} {a1 : Int} : fUS_isHolder M a1 = 0 ∨ fUS_isHolder M a1 = 1 := by
  unfold fUS_isHolder
  (repeat' (first | exact Or.inl rfl | exact Or.inr rfl | split))
set_option maxHeartbeats 4000000 in
set_option maxRecDepth 20000 in
theorem cUS_isHolder (E : bz_E) {M : bz_Mm} {a1 : Int} : bz_Ct E yUS_isHolder (.code yUS_isHolder prog_9_method_3_code 2 (some .boolean)) 0 0 [bz_rf E 1, bz_i a1] M (some (bz_i (fUS_isHolder M a1))) M := by
  have hf := tUS_isHolder M a1
  refine bz_met (by decide +kernel) (Nat.le_of_ble_eq_true rfl) (fun K X => ?_)
  have X : bz_X K E prog_9_method_3_code 2 "UnitsWrong$State" (some .boolean) 0 0 _ _ := X
  unfold gUS_isHolder at hf
  generalize fUS_isHolder M a1 = rr at hf X
  show bz_J K 2 0 [(0, bz_rf E 1), (1, bz_i a1)] [] M
  refine j_iload_n X dUS_isHolder_0 rfl 1 rfl ?_
  refine j_if_lt X (tgt := 16) rfl dUS_isHolder_1 (by decide) hf (fun hf => ?_) (fun hf => ?_)
  · refine j_iconst X dUS_isHolder_16 ?_
    cases hf
    exact j_zret X (by decide +kernel) dUS_isHolder_17 rfl rfl
  · refine j_iload_n X dUS_isHolder_4 rfl 1 rfl ?_
    refine j_aload_n X dUS_isHolder_5 rfl 0 rfl ?_
    refine j_geti X gf_US_81_1 dUS_isHolder_6 ?_
    refine j_icmp_ge X (tgt := 16) rfl rfl dUS_isHolder_9 (by decide) hf (fun hf => ?_) (fun hf => ?_)
    · refine j_iconst X dUS_isHolder_16 ?_
      cases hf
      exact j_zret X (by decide +kernel) dUS_isHolder_17 rfl rfl
    · refine j_iconst X dUS_isHolder_12 ?_
      refine j_goto X (tgt := 17) dUS_isHolder_13 (by decide) ?_
      cases hf
      exact j_zret X (by decide +kernel) dUS_isHolder_17 rfl rfl
def gUS_isWho (M : bz_Mm) (a1 : Int) (a2 : Int) : Option Int :=
  if w32 (fUS_isFund M a2) = 0 then
  (some 0)
  else
  (if w32 (fUS_isHolder M a1) = 0 then
  (if w32 a1 < 20 then
  (some 0)
  else
  (if w32 (fUS_isFund M (a1 - 20)) = 0 then
  (some 0)
  else
  (if w32 a2 < w32 (a1 - 20) then
  (some 1)
  else
  (some 0))))
  else
  (some 1))
def fUS_isWho (M : bz_Mm) (a1 : Int) (a2 : Int) : Int :=
  if w32 (fUS_isFund M a2) = 0 then
  (0)
  else
  (if w32 (fUS_isHolder M a1) = 0 then
  (if w32 a1 < 20 then
  (0)
  else
  (if w32 (fUS_isFund M (a1 - 20)) = 0 then
  (0)
  else
  (if w32 a2 < w32 (a1 - 20) then
  (1)
  else
  (0))))
  else
  (1))
theorem tUS_isWho (M : bz_Mm) (a1 : Int) (a2 : Int) : gUS_isWho M a1 a2 = some (fUS_isWho M a1 a2) := by
  unfold gUS_isWho fUS_isWho
  (repeat' (first | rfl | split))
theorem zUS_isWho {M : bz_Mm} {a1 : Int} {a2 : Int} : fUS_isWho M a1 a2 = 0 ∨ fUS_isWho M a1 a2 = 1 := by
  unfold fUS_isWho
  (repeat' (first | exact Or.inl rfl | exact Or.inr rfl | exact zUS_isFund | exact zUS_isHolder | exact zUS_isFund | split))
set_option maxHeartbeats 4000000 in
set_option maxRecDepth 20000 in
theorem cUS_isWho (E : bz_E) {M : bz_Mm} {a1 : Int} {a2 : Int} : bz_Ct E yUS_isWho (.code yUS_isWho prog_9_method_4_code 3 (some .boolean)) 1 21 [bz_rf E 1, bz_i a1, bz_i a2] M (some (bz_i (fUS_isWho M a1 a2))) M := by
  have hf := tUS_isWho M a1 a2
  refine bz_met (by decide +kernel) (Nat.le_of_ble_eq_true rfl) (fun K X => ?_)
  have X : bz_X K E prog_9_method_4_code 3 "UnitsWrong$State" (some .boolean) 1 21 _ _ := X
  unfold gUS_isWho at hf
  generalize fUS_isWho M a1 a2 = rr at hf X
  show bz_J K 3 0 [(0, bz_rf E 1), (1, bz_i a1), (2, bz_i a2)] [] M
  refine j_aload_n X dUS_isWho_0 rfl 0 rfl ?_
  refine j_iload_n X dUS_isWho_1 rfl 2 rfl ?_
  refine j_cv X (st := []) (cUS_isFund E) gyUS_isFund gv_US_isFund_1 rfl (by decide) (by decide) wd_604 rfl (Nat.le_of_ble_eq_true rfl) dUS_isWho_2 ?_
  refine j_if_ne X (tgt := 10) rfl dUS_isWho_5 (by decide) hf (fun hf => ?_) (fun hf => ?_)
  · refine j_aload_n X dUS_isWho_10 rfl 0 rfl ?_
    refine j_iload_n X dUS_isWho_11 rfl 1 rfl ?_
    refine j_cv X (st := []) (cUS_isHolder E) gyUS_isHolder gv_US_isHolder_1 rfl (by decide) (by decide) wd_605 rfl (Nat.le_of_ble_eq_true rfl) dUS_isWho_12 ?_
    refine j_if_ne X (tgt := 43) rfl dUS_isWho_15 (by decide) hf (fun hf => ?_) (fun hf => ?_)
    · refine j_iconst X dUS_isWho_43 ?_
      refine j_goto X (tgt := 48) dUS_isWho_44 (by decide) ?_
      cases hf
      exact j_zret X (by decide +kernel) dUS_isWho_48 rfl rfl
    · refine j_iload_n X dUS_isWho_18 rfl 1 rfl ?_
      refine j_bipush X dUS_isWho_19 rfl ?_
      refine j_icmp_lt X (tgt := 47) rfl (w32_lit rfl) dUS_isWho_21 (by decide) hf (fun hf => ?_) (fun hf => ?_)
      · refine j_iconst X dUS_isWho_47 ?_
        cases hf
        exact j_zret X (by decide +kernel) dUS_isWho_48 rfl rfl
      · refine j_aload_n X dUS_isWho_24 rfl 0 rfl ?_
        refine j_iload_n X dUS_isWho_25 rfl 1 rfl ?_
        refine j_bipush X dUS_isWho_26 rfl ?_
        refine j_isub X dUS_isWho_28 ?_
        refine j_cv X (st := []) (cUS_isFund E) gyUS_isFund gv_US_isFund_1 rfl (by decide) (by decide) wd_604 rfl (Nat.le_of_ble_eq_true rfl) dUS_isWho_29 ?_
        refine j_if_eq X (tgt := 47) rfl dUS_isWho_32 (by decide) hf (fun hf => ?_) (fun hf => ?_)
        · refine j_iconst X dUS_isWho_47 ?_
          cases hf
          exact j_zret X (by decide +kernel) dUS_isWho_48 rfl rfl
        · refine j_iload_n X dUS_isWho_35 rfl 2 rfl ?_
          refine j_iload_n X dUS_isWho_36 rfl 1 rfl ?_
          refine j_bipush X dUS_isWho_37 rfl ?_
          refine j_isub X dUS_isWho_39 ?_
          refine j_icmp_ge X (tgt := 47) rfl rfl dUS_isWho_40 (by decide) hf (fun hf => ?_) (fun hf => ?_)
          · refine j_iconst X dUS_isWho_47 ?_
            cases hf
            exact j_zret X (by decide +kernel) dUS_isWho_48 rfl rfl
          · refine j_iconst X dUS_isWho_43 ?_
            refine j_goto X (tgt := 48) dUS_isWho_44 (by decide) ?_
            cases hf
            exact j_zret X (by decide +kernel) dUS_isWho_48 rfl rfl
  · refine j_iconst X dUS_isWho_8 ?_
    cases hf
    exact j_zret X (by decide +kernel) dUS_isWho_9 rfl rfl
def US_openBehind_L4 (F : Nat) : Nat → bz_Mm → Int → Option (Int ⊕ (Int))
  | 0, _, _ => none
  | n + 1, M, l2 =>
    if w32 l2 < 260 then
    (cl_ (fUS_isOpen F M l2) fun x1 =>
    if w32 x1 = 0 then
    (US_openBehind_L4 F n M (l2 + 1))
    else
    (some (.inl l2)))
    else
    (some (.inr 0))
theorem lUS_openBehind_L4 (E : bz_E) (F : Nat) {K : bz_K} {rv : Option Value} {M1 : bz_Mm} (X : bz_X K E prog_9_method_7_code 3 "UnitsWrong$State" (some .int) 2 41 rv M1) {M : bz_Mm} {res : (Int ⊕ (Int))}
    (kx : ∀ (_u : Int), some (.inr _u) = some res → bz_J K 3 27 [] [] M) (kr : ∀ b : Int, some (.inl b) = some res → some (bz_i b) = rv ∧ M = M1) :
    ∀ (n : Nat) (l2 : Int), US_openBehind_L4 F n M l2 = some res → bz_J K 3 4 [(2, bz_i l2), (0, bz_rf E 1)] [] M := by
  intro n
  induction n with
  | zero => intro l2 hf; cases hf
  | succ n ih =>
    intro l2 hf
    rw [US_openBehind_L4] at hf
    refine j_iload_n X dUS_openBehind_4 rfl 0 rfl ?_
    refine j_sipush X dUS_openBehind_5 rfl ?_
    refine j_icmp_ge X (tgt := 27) rfl (w32_lit rfl) dUS_openBehind_8 (by decide) hf (fun hf => ?_) (fun hf => ?_)
    · exact j_sub [] rfl (kx _ hf)
    · refine j_aload_n X dUS_openBehind_11 rfl 1 rfl ?_
      refine j_iload_n X dUS_openBehind_12 rfl 0 rfl ?_
      obtain ⟨x1, hzx1, hf⟩ := q_cl hf
      refine j_cv X (st := []) (cUS_isOpen E F hzx1) gyUS_isOpen gv_US_isOpen_1 rfl (by decide) (by decide) wd_613 rfl (Nat.le_of_ble_eq_true rfl) dUS_openBehind_13 ?_
      refine j_if_eq X (tgt := 21) rfl dUS_openBehind_16 (by decide) hf (fun hf => ?_) (fun hf => ?_)
      · refine j_iinc X (y := l2 + 1) (lv' := [(2, bz_i (l2 + 1)), (0, bz_rf E 1)]) dUS_openBehind_21 0 rfl rfl (by decide) rfl ?_
        refine j_goto X (tgt := 4) dUS_openBehind_24 (by decide) ?_
        exact ih _ hf
      · refine j_iload_n X dUS_openBehind_19 rfl 0 rfl ?_
        exact j_iret X dUS_openBehind_20 (kr _ hf).1 (kr _ hf).2
def fUS_openBehind (F : Nat) (M : bz_Mm) (a1 : Int) : Option (Int) :=
  lt_ (a1 + 1) fun l2 =>
  cs1_ (US_openBehind_L4 F F M l2) (fun b => some b) fun _u =>
  some ((-1))
set_option maxHeartbeats 4000000 in
set_option maxRecDepth 20000 in
theorem cUS_openBehind (E : bz_E) (F : Nat)  {M : bz_Mm} {a1 : Int} {x0 : Int} (hf : fUS_openBehind F M a1 = some x0) : bz_Ct E yUS_openBehind (.code yUS_openBehind prog_9_method_7_code 3 (some .int)) 2 41 [bz_rf E 1, bz_i a1] M (some (bz_i x0)) M := by
  refine bz_met (by decide +kernel) (Nat.le_of_ble_eq_true rfl) (fun K X => ?_)
  have X : bz_X K E prog_9_method_7_code 3 "UnitsWrong$State" (some .int) 2 41 _ _ := X
  unfold fUS_openBehind at hf
  show bz_J K 3 0 [(0, bz_rf E 1), (1, bz_i a1)] [] M
  refine j_iload_n X dUS_openBehind_0 rfl 1 rfl ?_
  refine j_iconst X dUS_openBehind_1 ?_
  refine j_iadd X dUS_openBehind_2 ?_
  refine j_lt (g := bz_i) hf (fun l2 hf => ?_)
  refine j_istore_n X (lv' := [(2, bz_i l2), (0, bz_rf E 1), (1, bz_i a1)]) dUS_openBehind_3 rfl (by decide) rfl ?_
  obtain ⟨res2, hz2, hk2, hr2⟩ := q_s1 hf
  clear hf
  refine j_sub [0, 1] rfl ?_
  refine lUS_openBehind_L4 E F X (fun _u he => ?_) (fun b he => ?_) F l2 hz2
  · have hf := hk2 _ he
    refine j_iconst X dUS_openBehind_27 ?_
    cases hf
    exact j_iret X dUS_openBehind_28 rfl rfl
  · have hf := hr2 _ he
    cases hf
    exact ⟨rfl, rfl⟩
def UL_value_L8 (F : Nat) : Nat → bz_Mm → Int → Int → Int → Int → Option (Int)
  | 0, _, _, _, _, _ => none
  | n + 1, M, l1, l2, l3, l4 =>
    if w32 l4 < 0 then
    (some l4)
    else
    (rd_ M 46 l4 6 fun x1 =>
    if w32 l2 < w32 x1 then
    (UL_value_L8 F n M l1 l2 l3 (l4 + (-1)))
    else
    (some l4))
theorem lUL_value_L8 (E : bz_E) (F : Nat) {K : bz_K} {rv : Option Value} {M1 : bz_Mm} (X : bz_X K E prog_7_method_3_code 5 "UnitsWrong$Laws" (some .int) 0 0 rv M1) {M : bz_Mm} {l1 : Int} {l2 : Int} {l3 : Int} {res : (Int)}
    (kx : ∀ (l4 : Int), some l4 = some res → bz_J K 5 30 [(4, bz_i l4), (0, bz_rf E 45), (1, bz_i l1), (3, bz_i l3)] [] M) :
    ∀ (n : Nat) (l4 : Int), UL_value_L8 F n M l1 l2 l3 l4 = some res → bz_J K 5 8 [(4, bz_i l4), (0, bz_rf E 45), (1, bz_i l1), (2, bz_i l2), (3, bz_i l3)] [] M := by
  intro n
  induction n with
  | zero => intro l4 hf; cases hf
  | succ n ih =>
    intro l4 hf
    rw [UL_value_L8] at hf
    refine j_iload X dUL_value_8 0 rfl ?_
    refine j_if_lt X (tgt := 30) rfl dUL_value_10 (by decide) hf (fun hf => ?_) (fun hf => ?_)
    · exact j_sub [0, 1, 2, 4] rfl (kx _ hf)
    · refine j_aload_n X dUL_value_13 rfl 1 rfl ?_
      refine j_geta X gf_UL_11_45 dUL_value_14 ?_
      refine j_iload X dUL_value_17 0 rfl ?_
      refine j_iald X sh_46 dUL_value_19 hf (fun x1 hf => ?_)
      refine j_iload_n X dUL_value_20 rfl 3 rfl ?_
      refine j_icmp_le X (tgt := 30) rfl rfl dUL_value_21 (by decide) hf (fun hf => ?_) (fun hf => ?_)
      · exact j_sub [0, 1, 2, 4] rfl (kx _ hf)
      · refine j_iinc X (y := l4 + (-1)) (lv' := [(4, bz_i (l4 + (-1))), (0, bz_rf E 45), (1, bz_i l1), (2, bz_i l2), (3, bz_i l3)]) dUL_value_24 0 rfl rfl (by decide) rfl ?_
        refine j_goto X (tgt := 8) dUL_value_27 (by decide) ?_
        exact ih _ hf
def fUL_value (F : Nat) (M : bz_Mm) (a1 : Int) (a2 : Int) (a3 : Int) : Option (Int) :=
  lt_ ((M 45 2) - 1) fun l4 =>
  cl1_ (UL_value_L8 F F M a1 a2 a3 l4) fun l4 =>
  if w32 l4 < 0 then
  (rw_ a3 fun x3 =>
  some x3)
  else
  (rd_ M 47 ((((l4 * 4) + a1) * 12) + a3) 288 fun x2 =>
  some x2)
set_option maxHeartbeats 4000000 in
set_option maxRecDepth 20000 in
theorem cUL_value (E : bz_E) (F : Nat)  {M : bz_Mm} {a1 : Int} {a2 : Int} {a3 : Int} {x0 : Int} (hf : fUL_value F M a1 a2 a3 = some x0) : bz_Ct E yUL_value (.code yUL_value prog_7_method_3_code 5 (some .int)) 0 0 [bz_rf E 45, bz_i a1, bz_i a2, bz_i a3] M (some (bz_i x0)) M := by
  refine bz_met (by decide +kernel) (Nat.le_of_ble_eq_true rfl) (fun K X => ?_)
  have X : bz_X K E prog_7_method_3_code 5 "UnitsWrong$Laws" (some .int) 0 0 _ _ := X
  unfold fUL_value at hf
  show bz_J K 5 0 [(0, bz_rf E 45), (1, bz_i a1), (2, bz_i a2), (3, bz_i a3)] [] M
  refine j_aload_n X dUL_value_0 rfl 0 rfl ?_
  refine j_geti X gf_UL_18_45 dUL_value_1 ?_
  refine j_iconst X dUL_value_4 ?_
  refine j_isub X dUL_value_5 ?_
  refine j_lt (g := bz_i) hf (fun l4 hf => ?_)
  refine j_istore X (lv' := [(4, bz_i l4), (0, bz_rf E 45), (1, bz_i a1), (2, bz_i a2), (3, bz_i a3)]) dUL_value_6 (by decide) rfl ?_
  obtain ⟨res4, hz4, hk4⟩ := q_l1 hf
  clear hf
  refine lUL_value_L8 E F X (fun l4 he => ?_) F l4 hz4
  have hf := hk4 _ he
  refine j_iload X dUL_value_30 0 rfl ?_
  refine j_if_ge X (tgt := 43) rfl dUL_value_32 (by decide) hf (fun hf => ?_) (fun hf => ?_)
  · refine j_aload_n X dUL_value_43 rfl 1 rfl ?_
    refine j_geta X gf_UL_15_45 dUL_value_44 ?_
    refine j_iload X dUL_value_47 0 rfl ?_
    refine j_iconst X dUL_value_49 ?_
    refine j_imul X dUL_value_50 ?_
    refine j_iload_n X dUL_value_51 rfl 2 rfl ?_
    refine j_iadd X dUL_value_52 ?_
    show bz_J _ _ 53 _ _ _
    refine j_bipush X dUL_value_53 rfl ?_
    refine j_imul X dUL_value_55 ?_
    refine j_iload_n X dUL_value_56 rfl 3 rfl ?_
    refine j_iadd X dUL_value_57 ?_
    refine j_iald X sh_47 dUL_value_58 hf (fun x2 hf => ?_)
    cases hf
    exact j_iret X dUL_value_59 rfl rfl
  · refine j_gets X wd_618 dUL_value_35 ?_
    refine j_iload_n X dUL_value_38 rfl 3 rfl ?_
    refine j_wald X dUL_value_39 hf (fun x3 hf => ?_)
    refine j_goto X (tgt := 59) dUL_value_40 (by decide) ?_
    cases hf
    exact j_iret X dUL_value_59 rfl rfl
def fUS_dealingDay (F : Nat) (M : bz_Mm) (a1 : Int) (a2 : Int) (a3 : Int) : Option (Int) :=
  cl1_ (if w32 (fUS_isHolder M a1) = 0 then
  (some (0))
  else
  (rd_ M 4 a1 16 fun x3 =>
  some (x3))) fun v2 =>
  cl_ (fUS_isOpen F M (M 1 13)) fun x4 =>
  if w32 x4 = 0 then
  (cl_ (fUS_openBehind F M (M 1 13)) fun x5 =>
  some x5)
  else
  (cl_ (fUL_value F M a2 (M 1 13) 3) fun x6 =>
  if w32 (a3 - v2) < w32 x6 then
  (some (M 1 13))
  else
  (cl_ (fUS_openBehind F M (M 1 13)) fun x7 =>
  some x7))
set_option maxHeartbeats 4000000 in
set_option maxRecDepth 20000 in
theorem cUS_dealingDay (E : bz_E) (F : Nat)  {M : bz_Mm} {a1 : Int} {a2 : Int} {a3 : Int} {x0 : Int} (hf : fUS_dealingDay F M a1 a2 a3 = some x0) : bz_Ct E yUS_dealingDay (.code yUS_dealingDay prog_9_method_8_code 5 (some .int)) 3 63 [bz_rf E 1, bz_i a1, bz_i a2, bz_i a3] M (some (bz_i x0)) M := by
  refine bz_met (by decide +kernel) (Nat.le_of_ble_eq_true rfl) (fun K X => ?_)
  have X : bz_X K E prog_9_method_8_code 5 "UnitsWrong$State" (some .int) 3 63 _ _ := X
  unfold fUS_dealingDay at hf
  show bz_J K 5 0 [(0, bz_rf E 1), (1, bz_i a1), (2, bz_i a2), (3, bz_i a3)] [] M
  refine j_aload_n X dUS_dealingDay_0 rfl 0 rfl ?_
  refine j_iload_n X dUS_dealingDay_1 rfl 1 rfl ?_
  refine j_cv X (st := []) (cUS_isHolder E) gyUS_isHolder gv_US_isHolder_1 rfl (by decide) (by decide) wd_605 rfl (Nat.le_of_ble_eq_true rfl) dUS_dealingDay_2 ?_
  obtain ⟨resJ1, hf0, hkJ1⟩ := q_l1 hf
  have J1 : ∀ (v2 : Int), some v2 = some resJ1 → bz_J K 5 18 [(0, bz_rf E 1), (2, bz_i a2), (3, bz_i a3)] [bz_i v2] M := by
    intro v2 he
    have hf := hkJ1 _ he
    refine j_istore X (lv' := [(4, bz_i v2), (0, bz_rf E 1), (2, bz_i a2), (3, bz_i a3)]) dUS_dealingDay_18 (by decide) rfl ?_
    refine j_aload_n X dUS_dealingDay_20 rfl 1 rfl ?_
    refine j_aload_n X dUS_dealingDay_21 rfl 1 rfl ?_
    refine j_geti X gf_US_97_1 dUS_dealingDay_22 ?_
    obtain ⟨x4, hzx4, hf⟩ := q_cl hf
    refine j_cv X (st := []) (cUS_isOpen E F hzx4) gyUS_isOpen gv_US_isOpen_1 rfl (by decide) (by decide) wd_613 rfl (Nat.le_of_ble_eq_true rfl) dUS_dealingDay_25 ?_
    refine j_if_eq X (tgt := 56) rfl dUS_dealingDay_28 (by decide) hf (fun hf => ?_) (fun hf => ?_)
    · refine j_aload_n X dUS_dealingDay_56 rfl 1 rfl ?_
      refine j_aload_n X dUS_dealingDay_57 rfl 1 rfl ?_
      refine j_geti X gf_US_97_1 dUS_dealingDay_58 ?_
      obtain ⟨x5, hzx5, hf⟩ := q_cl hf
      refine j_cv X (st := []) (cUS_openBehind E F hzx5) gyUS_openBehind gv_US_openBehind_1 rfl (by decide) (by decide) wd_620 rfl (Nat.le_of_ble_eq_true rfl) dUS_dealingDay_61 ?_
      cases hf
      exact j_iret X dUS_dealingDay_64 rfl rfl
    · refine j_iload_n X dUS_dealingDay_31 rfl 3 rfl ?_
      refine j_iload X dUS_dealingDay_32 0 rfl ?_
      refine j_isub X dUS_dealingDay_34 ?_
      refine j_aload_n X dUS_dealingDay_35 rfl 1 rfl ?_
      refine j_geta X gf_US_61_1 dUS_dealingDay_36 ?_
      refine j_iload_n X dUS_dealingDay_39 rfl 2 rfl ?_
      refine j_aload_n X dUS_dealingDay_40 rfl 1 rfl ?_
      show bz_J _ _ 41 _ _ _
      refine j_geti X gf_US_97_1 dUS_dealingDay_41 ?_
      refine j_iconst X dUS_dealingDay_44 ?_
      obtain ⟨x6, hzx6, hf⟩ := q_cl hf
      refine j_cv X (st := [bz_i (a3 - v2)]) (cUL_value E F hzx6) gyUL_value gv_UL_value_45 rfl (by decide) (by decide) wd_614 rfl (Nat.le_of_ble_eq_true rfl) dUS_dealingDay_45 ?_
      refine j_icmp_ge X (tgt := 56) rfl rfl dUS_dealingDay_48 (by decide) hf (fun hf => ?_) (fun hf => ?_)
      · refine j_aload_n X dUS_dealingDay_56 rfl 1 rfl ?_
        refine j_aload_n X dUS_dealingDay_57 rfl 1 rfl ?_
        refine j_geti X gf_US_97_1 dUS_dealingDay_58 ?_
        obtain ⟨x7, hzx7, hf⟩ := q_cl hf
        refine j_cv X (st := []) (cUS_openBehind E F hzx7) gyUS_openBehind gv_US_openBehind_1 rfl (by decide) (by decide) wd_620 rfl (Nat.le_of_ble_eq_true rfl) dUS_dealingDay_61 ?_
        cases hf
        exact j_iret X dUS_dealingDay_64 rfl rfl
      · refine j_aload_n X dUS_dealingDay_51 rfl 1 rfl ?_
        refine j_geti X gf_US_97_1 dUS_dealingDay_52 ?_
        cases hf
        exact j_iret X dUS_dealingDay_55 rfl rfl
  clear hf
  have hf := hf0
  clear hf0
  refine j_if_eq X (tgt := 17) rfl dUS_dealingDay_5 (by decide) hf (fun hf => ?_) (fun hf => ?_)
  · refine j_iconst X dUS_dealingDay_17 ?_
    exact j_sub [0, 2, 3] rfl (J1 _ hf)
  · refine j_aload_n X dUS_dealingDay_8 rfl 0 rfl ?_
    refine j_geta X gf_US_19_1 dUS_dealingDay_9 ?_
    refine j_iload_n X dUS_dealingDay_12 rfl 1 rfl ?_
    refine j_iald X sh_4 dUS_dealingDay_13 hf (fun x3 hf => ?_)
    refine j_goto X (tgt := 18) dUS_dealingDay_14 (by decide) ?_
    exact j_sub [0, 2, 3] rfl (J1 _ hf)
def UB_add_34_L21 (F : Nat) : Nat → Int → Int → Int → bz_Mm → Option (Int × bz_Mm)
  | 0, _, _, _, _ => none
  | n + 1, l2, l1, l3, M =>
    if 0 < w32 l3 then
    (rd_ M 36 (l3 - 1) 200 fun x1 =>
    rd_ M 35 x1 200 fun x2 =>
    if w32 l1 < w32 x2 then
    (rd_ M 36 (l3 - 1) 200 fun x3 =>
    wa_ M 36 l3 200 x3 fun m4 =>
    UB_add_34_L21 F n l2 l1 (l3 + (-1)) m4)
    else
    (some (l3, M)))
    else
    (some (l3, M))
theorem lUB_add_34_L21 (E : bz_E) (F : Nat) {K : bz_K} {rv : Option Value} {M1 : bz_Mm} (X : bz_X K E prog_3_method_2_code 4 "UnitsWrong$ByDay" (some .int) 0 0 rv M1) {l2 : Int} {l1 : Int} {res : (Int × bz_Mm)}
    (kx : ∀ (l3 : Int) (M : bz_Mm), some (l3, M) = some res → bz_J K 4 62 [(3, bz_i l3), (2, bz_i l2), (0, bz_rf E 34), (1, bz_i l1)] [] M) :
    ∀ (n : Nat) (l3 : Int) (M : bz_Mm), UB_add_34_L21 F n l2 l1 l3 M = some res → bz_J K 4 21 [(3, bz_i l3), (2, bz_i l2), (0, bz_rf E 34), (1, bz_i l1)] [] M := by
  intro n
  induction n with
  | zero => intro l3 M hf; cases hf
  | succ n ih =>
    intro l3 M hf
    rw [UB_add_34_L21] at hf
    refine j_iload_n X dUB_add_21 rfl 0 rfl ?_
    refine j_if_le X (tgt := 62) rfl dUB_add_22 (by decide) hf (fun hf => ?_) (fun hf => ?_)
    · exact kx _ _ hf
    · refine j_aload_n X dUB_add_25 rfl 2 rfl ?_
      refine j_geta X gf_UB_9_34 dUB_add_26 ?_
      refine j_aload_n X dUB_add_29 rfl 2 rfl ?_
      refine j_geta X gf_UB_15_34 dUB_add_30 ?_
      refine j_iload_n X dUB_add_33 rfl 0 rfl ?_
      refine j_iconst X dUB_add_34 ?_
      refine j_isub X dUB_add_35 ?_
      show bz_J _ _ 36 _ _ _
      refine j_iald X sh_36 dUB_add_36 hf (fun x1 hf => ?_)
      refine j_iald X sh_35 dUB_add_37 hf (fun x2 hf => ?_)
      refine j_iload_n X dUB_add_38 rfl 3 rfl ?_
      refine j_icmp_le X (tgt := 62) rfl rfl dUB_add_39 (by decide) hf (fun hf => ?_) (fun hf => ?_)
      · exact kx _ _ hf
      · refine j_aload_n X dUB_add_42 rfl 2 rfl ?_
        refine j_geta X gf_UB_15_34 dUB_add_43 ?_
        refine j_iload_n X dUB_add_46 rfl 0 rfl ?_
        refine j_aload_n X dUB_add_47 rfl 2 rfl ?_
        refine j_geta X gf_UB_15_34 dUB_add_48 ?_
        refine j_iload_n X dUB_add_51 rfl 0 rfl ?_
        refine j_iconst X dUB_add_52 ?_
        show bz_J _ _ 53 _ _ _
        refine j_isub X dUB_add_53 ?_
        refine j_iald X sh_36 dUB_add_54 hf (fun x3 hf => ?_)
        refine j_iast X sh_36 dUB_add_55 hf (fun m4 hf => ?_)
        refine j_iinc X (y := l3 + (-1)) (lv' := [(3, bz_i (l3 + (-1))), (2, bz_i l2), (0, bz_rf E 34), (1, bz_i l1)]) dUB_add_56 0 rfl rfl (by decide) rfl ?_
        refine j_goto X (tgt := 21) dUB_add_59 (by decide) ?_
        exact ih _ _ hf
def fUB_add_34 (F : Nat) (M : bz_Mm) (a1 : Int) : Option (Int × bz_Mm) :=
  if w32 (M 34 2) < 200 then
  (lt_ (M 34 2) fun l2 =>
  cl2_ (UB_add_34_L21 F F l2 a1 l2 M) fun l3 m5 =>
  wa_ m5 36 l3 200 l2 fun m6 =>
  wa_ m6 35 l2 200 a1 fun m7 =>
  wf_ m7 34 2 (l2 + 1) fun m8 =>
  some ((l2, m8)))
  else
  (some (((-1), M)))
set_option maxHeartbeats 4000000 in
set_option maxRecDepth 20000 in
theorem cUB_add_34 (E : bz_E) (F : Nat)  {M : bz_Mm} {a1 : Int} {x0 : Int × bz_Mm} (hf : fUB_add_34 F M a1 = some x0) : bz_Ct E yUB_add (.code yUB_add prog_3_method_2_code 4 (some .int)) 0 0 [bz_rf E 34, bz_i a1] M (some (bz_i x0.1)) x0.2 := by
  refine bz_met (by decide +kernel) (Nat.le_of_ble_eq_true rfl) (fun K X => ?_)
  have X : bz_X K E prog_3_method_2_code 4 "UnitsWrong$ByDay" (some .int) 0 0 _ _ := X
  unfold fUB_add_34 at hf
  show bz_J K 4 0 [(0, bz_rf E 34), (1, bz_i a1)] [] M
  refine j_aload_n X dUB_add_0 rfl 0 rfl ?_
  refine j_geti X gf_UB_18_34 dUB_add_1 ?_
  refine j_aload_n X dUB_add_4 rfl 0 rfl ?_
  refine j_geta X gf_UB_9_34 dUB_add_5 ?_
  refine j_alen X sh_35 (by decide) dUB_add_8 ?_
  refine j_icmp_lt X (tgt := 14) rfl (w32_lit rfl) dUB_add_9 (by decide) hf (fun hf => ?_) (fun hf => ?_)
  · refine j_aload_n X dUB_add_14 rfl 0 rfl ?_
    refine j_geti X gf_UB_18_34 dUB_add_15 ?_
    refine j_lt (g := bz_i) hf (fun l2 hf => ?_)
    refine j_istore_n X (lv' := [(2, bz_i l2), (0, bz_rf E 34), (1, bz_i a1)]) dUB_add_18 rfl (by decide) rfl ?_
    refine j_iload_n X dUB_add_19 rfl 0 rfl ?_
    refine j_istore_n X (lv' := [(3, bz_i l2), (2, bz_i l2), (0, bz_rf E 34), (1, bz_i a1)]) dUB_add_20 rfl (by decide) rfl ?_
    obtain ⟨res9, hz9, hk9⟩ := q_l2 hf
    clear hf
    refine lUB_add_34_L21 E F X (fun l3 m5 he => ?_) F l2 M hz9
    have hf := hk9 _ _ he
    refine j_aload_n X dUB_add_62 rfl 2 rfl ?_
    refine j_geta X gf_UB_15_34 dUB_add_63 ?_
    refine j_iload_n X dUB_add_66 rfl 0 rfl ?_
    refine j_iload_n X dUB_add_67 rfl 1 rfl ?_
    refine j_iast X sh_36 dUB_add_68 hf (fun m6 hf => ?_)
    refine j_aload_n X dUB_add_69 rfl 2 rfl ?_
    refine j_geta X gf_UB_9_34 dUB_add_70 ?_
    show bz_J _ _ 73 _ _ _
    refine j_iload_n X dUB_add_73 rfl 1 rfl ?_
    refine j_iload_n X dUB_add_74 rfl 3 rfl ?_
    refine j_iast X sh_35 dUB_add_75 hf (fun m7 hf => ?_)
    refine j_aload_n X dUB_add_76 rfl 2 rfl ?_
    refine j_iload_n X dUB_add_77 rfl 1 rfl ?_
    refine j_iconst X dUB_add_78 ?_
    refine j_iadd X dUB_add_79 ?_
    refine j_puti X pf_UB_18_34 dUB_add_80 hf (fun m8 hf => ?_)
    show bz_J _ _ 83 _ _ _
    refine j_iload_n X dUB_add_83 rfl 1 rfl ?_
    cases hf
    exact j_iret X dUB_add_84 rfl rfl
  · refine j_iconst X dUB_add_12 ?_
    cases hf
    exact j_iret X dUB_add_13 rfl rfl
def fUD_add (F : Nat) (M : bz_Mm) (a1 : Int) (a2 : Int) (a3 : Int) (a4 : Int) : Option (Int × bz_Mm) :=
  cl2_ (fUB_add_34 F M a4) fun x2 m1 =>
  if w32 x2 = (-1) then
  (some ((x2, m1)))
  else
  (wa_ m1 37 x2 200 a1 fun m3 =>
  wa_ m3 38 x2 200 a2 fun m4 =>
  wa_ m4 39 x2 200 a3 fun m5 =>
  some ((x2, m5)))
set_option maxHeartbeats 4000000 in
set_option maxRecDepth 20000 in
theorem cUD_add (E : bz_E) (F : Nat)  {M : bz_Mm} {a1 : Int} {a2 : Int} {a3 : Int} {a4 : Int} {x0 : Int × bz_Mm} (hf : fUD_add F M a1 a2 a3 a4 = some x0) : bz_Ct E yUD_add (.code yUD_add prog_6_method_2_code 6 (some .int)) 1 23 [bz_rf E 33, bz_i a1, bz_i a2, bz_i a3, bz_i a4] M (some (bz_i x0.1)) x0.2 := by
  refine bz_met (by decide +kernel) (Nat.le_of_ble_eq_true rfl) (fun K X => ?_)
  have X : bz_X K E prog_6_method_2_code 6 "UnitsWrong$Deals" (some .int) 1 23 _ _ := X
  unfold fUD_add at hf
  show bz_J K 6 0 [(0, bz_rf E 33), (1, bz_i a1), (2, bz_i a2), (3, bz_i a3), (4, bz_i a4)] [] M
  refine j_aload_n X dUD_add_0 rfl 0 rfl ?_
  refine j_geta X gf_UD_16_33 dUD_add_1 ?_
  refine j_iload X dUD_add_4 4 rfl ?_
  obtain ⟨x2, m1, hz, hf⟩ := q_cl2 hf
  refine j_cv X (st := []) (cUB_add_34 E F hz) gyUB_add gv_UB_add_34 rfl (by decide) (by decide) wd_628 rfl (Nat.le_of_ble_eq_true rfl) dUD_add_6 ?_
  clear hz
  refine j_istore X (lv' := [(5, bz_i x2), (0, bz_rf E 33), (1, bz_i a1), (2, bz_i a2), (3, bz_i a3), (4, bz_i a4)]) dUD_add_9 (by decide) rfl ?_
  refine j_iload X dUD_add_11 0 rfl ?_
  refine j_iconst X dUD_add_13 ?_
  show bz_J _ _ 14 _ _ _
  refine j_icmp_eq X (tgt := 41) rfl (w32_lit rfl) dUD_add_14 (by decide) hf (fun hf => ?_) (fun hf => ?_)
  · refine j_iload X dUD_add_41 0 rfl ?_
    cases hf
    exact j_iret X dUD_add_43 rfl rfl
  · refine j_aload_n X dUD_add_17 rfl 1 rfl ?_
    refine j_geta X gf_UD_20_33 dUD_add_18 ?_
    refine j_iload X dUD_add_21 0 rfl ?_
    refine j_iload_n X dUD_add_23 rfl 2 rfl ?_
    refine j_iast X sh_37 dUD_add_24 hf (fun m3 hf => ?_)
    refine j_aload_n X dUD_add_25 rfl 1 rfl ?_
    refine j_geta X gf_UD_24_33 dUD_add_26 ?_
    show bz_J _ _ 29 _ _ _
    refine j_iload X dUD_add_29 0 rfl ?_
    refine j_iload_n X dUD_add_31 rfl 3 rfl ?_
    refine j_iast X sh_38 dUD_add_32 hf (fun m4 hf => ?_)
    refine j_aload_n X dUD_add_33 rfl 1 rfl ?_
    refine j_geta X gf_UD_27_33 dUD_add_34 ?_
    refine j_iload X dUD_add_37 0 rfl ?_
    refine j_iload_n X dUD_add_39 rfl 4 rfl ?_
    refine j_iast X sh_39 dUD_add_40 hf (fun m5 hf => ?_)
    show bz_J _ _ 41 _ _ _
    refine j_iload X dUD_add_41 0 rfl ?_
    cases hf
    exact j_iret X dUD_add_43 rfl rfl
def fU_deal (F : Nat) (M : bz_Mm) (a1 : Int) (a2 : Int) (a3 : Int) (a4 : Int) : Option (Int × bz_Mm) :=
  if w32 (fUS_isWho M a1 a2) = 0 then
  (some (((-1), M)))
  else
  (if w32 a4 < 0 then
  (some (((-1), M)))
  else
  (if 23 < w32 a4 then
  (some (((-1), M)))
  else
  (if w32 a3 = 0 then
  (some (((-1), M)))
  else
  (if w32 (fU_isWithin a3 10000) = 0 then
  (some (((-1), M)))
  else
  (cl_ (fUS_dealingDay F M a1 a2 a4) fun x1 =>
  if w32 x1 = (-1) then
  (some (((-1), M)))
  else
  (cl2_ (fUD_add F M a1 a2 a3 x1) fun x3 m2 =>
  some ((x3, m2))))))))
set_option maxHeartbeats 4000000 in
set_option maxRecDepth 20000 in
theorem cU_deal (E : bz_E) (F : Nat)  {M : bz_Mm} {a1 : Int} {a2 : Int} {a3 : Int} {a4 : Int} {x0 : Int × bz_Mm} (hf : fU_deal F M a1 a2 a3 a4 = some x0) : bz_Ct E yU_deal (.code yU_deal prog_1_method_11_code 6 (some .int)) 4 87 [bz_rf E 0, bz_i a1, bz_i a2, bz_i a3, bz_i a4] M (some (bz_i x0.1)) x0.2 := by
  refine bz_met (by decide +kernel) (Nat.le_of_ble_eq_true rfl) (fun K X => ?_)
  have X : bz_X K E prog_1_method_11_code 6 "UnitsWrong" (some .int) 4 87 _ _ := X
  unfold fU_deal at hf
  show bz_J K 6 0 [(0, bz_rf E 0), (1, bz_i a1), (2, bz_i a2), (3, bz_i a3), (4, bz_i a4)] [] M
  refine j_aload_n X dU_deal_0 rfl 0 rfl ?_
  refine j_geta X gf_U_10_0 dU_deal_1 ?_
  refine j_iload_n X dU_deal_4 rfl 1 rfl ?_
  refine j_iload_n X dU_deal_5 rfl 2 rfl ?_
  refine j_cv X (st := []) (cUS_isWho E) gyUS_isWho gv_US_isWho_1 rfl (by decide) (by decide) wd_600 rfl (Nat.le_of_ble_eq_true rfl) dU_deal_6 ?_
  refine j_if_eq X (tgt := 38) rfl dU_deal_9 (by decide) hf (fun hf => ?_) (fun hf => ?_)
  · refine j_iconst X dU_deal_38 ?_
    cases hf
    exact j_iret X dU_deal_39 rfl rfl
  · refine j_iload X dU_deal_12 4 rfl ?_
    refine j_if_lt X (tgt := 38) rfl dU_deal_14 (by decide) hf (fun hf => ?_) (fun hf => ?_)
    · refine j_iconst X dU_deal_38 ?_
      cases hf
      exact j_iret X dU_deal_39 rfl rfl
    · refine j_iload X dU_deal_17 4 rfl ?_
      refine j_bipush X dU_deal_19 rfl ?_
      refine j_icmp_gt X (tgt := 38) rfl (w32_lit rfl) dU_deal_21 (by decide) hf (fun hf => ?_) (fun hf => ?_)
      · refine j_iconst X dU_deal_38 ?_
        cases hf
        exact j_iret X dU_deal_39 rfl rfl
      · refine j_iload_n X dU_deal_24 rfl 3 rfl ?_
        refine j_if_eq X (tgt := 38) rfl dU_deal_25 (by decide) hf (fun hf => ?_) (fun hf => ?_)
        · refine j_iconst X dU_deal_38 ?_
          cases hf
          exact j_iret X dU_deal_39 rfl rfl
        · refine j_iload_n X dU_deal_28 rfl 3 rfl ?_
          refine j_sipush X dU_deal_29 rfl ?_
          refine j_cs X (st := []) (cU_isWithin E) gyU_isWithin wd_589 rfl (by decide) (by decide) wd_588 rfl (Nat.le_of_ble_eq_true rfl) dU_deal_32 ?_
          refine j_if_ne X (tgt := 40) rfl dU_deal_35 (by decide) hf (fun hf => ?_) (fun hf => ?_)
          · refine j_aload_n X dU_deal_40 rfl 0 rfl ?_
            refine j_geta X gf_U_10_0 dU_deal_41 ?_
            refine j_iload_n X dU_deal_44 rfl 1 rfl ?_
            refine j_iload_n X dU_deal_45 rfl 2 rfl ?_
            refine j_iload X dU_deal_46 4 rfl ?_
            obtain ⟨x1, hzx1, hf⟩ := q_cl hf
            refine j_cv X (st := []) (cUS_dealingDay E F hzx1) gyUS_dealingDay gv_US_dealingDay_1 rfl (by decide) (by decide) wd_609 rfl (Nat.le_of_ble_eq_true rfl) dU_deal_48 ?_
            refine j_istore X (lv' := [(5, bz_i x1), (0, bz_rf E 0), (1, bz_i a1), (2, bz_i a2), (3, bz_i a3), (4, bz_i a4)]) dU_deal_51 (by decide) rfl ?_
            show bz_J _ _ 53 _ _ _
            refine j_iload X dU_deal_53 0 rfl ?_
            refine j_iconst X dU_deal_55 ?_
            refine j_icmp_ne X (tgt := 63) rfl (w32_lit rfl) dU_deal_56 (by decide) hf (fun hf => ?_) (fun hf => ?_)
            · refine j_aload_n X dU_deal_63 rfl 1 rfl ?_
              refine j_geta X gf_U_10_0 dU_deal_64 ?_
              refine j_geta X gf_U_155_1 dU_deal_67 ?_
              refine j_iload_n X dU_deal_70 rfl 2 rfl ?_
              refine j_iload_n X dU_deal_71 rfl 3 rfl ?_
              refine j_iload_n X dU_deal_72 rfl 4 rfl ?_
              refine j_iload X dU_deal_73 0 rfl ?_
              show bz_J _ _ 75 _ _ _
              obtain ⟨x3, m2, hz, hf⟩ := q_cl2 hf
              refine j_cv X (st := []) (cUD_add E F hz) gyUD_add gv_UD_add_33 rfl (by decide) (by decide) wd_624 rfl (Nat.le_of_ble_eq_true rfl) dU_deal_75 ?_
              clear hz
              cases hf
              exact j_iret X dU_deal_78 rfl rfl
            · refine j_iconst X dU_deal_59 ?_
              refine j_goto X (tgt := 78) dU_deal_60 (by decide) ?_
              cases hf
              exact j_iret X dU_deal_78 rfl rfl
          · refine j_iconst X dU_deal_38 ?_
            cases hf
            exact j_iret X dU_deal_39 rfl rfl
def UX_append_L3 (F : Nat) : Nat → Int → Int → bz_Mm → Option (bz_Mm)
  | 0, _, _, _ => none
  | n + 1, l1, l2, M =>
    if w32 l2 < 0 then
    (some M)
    else
    (if w32 (M 50 2) < 600 then
    (wa_ M 51 (M 50 2) 600 (ia_ (sr_ l1 l2) 255) fun m1 =>
    wf_ m1 50 2 ((m1 50 2) + 1) fun m2 =>
    UX_append_L3 F n l1 (l2 + (-8)) m2)
    else
    (some M))
theorem lUX_append_L3 (E : bz_E) (F : Nat) {K : bz_K} {rv : Option Value} {M1 : bz_Mm} (X : bz_X K E prog_11_method_2_code 3 "UnitsWrong$Text" none 0 0 rv M1) {l1 : Int} {res : (bz_Mm)}
    (kx : ∀ (M : bz_Mm), some M = some res → bz_J K 3 49 [] [] M) :
    ∀ (n : Nat) (l2 : Int) (M : bz_Mm), UX_append_L3 F n l1 l2 M = some res → bz_J K 3 3 [(2, bz_i l2), (0, bz_rf E 50), (1, bz_i l1)] [] M := by
  intro n
  induction n with
  | zero => intro l2 M hf; cases hf
  | succ n ih =>
    intro l2 M hf
    rw [UX_append_L3] at hf
    refine j_iload_n X dUX_append_3 rfl 0 rfl ?_
    refine j_if_lt X (tgt := 49) rfl dUX_append_4 (by decide) hf (fun hf => ?_) (fun hf => ?_)
    · exact j_sub [] rfl (kx _ hf)
    · refine j_aload_n X dUX_append_7 rfl 1 rfl ?_
      refine j_geti X gf_UX_18_50 dUX_append_8 ?_
      refine j_sipush X dUX_append_11 rfl ?_
      refine j_icmp_ge X (tgt := 49) rfl (w32_lit rfl) dUX_append_14 (by decide) hf (fun hf => ?_) (fun hf => ?_)
      · exact j_sub [] rfl (kx _ hf)
      · refine j_aload_n X dUX_append_17 rfl 1 rfl ?_
        refine j_geta X gf_UX_11_50 dUX_append_18 ?_
        refine j_aload_n X dUX_append_21 rfl 1 rfl ?_
        refine j_geti X gf_UX_18_50 dUX_append_22 ?_
        refine j_iload_n X dUX_append_25 rfl 2 rfl ?_
        refine j_iload_n X dUX_append_26 rfl 0 rfl ?_
        refine j_ishr X dUX_append_27 ?_
        show bz_J _ _ 28 _ _ _
        refine j_sipush X dUX_append_28 rfl ?_
        refine j_iand X dUX_append_31 ?_
        refine j_iast X sh_51 dUX_append_32 hf (fun m1 hf => ?_)
        refine j_aload_n X dUX_append_33 rfl 1 rfl ?_
        refine j_dup X dUX_append_34 rfl ?_
        refine j_geti X gf_UX_18_50 dUX_append_35 ?_
        refine j_iconst X dUX_append_38 ?_
        refine j_iadd X dUX_append_39 ?_
        show bz_J _ _ 40 _ _ _
        refine j_puti X pf_UX_18_50 dUX_append_40 hf (fun m2 hf => ?_)
        refine j_iinc X (y := l2 + (-8)) (lv' := [(2, bz_i (l2 + (-8))), (0, bz_rf E 50), (1, bz_i l1)]) dUX_append_43 0 rfl rfl (by decide) rfl ?_
        refine j_goto X (tgt := 3) dUX_append_46 (by decide) ?_
        exact ih _ _ hf
def fUX_append (F : Nat) (M : bz_Mm) (a1 : Int) : Option (bz_Mm) :=
  cl1_ (UX_append_L3 F F a1 24 M) fun m3 =>
  some m3
set_option maxHeartbeats 4000000 in
set_option maxRecDepth 20000 in
theorem cUX_append (E : bz_E) (F : Nat)  {M : bz_Mm} {a1 : Int} {x0 : bz_Mm} (hf : fUX_append F M a1 = some x0) : bz_Ct E yUX_append (.code yUX_append prog_11_method_2_code 3 none) 0 0 [bz_rf E 50, bz_i a1] M (none) x0 := by
  refine bz_met (by decide +kernel) (Nat.le_of_ble_eq_true rfl) (fun K X => ?_)
  have X : bz_X K E prog_11_method_2_code 3 "UnitsWrong$Text" none 0 0 _ _ := X
  unfold fUX_append at hf
  show bz_J K 3 0 [(0, bz_rf E 50), (1, bz_i a1)] [] M
  refine j_bipush X dUX_append_0 rfl ?_
  refine j_istore_n X (lv' := [(2, bz_i 24), (0, bz_rf E 50), (1, bz_i a1)]) dUX_append_2 rfl (by decide) rfl ?_
  obtain ⟨res4, hz4, hk4⟩ := q_l1 hf
  clear hf
  refine lUX_append_L3 E F X (fun m3 he => ?_) F 24 M hz4
  have hf := hk4 _ he
  cases hf
  exact j_vret X dUX_append_49 rfl rfl
def fU_feed (F : Nat) (M : bz_Mm) (a1 : Int) (a2 : Int) (a3 : Int) (a4 : Int) (a5 : Int) : Option (Int × bz_Mm) :=
  if 600 < w32 ((M 50 2) + 20) then
  (some (((-1), M)))
  else
  (cl_ (fUX_append F M a1) fun m1 =>
  cl_ (fUX_append F m1 a2) fun m2 =>
  cl_ (fUX_append F m2 a3) fun m3 =>
  cl_ (fUX_append F m3 a4) fun m4 =>
  cl_ (fUX_append F m4 a5) fun m5 =>
  some ((m5 50 2, m5)))
set_option maxHeartbeats 4000000 in
set_option maxRecDepth 20000 in
theorem cU_feed (E : bz_E) (F : Nat)  {M : bz_Mm} {a1 : Int} {a2 : Int} {a3 : Int} {a4 : Int} {a5 : Int} {x0 : Int × bz_Mm} (hf : fU_feed F M a1 a2 a3 a4 a5 = some x0) : bz_Ct E yU_feed (.code yU_feed prog_1_method_12_code 6 (some .int)) 1 22 [bz_rf E 0, bz_i a1, bz_i a2, bz_i a3, bz_i a4, bz_i a5] M (some (bz_i x0.1)) x0.2 := by
  refine bz_met (by decide +kernel) (Nat.le_of_ble_eq_true rfl) (fun K X => ?_)
  have X : bz_X K E prog_1_method_12_code 6 "UnitsWrong" (some .int) 1 22 _ _ := X
  unfold fU_feed at hf
  show bz_J K 6 0 [(0, bz_rf E 0), (1, bz_i a1), (2, bz_i a2), (3, bz_i a3), (4, bz_i a4), (5, bz_i a5)] [] M
  refine j_aload_n X dU_feed_0 rfl 0 rfl ?_
  refine j_geta X gf_U_19_0 dU_feed_1 ?_
  refine j_geti X gf_U_162_50 dU_feed_4 ?_
  refine j_bipush X dU_feed_7 rfl ?_
  refine j_iadd X dU_feed_9 ?_
  refine j_sipush X dU_feed_10 rfl ?_
  refine j_icmp_le X (tgt := 18) rfl (w32_lit rfl) dU_feed_13 (by decide) hf (fun hf => ?_) (fun hf => ?_)
  · refine j_aload_n X dU_feed_18 rfl 0 rfl ?_
    refine j_geta X gf_U_19_0 dU_feed_19 ?_
    refine j_iload_n X dU_feed_22 rfl 1 rfl ?_
    obtain ⟨m1, hz, hf⟩ := q_cl hf
    refine j_cv X (st := []) (cUX_append E F hz) gyUX_append gv_UX_append_50 rfl (by decide) (by decide) wd_633 rfl (Nat.le_of_ble_eq_true rfl) dU_feed_23 ?_
    clear hz
    refine j_aload_n X dU_feed_26 rfl 0 rfl ?_
    refine j_geta X gf_U_19_0 dU_feed_27 ?_
    refine j_iload_n X dU_feed_30 rfl 2 rfl ?_
    show bz_J _ _ 31 _ _ _
    obtain ⟨m2, hz, hf⟩ := q_cl hf
    refine j_cv X (st := []) (cUX_append E F hz) gyUX_append gv_UX_append_50 rfl (by decide) (by decide) wd_633 rfl (Nat.le_of_ble_eq_true rfl) dU_feed_31 ?_
    clear hz
    refine j_aload_n X dU_feed_34 rfl 0 rfl ?_
    refine j_geta X gf_U_19_0 dU_feed_35 ?_
    refine j_iload_n X dU_feed_38 rfl 3 rfl ?_
    obtain ⟨m3, hz, hf⟩ := q_cl hf
    refine j_cv X (st := []) (cUX_append E F hz) gyUX_append gv_UX_append_50 rfl (by decide) (by decide) wd_633 rfl (Nat.le_of_ble_eq_true rfl) dU_feed_39 ?_
    clear hz
    refine j_aload_n X dU_feed_42 rfl 0 rfl ?_
    refine j_geta X gf_U_19_0 dU_feed_43 ?_
    refine j_iload X dU_feed_46 4 rfl ?_
    show bz_J _ _ 48 _ _ _
    obtain ⟨m4, hz, hf⟩ := q_cl hf
    refine j_cv X (st := []) (cUX_append E F hz) gyUX_append gv_UX_append_50 rfl (by decide) (by decide) wd_633 rfl (Nat.le_of_ble_eq_true rfl) dU_feed_48 ?_
    clear hz
    refine j_aload_n X dU_feed_51 rfl 0 rfl ?_
    refine j_geta X gf_U_19_0 dU_feed_52 ?_
    refine j_iload X dU_feed_55 5 rfl ?_
    obtain ⟨m5, hz, hf⟩ := q_cl hf
    refine j_cv X (st := []) (cUX_append E F hz) gyUX_append gv_UX_append_50 rfl (by decide) (by decide) wd_633 rfl (Nat.le_of_ble_eq_true rfl) dU_feed_57 ?_
    clear hz
    refine j_aload_n X dU_feed_60 rfl 0 rfl ?_
    refine j_geta X gf_U_19_0 dU_feed_61 ?_
    refine j_geti X gf_U_162_50 dU_feed_64 ?_
    show bz_J _ _ 67 _ _ _
    cases hf
    exact j_iret X dU_feed_67 rfl rfl
  · refine j_iconst X dU_feed_16 ?_
    cases hf
    exact j_iret X dU_feed_17 rfl rfl
def fU_end (F : Nat) (M : bz_Mm) (a1 : Int) : Option (Int × bz_Mm) :=
  if w32 a1 < 0 then
  (some ((0, M)))
  else
  (if w32 (M 50 2) < w32 a1 then
  (some ((0, M)))
  else
  (wf_ M 50 2 a1 fun m1 =>
  some ((1, m1))))
set_option maxHeartbeats 4000000 in
set_option maxRecDepth 20000 in
theorem cU_end (E : bz_E) (F : Nat)  {M : bz_Mm} {a1 : Int} {x0 : Int × bz_Mm} (hf : fU_end F M a1 = some x0) : bz_Ct E yU_end (.code yU_end prog_1_method_13_code 2 (some .boolean)) 0 0 [bz_rf E 0, bz_i a1] M (some (bz_i x0.1)) x0.2 := by
  refine bz_met (by decide +kernel) (Nat.le_of_ble_eq_true rfl) (fun K X => ?_)
  have X : bz_X K E prog_1_method_13_code 2 "UnitsWrong" (some .boolean) 0 0 _ _ := X
  unfold fU_end at hf
  show bz_J K 2 0 [(0, bz_rf E 0), (1, bz_i a1)] [] M
  refine j_iload_n X dU_end_0 rfl 1 rfl ?_
  refine j_if_lt X (tgt := 15) rfl dU_end_1 (by decide) hf (fun hf => ?_) (fun hf => ?_)
  · refine j_iconst X dU_end_15 ?_
    cases hf
    exact j_zret X (by decide +kernel) dU_end_16 rfl rfl
  · refine j_iload_n X dU_end_4 rfl 1 rfl ?_
    refine j_aload_n X dU_end_5 rfl 0 rfl ?_
    refine j_geta X gf_U_19_0 dU_end_6 ?_
    refine j_geti X gf_U_162_50 dU_end_9 ?_
    refine j_icmp_le X (tgt := 17) rfl rfl dU_end_12 (by decide) hf (fun hf => ?_) (fun hf => ?_)
    · refine j_aload_n X dU_end_17 rfl 0 rfl ?_
      refine j_geta X gf_U_19_0 dU_end_18 ?_
      refine j_iload_n X dU_end_21 rfl 1 rfl ?_
      refine j_puti X pf_U_162_50 dU_end_22 hf (fun m1 hf => ?_)
      refine j_iconst X dU_end_25 ?_
      cases hf
      exact j_zret X (by decide +kernel) dU_end_26 rfl rfl
    · refine j_iconst X dU_end_15 ?_
      cases hf
      exact j_zret X (by decide +kernel) dU_end_16 rfl rfl
def JA_fill1_L5 (F : Nat) : Nat → Nat → Nat → Int → Int → Int → bz_Mm → Option (bz_Mm)
  | 0, _, _, _, _, _, _ => none
  | n + 1, r0, n0, l3, l1, l2, M =>
    if w32 l2 < w32 l3 then
    (wa_ M r0 l2 n0 l1 fun m1 =>
    JA_fill1_L5 F n r0 n0 l3 l1 (l2 + 1) m1)
    else
    (some M)
theorem lJA_fill1_L5 (E : bz_E) (F : Nat) {K : bz_K} {rv : Option Value} {M1 : bz_Mm} (X : bz_X K E prog_21_method_103_code 4 "java/util/Arrays" none 0 0 rv M1) {r0 : Nat} {n0 : Nat} {l3 : Int} {l1 : Int} (hr0 : bz_shl[r0]? = some (.inl (0, n0, 0))) {res : (bz_Mm)}
    (kx : ∀ (M : bz_Mm), some M = some res → bz_J K 4 20 [] [] M) :
    ∀ (n : Nat) (l2 : Int) (M : bz_Mm), JA_fill1_L5 F n r0 n0 l3 l1 l2 M = some res → bz_J K 4 5 [(3, bz_i l3), (2, bz_i l2), (0, bz_rf E r0), (1, bz_i l1)] [] M := by
  intro n
  induction n with
  | zero => intro l2 M hf; cases hf
  | succ n ih =>
    intro l2 M hf
    rw [JA_fill1_L5] at hf
    refine j_iload_n X dJA_fill1_5 rfl 1 rfl ?_
    refine j_iload_n X dJA_fill1_6 rfl 0 rfl ?_
    refine j_icmp_ge X (tgt := 20) rfl rfl dJA_fill1_7 (by decide) hf (fun hf => ?_) (fun hf => ?_)
    · exact j_sub [] rfl (kx _ hf)
    · refine j_aload_n X dJA_fill1_10 rfl 2 rfl ?_
      refine j_iload_n X dJA_fill1_11 rfl 1 rfl ?_
      refine j_iload_n X dJA_fill1_12 rfl 3 rfl ?_
      refine j_iast X hr0 dJA_fill1_13 hf (fun m1 hf => ?_)
      refine j_iinc X (y := l2 + 1) (lv' := [(2, bz_i (l2 + 1)), (3, bz_i l3), (0, bz_rf E r0), (1, bz_i l1)]) dJA_fill1_14 1 rfl rfl (by decide) rfl ?_
      refine j_goto X (tgt := 5) dJA_fill1_17 (by decide) ?_
      exact j_sub [1, 0, 2, 3] rfl (ih _ _ hf)
def fJA_fill1 (F : Nat) (M : bz_Mm) (r0 : Nat) (n0 : Nat) (a1 : Int) : Option (bz_Mm) :=
  cl1_ (JA_fill1_L5 F F r0 n0 n0 a1 0 M) fun m2 =>
  some m2
set_option maxHeartbeats 4000000 in
set_option maxRecDepth 20000 in
theorem cJA_fill1 (E : bz_E) (F : Nat)  {M : bz_Mm} {r0 : Nat} {n0 : Nat} {a1 : Int} {x0 : bz_Mm} (hr0 : bz_shl[r0]? = some (.inl (0, n0, 0))) (hf : fJA_fill1 F M r0 n0 a1 = some x0) : bz_Ct E yJA_fill1 (.code yJA_fill1 prog_21_method_103_code 4 none) 0 0 [bz_rf E r0, bz_i a1] M (none) x0 := by
  refine bz_metF (by decide +kernel) (Nat.le_of_ble_eq_true rfl) (fun K X => ?_)
  have X : bz_X K E prog_21_method_103_code 4 "java/util/Arrays" none 0 0 _ _ := X
  unfold fJA_fill1 at hf
  show bz_J K 4 0 [(0, bz_rf E r0), (1, bz_i a1)] [] M
  refine j_iconst X dJA_fill1_0 ?_
  refine j_istore_n X (lv' := [(2, bz_i 0), (0, bz_rf E r0), (1, bz_i a1)]) dJA_fill1_1 rfl (by decide) rfl ?_
  refine j_aload_n X dJA_fill1_2 rfl 1 rfl ?_
  refine j_alen X hr0 (by decide) dJA_fill1_3 ?_
  refine j_istore_n X (lv' := [(3, bz_i n0), (2, bz_i 0), (0, bz_rf E r0), (1, bz_i a1)]) dJA_fill1_4 rfl (by decide) rfl ?_
  obtain ⟨res3, hz3, hk3⟩ := q_l1 hf
  clear hf
  refine lJA_fill1_L5 E F X hr0 (fun m2 he => ?_) F 0 M hz3
  have hf := hk3 _ he
  cases hf
  exact j_vret X dJA_fill1_20 rfl rfl
def fUX_kindAt (F : Nat) (M : bz_Mm) (a1 : Int) : Option (Int) :=
  if w32 a1 < w32 (M 50 2) then
  (rd_ M 51 a1 600 fun x1 =>
  if w32 x1 = 10 then
  (some 0)
  else
  (rd_ M 51 a1 600 fun x2 =>
  if w32 x2 < 97 then
  (if w32 x2 < 48 then
  (if w32 x2 = 58 then
  (some 3)
  else
  (some 4))
  else
  (if 57 < w32 x2 then
  (if w32 x2 = 58 then
  (some 3)
  else
  (some 4))
  else
  (some 2)))
  else
  (if 122 < w32 x2 then
  (if w32 x2 < 48 then
  (if w32 x2 = 58 then
  (some 3)
  else
  (some 4))
  else
  (if 57 < w32 x2 then
  (if w32 x2 = 58 then
  (some 3)
  else
  (some 4))
  else
  (some 2)))
  else
  (some 1))))
  else
  (some 0)
set_option maxHeartbeats 4000000 in
set_option maxRecDepth 20000 in
theorem cUX_kindAt (E : bz_E) (F : Nat)  {M : bz_Mm} {a1 : Int} {x0 : Int} (hf : fUX_kindAt F M a1 = some x0) : bz_Ct E yUX_kindAt (.code yUX_kindAt prog_11_method_12_code 3 (some .int)) 0 0 [bz_rf E 50, bz_i a1] M (some (bz_i x0)) M := by
  refine bz_met (by decide +kernel) (Nat.le_of_ble_eq_true rfl) (fun K X => ?_)
  have X : bz_X K E prog_11_method_12_code 3 "UnitsWrong$Text" (some .int) 0 0 _ _ := X
  unfold fUX_kindAt at hf
  show bz_J K 3 0 [(0, bz_rf E 50), (1, bz_i a1)] [] M
  refine j_iload_n X dUX_kindAt_0 rfl 1 rfl ?_
  refine j_aload_n X dUX_kindAt_1 rfl 0 rfl ?_
  refine j_geti X gf_UX_18_50 dUX_kindAt_2 ?_
  refine j_icmp_ge X (tgt := 19) rfl rfl dUX_kindAt_5 (by decide) hf (fun hf => ?_) (fun hf => ?_)
  · refine j_iconst X dUX_kindAt_19 ?_
    cases hf
    exact j_iret X dUX_kindAt_20 rfl rfl
  · refine j_aload_n X dUX_kindAt_8 rfl 0 rfl ?_
    refine j_geta X gf_UX_11_50 dUX_kindAt_9 ?_
    refine j_iload_n X dUX_kindAt_12 rfl 1 rfl ?_
    refine j_iald X sh_51 dUX_kindAt_13 hf (fun x1 hf => ?_)
    refine j_bipush X dUX_kindAt_14 rfl ?_
    refine j_icmp_ne X (tgt := 21) rfl (w32_lit rfl) dUX_kindAt_16 (by decide) hf (fun hf => ?_) (fun hf => ?_)
    · refine j_aload_n X dUX_kindAt_21 rfl 0 rfl ?_
      refine j_geta X gf_UX_11_50 dUX_kindAt_22 ?_
      refine j_iload_n X dUX_kindAt_25 rfl 1 rfl ?_
      refine j_iald X sh_51 dUX_kindAt_26 hf (fun x2 hf => ?_)
      refine j_istore_n X (lv' := [(2, bz_i x2), (0, bz_rf E 50), (1, bz_i a1)]) dUX_kindAt_27 rfl (by decide) rfl ?_
      refine j_iload_n X dUX_kindAt_28 rfl 0 rfl ?_
      refine j_bipush X dUX_kindAt_29 rfl ?_
      show bz_J _ _ 31 _ _ _
      refine j_icmp_lt X (tgt := 42) rfl (w32_lit rfl) dUX_kindAt_31 (by decide) hf (fun hf => ?_) (fun hf => ?_)
      · refine j_iload_n X dUX_kindAt_42 rfl 0 rfl ?_
        refine j_bipush X dUX_kindAt_43 rfl ?_
        refine j_icmp_lt X (tgt := 56) rfl (w32_lit rfl) dUX_kindAt_45 (by decide) hf (fun hf => ?_) (fun hf => ?_)
        · refine j_iload_n X dUX_kindAt_56 rfl 0 rfl ?_
          refine j_bipush X dUX_kindAt_57 rfl ?_
          refine j_icmp_ne X (tgt := 66) rfl (w32_lit rfl) dUX_kindAt_59 (by decide) hf (fun hf => ?_) (fun hf => ?_)
          · refine j_iconst X dUX_kindAt_66 ?_
            cases hf
            exact j_iret X dUX_kindAt_67 rfl rfl
          · refine j_iconst X dUX_kindAt_62 ?_
            refine j_goto X (tgt := 67) dUX_kindAt_63 (by decide) ?_
            cases hf
            exact j_iret X dUX_kindAt_67 rfl rfl
        · refine j_iload_n X dUX_kindAt_48 rfl 0 rfl ?_
          refine j_bipush X dUX_kindAt_49 rfl ?_
          refine j_icmp_gt X (tgt := 56) rfl (w32_lit rfl) dUX_kindAt_51 (by decide) hf (fun hf => ?_) (fun hf => ?_)
          · refine j_iload_n X dUX_kindAt_56 rfl 0 rfl ?_
            refine j_bipush X dUX_kindAt_57 rfl ?_
            refine j_icmp_ne X (tgt := 66) rfl (w32_lit rfl) dUX_kindAt_59 (by decide) hf (fun hf => ?_) (fun hf => ?_)
            · refine j_iconst X dUX_kindAt_66 ?_
              cases hf
              exact j_iret X dUX_kindAt_67 rfl rfl
            · refine j_iconst X dUX_kindAt_62 ?_
              refine j_goto X (tgt := 67) dUX_kindAt_63 (by decide) ?_
              cases hf
              exact j_iret X dUX_kindAt_67 rfl rfl
          · refine j_iconst X dUX_kindAt_54 ?_
            cases hf
            exact j_iret X dUX_kindAt_55 rfl rfl
      · refine j_iload_n X dUX_kindAt_34 rfl 0 rfl ?_
        refine j_bipush X dUX_kindAt_35 rfl ?_
        refine j_icmp_gt X (tgt := 42) rfl (w32_lit rfl) dUX_kindAt_37 (by decide) hf (fun hf => ?_) (fun hf => ?_)
        · refine j_iload_n X dUX_kindAt_42 rfl 0 rfl ?_
          refine j_bipush X dUX_kindAt_43 rfl ?_
          refine j_icmp_lt X (tgt := 56) rfl (w32_lit rfl) dUX_kindAt_45 (by decide) hf (fun hf => ?_) (fun hf => ?_)
          · refine j_iload_n X dUX_kindAt_56 rfl 0 rfl ?_
            refine j_bipush X dUX_kindAt_57 rfl ?_
            refine j_icmp_ne X (tgt := 66) rfl (w32_lit rfl) dUX_kindAt_59 (by decide) hf (fun hf => ?_) (fun hf => ?_)
            · refine j_iconst X dUX_kindAt_66 ?_
              cases hf
              exact j_iret X dUX_kindAt_67 rfl rfl
            · refine j_iconst X dUX_kindAt_62 ?_
              refine j_goto X (tgt := 67) dUX_kindAt_63 (by decide) ?_
              cases hf
              exact j_iret X dUX_kindAt_67 rfl rfl
          · refine j_iload_n X dUX_kindAt_48 rfl 0 rfl ?_
            refine j_bipush X dUX_kindAt_49 rfl ?_
            refine j_icmp_gt X (tgt := 56) rfl (w32_lit rfl) dUX_kindAt_51 (by decide) hf (fun hf => ?_) (fun hf => ?_)
            · refine j_iload_n X dUX_kindAt_56 rfl 0 rfl ?_
              refine j_bipush X dUX_kindAt_57 rfl ?_
              refine j_icmp_ne X (tgt := 66) rfl (w32_lit rfl) dUX_kindAt_59 (by decide) hf (fun hf => ?_) (fun hf => ?_)
              · refine j_iconst X dUX_kindAt_66 ?_
                cases hf
                exact j_iret X dUX_kindAt_67 rfl rfl
              · refine j_iconst X dUX_kindAt_62 ?_
                refine j_goto X (tgt := 67) dUX_kindAt_63 (by decide) ?_
                cases hf
                exact j_iret X dUX_kindAt_67 rfl rfl
            · refine j_iconst X dUX_kindAt_54 ?_
              cases hf
              exact j_iret X dUX_kindAt_55 rfl rfl
        · refine j_iconst X dUX_kindAt_40 ?_
          cases hf
          exact j_iret X dUX_kindAt_41 rfl rfl
    · refine j_iconst X dUX_kindAt_19 ?_
      cases hf
      exact j_iret X dUX_kindAt_20 rfl rfl
def gJM_min0 (a0 : Int) (a1 : Int) : Option Int :=
  if w32 a1 < w32 a0 then
  (some a1)
  else
  (some a0)
def fJM_min0 (a0 : Int) (a1 : Int) : Int :=
  if w32 a1 < w32 a0 then
  (a1)
  else
  (a0)
theorem tJM_min0 (a0 : Int) (a1 : Int) : gJM_min0 a0 a1 = some (fJM_min0 a0 a1) := by
  unfold gJM_min0 fJM_min0
  (repeat' (first | rfl | split))
set_option maxHeartbeats 4000000 in
set_option maxRecDepth 20000 in
theorem cJM_min0 (E : bz_E) {M : bz_Mm} {a0 : Int} {a1 : Int} : bz_Ct E yJM_min0 (.code yJM_min0 prog_16_method_69_code 2 (some .int)) 0 0 [bz_i a0, bz_i a1] M (some (bz_i (fJM_min0 a0 a1))) M := by
  have hf := tJM_min0 a0 a1
  refine bz_metF (by decide +kernel) (Nat.le_of_ble_eq_true rfl) (fun K X => ?_)
  have X : bz_X K E prog_16_method_69_code 2 "java/lang/Math" (some .int) 0 0 _ _ := X
  unfold gJM_min0 at hf
  generalize fJM_min0 a0 a1 = rr at hf X
  show bz_J K 2 0 [(0, bz_i a0), (1, bz_i a1)] [] M
  refine j_iload_n X dJM_min0_0 rfl 0 rfl ?_
  refine j_iload_n X dJM_min0_1 rfl 1 rfl ?_
  refine j_icmp_gt X (tgt := 9) rfl rfl dJM_min0_2 (by decide) hf (fun hf => ?_) (fun hf => ?_)
  · refine j_iload_n X dJM_min0_9 rfl 1 rfl ?_
    cases hf
    exact j_iret X dJM_min0_10 rfl rfl
  · refine j_iload_n X dJM_min0_5 rfl 0 rfl ?_
    refine j_goto X (tgt := 10) dJM_min0_6 (by decide) ?_
    cases hf
    exact j_iret X dJM_min0_10 rfl rfl
def UX_next_L5 (F : Nat) : Nat → bz_Mm → Int → Option (Int)
  | 0, _, _ => none
  | n + 1, M, l1 =>
    if w32 l1 < w32 (M 50 2) then
    (rd_ M 51 l1 600 fun x1 =>
    if w32 x1 = 32 then
    (UX_next_L5 F n M (l1 + 1))
    else
    (some l1))
    else
    (some l1)
def UX_next_L76 (F : Nat) : Nat → Int → bz_Mm → Option (Int × bz_Mm)
  | 0, _, _ => none
  | n + 1, l1, M =>
    if w32 l1 < w32 (M 50 2) then
    (cl_ (fUX_kindAt F M l1) fun x8 =>
    if w32 x8 = w32 (M 50 3) then
    (if w32 (M 50 3) = 2 then
    (rd_ M 51 l1 600 fun x9 =>
    wf_ M 50 6 (fJM_min0 ((((M 50 6) * 10) + x9) - 48) 1000000) fun m10 =>
    UX_next_L76 F n (l1 + 1) m10)
    else
    (UX_next_L76 F n (l1 + 1) M))
    else
    (some (l1, M)))
    else
    (some (l1, M))
def UX_next_L76a (F : Nat) : Nat → Int → bz_Mm → Option (Int × bz_Mm)
  | 0, _, _ => none
  | n + 1, l1, M =>
    if w32 l1 < w32 (M 50 2) then
    (cl_ (fUX_kindAt F M l1) fun x13 =>
    if w32 x13 = w32 (M 50 3) then
    (if w32 (M 50 3) = 2 then
    (rd_ M 51 l1 600 fun x14 =>
    wf_ M 50 6 (fJM_min0 ((((M 50 6) * 10) + x14) - 48) 1000000) fun m15 =>
    UX_next_L76a F n (l1 + 1) m15)
    else
    (UX_next_L76a F n (l1 + 1) M))
    else
    (some (l1, M)))
    else
    (some (l1, M))
theorem lUX_next_L5 (E : bz_E) (F : Nat) {K : bz_K} {rv : Option Value} {M1 : bz_Mm} (X : bz_X K E prog_11_method_11_code 2 "UnitsWrong$Text" none 1 22 rv M1) {M : bz_Mm} {res : (Int)}
    (kx : ∀ (l1 : Int), some l1 = some res → bz_J K 2 30 [(1, bz_i l1), (0, bz_rf E 50)] [] M) :
    ∀ (n : Nat) (l1 : Int), UX_next_L5 F n M l1 = some res → bz_J K 2 5 [(1, bz_i l1), (0, bz_rf E 50)] [] M := by
  intro n
  induction n with
  | zero => intro l1 hf; cases hf
  | succ n ih =>
    intro l1 hf
    rw [UX_next_L5] at hf
    refine j_iload_n X dUX_next_5 rfl 0 rfl ?_
    refine j_aload_n X dUX_next_6 rfl 1 rfl ?_
    refine j_geti X gf_UX_18_50 dUX_next_7 ?_
    refine j_icmp_ge X (tgt := 30) rfl rfl dUX_next_10 (by decide) hf (fun hf => ?_) (fun hf => ?_)
    · exact kx _ hf
    · refine j_aload_n X dUX_next_13 rfl 1 rfl ?_
      refine j_geta X gf_UX_11_50 dUX_next_14 ?_
      refine j_iload_n X dUX_next_17 rfl 0 rfl ?_
      refine j_iald X sh_51 dUX_next_18 hf (fun x1 hf => ?_)
      refine j_bipush X dUX_next_19 rfl ?_
      refine j_icmp_ne X (tgt := 30) rfl (w32_lit rfl) dUX_next_21 (by decide) hf (fun hf => ?_) (fun hf => ?_)
      · exact kx _ hf
      · refine j_iinc X (y := l1 + 1) (lv' := [(1, bz_i (l1 + 1)), (0, bz_rf E 50)]) dUX_next_24 0 rfl rfl (by decide) rfl ?_
        refine j_goto X (tgt := 5) dUX_next_27 (by decide) ?_
        exact ih _ hf
theorem lUX_next_L76 (E : bz_E) (F : Nat) {K : bz_K} {rv : Option Value} {M1 : bz_Mm} (X : bz_X K E prog_11_method_11_code 2 "UnitsWrong$Text" none 1 22 rv M1) {res : (Int × bz_Mm)}
    (kx : ∀ (l1 : Int) (M : bz_Mm), some (l1, M) = some res → bz_J K 2 136 [(1, bz_i l1), (0, bz_rf E 50)] [] M) :
    ∀ (n : Nat) (l1 : Int) (M : bz_Mm), UX_next_L76 F n l1 M = some res → bz_J K 2 76 [(1, bz_i l1), (0, bz_rf E 50)] [] M := by
  intro n
  induction n with
  | zero => intro l1 M hf; cases hf
  | succ n ih =>
    intro l1 M hf
    rw [UX_next_L76] at hf
    refine j_iload_n X dUX_next_76 rfl 0 rfl ?_
    refine j_aload_n X dUX_next_77 rfl 1 rfl ?_
    refine j_geti X gf_UX_18_50 dUX_next_78 ?_
    refine j_icmp_ge X (tgt := 136) rfl rfl dUX_next_81 (by decide) hf (fun hf => ?_) (fun hf => ?_)
    · exact kx _ _ hf
    · refine j_aload_n X dUX_next_84 rfl 1 rfl ?_
      refine j_iload_n X dUX_next_85 rfl 0 rfl ?_
      obtain ⟨x8, hzx8, hf⟩ := q_cl hf
      refine j_cv X (st := []) (cUX_kindAt E F hzx8) gyUX_kindAt gv_UX_kindAt_50 rfl (by decide) (by decide) wd_659 rfl (Nat.le_of_ble_eq_true rfl) dUX_next_86 ?_
      refine j_aload_n X dUX_next_89 rfl 1 rfl ?_
      refine j_geti X gf_UX_51_50 dUX_next_90 ?_
      refine j_icmp_ne X (tgt := 136) rfl rfl dUX_next_93 (by decide) hf (fun hf => ?_) (fun hf => ?_)
      · exact kx _ _ hf
      · refine j_aload_n X dUX_next_96 rfl 1 rfl ?_
        refine j_geti X gf_UX_51_50 dUX_next_97 ?_
        refine j_iconst X dUX_next_100 ?_
        refine j_icmp_ne X (tgt := 130) rfl (w32_lit rfl) dUX_next_101 (by decide) hf (fun hf => ?_) (fun hf => ?_)
        · refine j_iinc X (y := l1 + 1) (lv' := [(1, bz_i (l1 + 1)), (0, bz_rf E 50)]) dUX_next_130 0 rfl rfl (by decide) rfl ?_
          refine j_goto X (tgt := 76) dUX_next_133 (by decide) ?_
          exact ih _ _ hf
        · refine j_aload_n X dUX_next_104 rfl 1 rfl ?_
          refine j_aload_n X dUX_next_105 rfl 1 rfl ?_
          refine j_geti X gf_UX_111_50 dUX_next_106 ?_
          refine j_bipush X dUX_next_109 rfl ?_
          refine j_imul X dUX_next_111 ?_
          refine j_aload_n X dUX_next_112 rfl 1 rfl ?_
          refine j_geta X gf_UX_11_50 dUX_next_113 ?_
          show bz_J _ _ 116 _ _ _
          refine j_iload_n X dUX_next_116 rfl 0 rfl ?_
          refine j_iald X sh_51 dUX_next_117 hf (fun x9 hf => ?_)
          refine j_iadd X dUX_next_118 ?_
          refine j_bipush X dUX_next_119 rfl ?_
          refine j_isub X dUX_next_121 ?_
          refine j_ldc X (v := 1000000) wd_663 dUX_next_122 ?_
          refine j_cs X (st := [bz_rf E 50]) (cJM_min0 E) gyJM_min0 wd_665 rfl (by decide) (by decide) wd_664 rfl (Nat.le_of_ble_eq_true rfl) dUX_next_124 ?_
          refine j_puti X pf_UX_111_50 dUX_next_127 hf (fun m10 hf => ?_)
          show bz_J _ _ 130 _ _ _
          refine j_iinc X (y := l1 + 1) (lv' := [(1, bz_i (l1 + 1)), (0, bz_rf E 50)]) dUX_next_130 0 rfl rfl (by decide) rfl ?_
          refine j_goto X (tgt := 76) dUX_next_133 (by decide) ?_
          exact ih _ _ hf
theorem lUX_next_L76a (E : bz_E) (F : Nat) {K : bz_K} {rv : Option Value} {M1 : bz_Mm} (X : bz_X K E prog_11_method_11_code 2 "UnitsWrong$Text" none 1 22 rv M1) {res : (Int × bz_Mm)}
    (kx : ∀ (l1 : Int) (M : bz_Mm), some (l1, M) = some res → bz_J K 2 136 [(1, bz_i l1), (0, bz_rf E 50)] [] M) :
    ∀ (n : Nat) (l1 : Int) (M : bz_Mm), UX_next_L76a F n l1 M = some res → bz_J K 2 76 [(1, bz_i l1), (0, bz_rf E 50)] [] M := by
  intro n
  induction n with
  | zero => intro l1 M hf; cases hf
  | succ n ih =>
    intro l1 M hf
    rw [UX_next_L76a] at hf
    refine j_iload_n X dUX_next_76 rfl 0 rfl ?_
    refine j_aload_n X dUX_next_77 rfl 1 rfl ?_
    refine j_geti X gf_UX_18_50 dUX_next_78 ?_
    refine j_icmp_ge X (tgt := 136) rfl rfl dUX_next_81 (by decide) hf (fun hf => ?_) (fun hf => ?_)
    · exact kx _ _ hf
    · refine j_aload_n X dUX_next_84 rfl 1 rfl ?_
      refine j_iload_n X dUX_next_85 rfl 0 rfl ?_
      obtain ⟨x13, hzx13, hf⟩ := q_cl hf
      refine j_cv X (st := []) (cUX_kindAt E F hzx13) gyUX_kindAt gv_UX_kindAt_50 rfl (by decide) (by decide) wd_659 rfl (Nat.le_of_ble_eq_true rfl) dUX_next_86 ?_
      refine j_aload_n X dUX_next_89 rfl 1 rfl ?_
      refine j_geti X gf_UX_51_50 dUX_next_90 ?_
      refine j_icmp_ne X (tgt := 136) rfl rfl dUX_next_93 (by decide) hf (fun hf => ?_) (fun hf => ?_)
      · exact kx _ _ hf
      · refine j_aload_n X dUX_next_96 rfl 1 rfl ?_
        refine j_geti X gf_UX_51_50 dUX_next_97 ?_
        refine j_iconst X dUX_next_100 ?_
        refine j_icmp_ne X (tgt := 130) rfl (w32_lit rfl) dUX_next_101 (by decide) hf (fun hf => ?_) (fun hf => ?_)
        · refine j_iinc X (y := l1 + 1) (lv' := [(1, bz_i (l1 + 1)), (0, bz_rf E 50)]) dUX_next_130 0 rfl rfl (by decide) rfl ?_
          refine j_goto X (tgt := 76) dUX_next_133 (by decide) ?_
          exact ih _ _ hf
        · refine j_aload_n X dUX_next_104 rfl 1 rfl ?_
          refine j_aload_n X dUX_next_105 rfl 1 rfl ?_
          refine j_geti X gf_UX_111_50 dUX_next_106 ?_
          refine j_bipush X dUX_next_109 rfl ?_
          refine j_imul X dUX_next_111 ?_
          refine j_aload_n X dUX_next_112 rfl 1 rfl ?_
          refine j_geta X gf_UX_11_50 dUX_next_113 ?_
          show bz_J _ _ 116 _ _ _
          refine j_iload_n X dUX_next_116 rfl 0 rfl ?_
          refine j_iald X sh_51 dUX_next_117 hf (fun x14 hf => ?_)
          refine j_iadd X dUX_next_118 ?_
          refine j_bipush X dUX_next_119 rfl ?_
          refine j_isub X dUX_next_121 ?_
          refine j_ldc X (v := 1000000) wd_663 dUX_next_122 ?_
          refine j_cs X (st := [bz_rf E 50]) (cJM_min0 E) gyJM_min0 wd_665 rfl (by decide) (by decide) wd_664 rfl (Nat.le_of_ble_eq_true rfl) dUX_next_124 ?_
          refine j_puti X pf_UX_111_50 dUX_next_127 hf (fun m15 hf => ?_)
          show bz_J _ _ 130 _ _ _
          refine j_iinc X (y := l1 + 1) (lv' := [(1, bz_i (l1 + 1)), (0, bz_rf E 50)]) dUX_next_130 0 rfl rfl (by decide) rfl ?_
          refine j_goto X (tgt := 76) dUX_next_133 (by decide) ?_
          exact ih _ _ hf
def fUX_next (F : Nat) (M : bz_Mm) : Option (bz_Mm) :=
  lt_ (M 50 5) fun l1 =>
  cl1_ (UX_next_L5 F F M l1) fun l1 =>
  wf_ M 50 4 l1 fun m2 =>
  cl_ (fUX_kindAt F m2 l1) fun x3 =>
  wf_ m2 50 3 x3 fun m4 =>
  wf_ m4 50 6 0 fun m5 =>
  cl1_ (if w32 (m5 50 3) = 3 then
  (some (l1 + 1))
  else
  (some (l1))) fun l1 =>
  cl2_ (if w32 (m5 50 3) = 1 then
  (cl2_ (UX_next_L76 F F l1 m5) fun l1 m11 =>
  some (l1, m11))
  else
  (if w32 (m5 50 3) = 2 then
  (cl2_ (UX_next_L76a F F l1 m5) fun l1 m16 =>
  some (l1, m16))
  else
  (some (l1, m5)))) fun l1 m18 =>
  wf_ m18 50 5 l1 fun m19 =>
  some m19
set_option maxHeartbeats 4000000 in
set_option maxRecDepth 20000 in
theorem cUX_next (E : bz_E) (F : Nat)  {M : bz_Mm} {x0 : bz_Mm} (hf : fUX_next F M = some x0) : bz_Ct E yUX_next (.code yUX_next prog_11_method_11_code 2 none) 1 22 [bz_rf E 50] M (none) x0 := by
  refine bz_met (by decide +kernel) (Nat.le_of_ble_eq_true rfl) (fun K X => ?_)
  have X : bz_X K E prog_11_method_11_code 2 "UnitsWrong$Text" none 1 22 _ _ := X
  unfold fUX_next at hf
  show bz_J K 2 0 [(0, bz_rf E 50)] [] M
  refine j_aload_n X dUX_next_0 rfl 0 rfl ?_
  refine j_geti X gf_UX_29_50 dUX_next_1 ?_
  refine j_lt (g := bz_i) hf (fun l1 hf => ?_)
  refine j_istore_n X (lv' := [(1, bz_i l1), (0, bz_rf E 50)]) dUX_next_4 rfl (by decide) rfl ?_
  obtain ⟨res20, hz20, hk20⟩ := q_l1 hf
  clear hf
  refine lUX_next_L5 E F X (fun l1 he => ?_) F l1 hz20
  have hf := hk20 _ he
  refine j_aload_n X dUX_next_30 rfl 1 rfl ?_
  refine j_iload_n X dUX_next_31 rfl 0 rfl ?_
  refine j_puti X pf_UX_58_50 dUX_next_32 hf (fun m2 hf => ?_)
  refine j_aload_n X dUX_next_35 rfl 1 rfl ?_
  refine j_aload_n X dUX_next_36 rfl 1 rfl ?_
  refine j_iload_n X dUX_next_37 rfl 0 rfl ?_
  obtain ⟨x3, hzx3, hf⟩ := q_cl hf
  refine j_cv X (st := [bz_rf E 50]) (cUX_kindAt E F hzx3) gyUX_kindAt gv_UX_kindAt_50 rfl (by decide) (by decide) wd_659 rfl (Nat.le_of_ble_eq_true rfl) dUX_next_38 ?_
  show bz_J _ _ 41 _ _ _
  refine j_puti X pf_UX_51_50 dUX_next_41 hf (fun m4 hf => ?_)
  refine j_aload_n X dUX_next_44 rfl 1 rfl ?_
  refine j_iconst X dUX_next_45 ?_
  refine j_puti X pf_UX_111_50 dUX_next_46 hf (fun m5 hf => ?_)
  refine j_aload_n X dUX_next_49 rfl 1 rfl ?_
  refine j_geti X gf_UX_51_50 dUX_next_50 ?_
  refine j_iconst X dUX_next_53 ?_
  obtain ⟨resJ6, hf0, hkJ6⟩ := q_l1 hf
  have J6 : ∀ (l1 : Int), some l1 = some resJ6 → bz_J K 2 60 [(1, bz_i l1), (0, bz_rf E 50)] [] m5 := by
    intro l1 he
    have hf := hkJ6 _ he
    refine j_aload_n X dUX_next_60 rfl 1 rfl ?_
    refine j_geti X gf_UX_51_50 dUX_next_61 ?_
    refine j_iconst X dUX_next_64 ?_
    obtain ⟨resJ7, hf0, hkJ7⟩ := q_l2 hf
    have J7 : ∀ (l1 : Int) (m18 : bz_Mm), some (l1, m18) = some resJ7 → bz_J K 2 136 [(1, bz_i l1), (0, bz_rf E 50)] [] m18 := by
      intro l1 m18 he
      have hf := hkJ7 _ _ he
      refine j_aload_n X dUX_next_136 rfl 1 rfl ?_
      refine j_iload_n X dUX_next_137 rfl 0 rfl ?_
      refine j_puti X pf_UX_29_50 dUX_next_138 hf (fun m19 hf => ?_)
      cases hf
      exact j_vret X dUX_next_141 rfl rfl
    clear hf
    have hf := hf0
    clear hf0
    refine j_icmp_eq X (tgt := 76) rfl (w32_lit rfl) dUX_next_65 (by decide) hf (fun hf => ?_) (fun hf => ?_)
    · obtain ⟨res12, hz12, hk12⟩ := q_l2 hf
      clear hf
      refine lUX_next_L76 E F X (fun l1 m11 he => ?_) F l1 m5 hz12
      have hf := hk12 _ _ he
      exact J7 _ _ hf
    · refine j_aload_n X dUX_next_68 rfl 1 rfl ?_
      refine j_geti X gf_UX_51_50 dUX_next_69 ?_
      refine j_iconst X dUX_next_72 ?_
      refine j_icmp_ne X (tgt := 136) rfl (w32_lit rfl) dUX_next_73 (by decide) hf (fun hf => ?_) (fun hf => ?_)
      · exact J7 _ _ hf
      · obtain ⟨res17, hz17, hk17⟩ := q_l2 hf
        clear hf
        refine lUX_next_L76a E F X (fun l1 m16 he => ?_) F l1 m5 hz17
        have hf := hk17 _ _ he
        exact J7 _ _ hf
  clear hf
  have hf := hf0
  clear hf0
  refine j_icmp_ne X (tgt := 60) rfl (w32_lit rfl) dUX_next_54 (by decide) hf (fun hf => ?_) (fun hf => ?_)
  · exact J6 _ hf
  · refine j_iinc X (y := l1 + 1) (lv' := [(1, bz_i (l1 + 1)), (0, bz_rf E 50)]) dUX_next_57 0 rfl rfl (by decide) rfl ?_
    exact J6 _ hf
def UX_isWord_L28 (F : Nat) : Nat → bz_Mm → Nat → Int → Option (Int ⊕ (Int))
  | 0, _, _, _ => none
  | n + 1, M, w1, l2 =>
    if w32 l2 < w32 (fJS_length w1) then
    (rd_ M 51 ((M 50 4) + l2) 600 fun x1 =>
    cl_ (fJS_charAt F M w1 l2) fun x2 =>
    if w32 x1 = w32 x2 then
    (UX_isWord_L28 F n M w1 (l2 + 1))
    else
    (some (.inl 0)))
    else
    (some (.inr 0))
theorem lUX_isWord_L28 (E : bz_E) (F : Nat) {K : bz_K} {rv : Option Value} {M1 : bz_Mm} (X : bz_X K E prog_11_method_13_code 3 "UnitsWrong$Text" (some .boolean) 4 85 rv M1) {M : bz_Mm} {w1 : Nat} (hw1 : w1 < 18) {res : (Int ⊕ (Int))}
    (kx : ∀ (_u : Int), some (.inr _u) = some res → bz_J K 3 63 [] [] M) (kr : ∀ b : Int, some (.inl b) = some res → some (bz_i b) = rv ∧ M = M1) :
    ∀ (n : Nat) (l2 : Int), UX_isWord_L28 F n M w1 l2 = some res → bz_J K 3 28 [(2, bz_i l2), (0, bz_rf E 50), (1, bz_rf E (900 + w1))] [] M := by
  intro n
  induction n with
  | zero => intro l2 hf; cases hf
  | succ n ih =>
    intro l2 hf
    rw [UX_isWord_L28] at hf
    refine j_iload_n X dUX_isWord_28 rfl 0 rfl ?_
    refine j_aload_n X dUX_isWord_29 rfl 2 rfl ?_
    refine j_cw X hw1 (st := [bz_i l2]) (cJS_length E hw1) gyJS_length gvJS_length rfl (by decide) (by decide) wd_672 rfl (Nat.le_of_ble_eq_true rfl) dUX_isWord_30 ?_
    refine j_icmp_ge X (tgt := 63) rfl rfl dUX_isWord_33 (by decide) hf (fun hf => ?_) (fun hf => ?_)
    · exact j_sub [] rfl (kx _ hf)
    · refine j_aload_n X dUX_isWord_36 rfl 1 rfl ?_
      refine j_geta X gf_UX_11_50 dUX_isWord_37 ?_
      refine j_aload_n X dUX_isWord_40 rfl 1 rfl ?_
      refine j_geti X gf_UX_58_50 dUX_isWord_41 ?_
      refine j_iload_n X dUX_isWord_44 rfl 0 rfl ?_
      refine j_iadd X dUX_isWord_45 ?_
      refine j_iald X sh_51 dUX_isWord_46 hf (fun x1 hf => ?_)
      show bz_J _ _ 47 _ _ _
      refine j_aload_n X dUX_isWord_47 rfl 2 rfl ?_
      refine j_iload_n X dUX_isWord_48 rfl 0 rfl ?_
      obtain ⟨x2, hzx2, hf⟩ := q_cl hf
      refine j_cw X hw1 (st := [bz_i x1]) (cJS_charAt E F hw1 hzx2) gyJS_charAt gvJS_charAt rfl (by decide) (by decide) wd_682 rfl (Nat.le_of_ble_eq_true rfl) dUX_isWord_49 ?_
      refine j_icmp_eq X (tgt := 57) rfl rfl dUX_isWord_52 (by decide) hf (fun hf => ?_) (fun hf => ?_)
      · refine j_iinc X (y := l2 + 1) (lv' := [(2, bz_i (l2 + 1)), (0, bz_rf E 50), (1, bz_rf E (900 + w1))]) dUX_isWord_57 0 rfl rfl (by decide) rfl ?_
        refine j_goto X (tgt := 28) dUX_isWord_60 (by decide) ?_
        exact ih _ hf
      · refine j_iconst X dUX_isWord_55 ?_
        exact j_zret X (by decide +kernel) dUX_isWord_56 (kr _ hf).1 (kr _ hf).2
def fUX_isWord (F : Nat) (M : bz_Mm) (w1 : Nat) : Option (Int) :=
  if w32 (M 50 3) = 1 then
  (if w32 ((M 50 5) - (M 50 4)) = w32 (fJS_length w1) then
  (cs1_ (UX_isWord_L28 F F M w1 0) (fun b => some b) fun _u =>
  some 1)
  else
  (some 0))
  else
  (some 0)
set_option maxHeartbeats 4000000 in
set_option maxRecDepth 20000 in
theorem cUX_isWord (E : bz_E) (F : Nat)  {M : bz_Mm} {w1 : Nat} {x0 : Int} (hw1 : w1 < 18) (hf : fUX_isWord F M w1 = some x0) : bz_Ct E yUX_isWord (.code yUX_isWord prog_11_method_13_code 3 (some .boolean)) 4 85 [bz_rf E 50, bz_rf E (900 + w1)] M (some (bz_i x0)) M := by
  refine bz_met (by decide +kernel) (Nat.le_of_ble_eq_true rfl) (fun K X => ?_)
  have X : bz_X K E prog_11_method_13_code 3 "UnitsWrong$Text" (some .boolean) 4 85 _ _ := X
  unfold fUX_isWord at hf
  show bz_J K 3 0 [(0, bz_rf E 50), (1, bz_rf E (900 + w1))] [] M
  refine j_aload_n X dUX_isWord_0 rfl 0 rfl ?_
  refine j_geti X gf_UX_51_50 dUX_isWord_1 ?_
  refine j_iconst X dUX_isWord_4 ?_
  refine j_icmp_ne X (tgt := 24) rfl (w32_lit rfl) dUX_isWord_5 (by decide) hf (fun hf => ?_) (fun hf => ?_)
  · refine j_iconst X dUX_isWord_24 ?_
    cases hf
    exact j_zret X (by decide +kernel) dUX_isWord_25 rfl rfl
  · refine j_aload_n X dUX_isWord_8 rfl 0 rfl ?_
    refine j_geti X gf_UX_29_50 dUX_isWord_9 ?_
    refine j_aload_n X dUX_isWord_12 rfl 0 rfl ?_
    refine j_geti X gf_UX_58_50 dUX_isWord_13 ?_
    refine j_isub X dUX_isWord_16 ?_
    refine j_aload_n X dUX_isWord_17 rfl 1 rfl ?_
    refine j_cw X hw1 (st := [bz_i ((M 50 5) - (M 50 4))]) (cJS_length E hw1) gyJS_length gvJS_length rfl (by decide) (by decide) wd_672 rfl (Nat.le_of_ble_eq_true rfl) dUX_isWord_18 ?_
    show bz_J _ _ 21 _ _ _
    refine j_icmp_eq X (tgt := 26) rfl rfl dUX_isWord_21 (by decide) hf (fun hf => ?_) (fun hf => ?_)
    · refine j_iconst X dUX_isWord_26 ?_
      refine j_istore_n X (lv' := [(2, bz_i 0), (0, bz_rf E 50), (1, bz_rf E (900 + w1))]) dUX_isWord_27 rfl (by decide) rfl ?_
      obtain ⟨res3, hz3, hk3, hr3⟩ := q_s1 hf
      clear hf
      refine lUX_isWord_L28 E F X hw1 (fun _u he => ?_) (fun b he => ?_) F 0 hz3
      · have hf := hk3 _ he
        refine j_iconst X dUX_isWord_63 ?_
        cases hf
        exact j_zret X (by decide +kernel) dUX_isWord_64 rfl rfl
      · have hf := hr3 _ he
        cases hf
        exact ⟨rfl, rfl⟩
    · refine j_iconst X dUX_isWord_24 ?_
      cases hf
      exact j_zret X (by decide +kernel) dUX_isWord_25 rfl rfl
def fUX_want (F : Nat) (M : bz_Mm) (a1 : Int) : Option (bz_Mm) :=
  if w32 a1 = 0 then
  (if w32 (M 50 7) = (-1) then
  (wf_ M 50 7 (M 50 4) fun m1 =>
  some m1)
  else
  (some M))
  else
  (some M)
set_option maxHeartbeats 4000000 in
set_option maxRecDepth 20000 in
theorem cUX_want (E : bz_E) (F : Nat)  {M : bz_Mm} {a1 : Int} {x0 : bz_Mm} (hf : fUX_want F M a1 = some x0) : bz_Ct E yUX_want (.code yUX_want prog_11_method_10_code 2 none) 0 0 [bz_rf E 50, bz_i a1] M (none) x0 := by
  refine bz_met (by decide +kernel) (Nat.le_of_ble_eq_true rfl) (fun K X => ?_)
  have X : bz_X K E prog_11_method_10_code 2 "UnitsWrong$Text" none 0 0 _ _ := X
  unfold fUX_want at hf
  show bz_J K 2 0 [(0, bz_rf E 50), (1, bz_i a1)] [] M
  refine j_iload_n X dUX_want_0 rfl 1 rfl ?_
  refine j_if_ne X (tgt := 20) rfl dUX_want_1 (by decide) hf (fun hf => ?_) (fun hf => ?_)
  · cases hf
    exact j_vret X dUX_want_20 rfl rfl
  · refine j_aload_n X dUX_want_4 rfl 0 rfl ?_
    refine j_geti X gf_UX_32_50 dUX_want_5 ?_
    refine j_iconst X dUX_want_8 ?_
    refine j_icmp_ne X (tgt := 20) rfl (w32_lit rfl) dUX_want_9 (by decide) hf (fun hf => ?_) (fun hf => ?_)
    · cases hf
      exact j_vret X dUX_want_20 rfl rfl
    · refine j_aload_n X dUX_want_12 rfl 0 rfl ?_
      refine j_aload_n X dUX_want_13 rfl 0 rfl ?_
      refine j_geti X gf_UX_58_50 dUX_want_14 ?_
      refine j_puti X pf_UX_32_50 dUX_want_17 hf (fun m1 hf => ?_)
      cases hf
      exact j_vret X dUX_want_20 rfl rfl
def fUX_wantNumber (F : Nat) (M : bz_Mm) (a1 : Int) : Option (Int × bz_Mm) :=
  cl_ (fUX_next F M) fun m1 =>
  cl1_ (if w32 (m1 50 3) = 2 then
  (if w32 a1 < w32 (m1 50 6) then
  (some (0))
  else
  (some (1)))
  else
  (some (0))) fun v3 =>
  cl_ (fUX_want F m1 v3) fun m4 =>
  if w32 v3 = 0 then
  (some ((0, m4)))
  else
  (some ((m4 50 6, m4)))
set_option maxHeartbeats 4000000 in
set_option maxRecDepth 20000 in
theorem cUX_wantNumber (E : bz_E) (F : Nat)  {M : bz_Mm} {a1 : Int} {x0 : Int × bz_Mm} (hf : fUX_wantNumber F M a1 = some x0) : bz_Ct E yUX_wantNumber (.code yUX_wantNumber prog_11_method_9_code 3 (some .int)) 2 43 [bz_rf E 50, bz_i a1] M (some (bz_i x0.1)) x0.2 := by
  refine bz_met (by decide +kernel) (Nat.le_of_ble_eq_true rfl) (fun K X => ?_)
  have X : bz_X K E prog_11_method_9_code 3 "UnitsWrong$Text" (some .int) 2 43 _ _ := X
  unfold fUX_wantNumber at hf
  show bz_J K 3 0 [(0, bz_rf E 50), (1, bz_i a1)] [] M
  refine j_aload_n X dUX_wantNumber_0 rfl 0 rfl ?_
  obtain ⟨m1, hz, hf⟩ := q_cl hf
  refine j_cv X (st := []) (cUX_next E F hz) gyUX_next gv_UX_next_50 rfl (by decide) (by decide) wd_655 rfl (Nat.le_of_ble_eq_true rfl) dUX_wantNumber_1 ?_
  clear hz
  refine j_aload_n X dUX_wantNumber_4 rfl 0 rfl ?_
  refine j_geti X gf_UX_51_50 dUX_wantNumber_5 ?_
  refine j_iconst X dUX_wantNumber_8 ?_
  obtain ⟨resJ2, hf0, hkJ2⟩ := q_l1 hf
  have J2 : ∀ (v3 : Int), some v3 = some resJ2 → bz_J K 3 25 [(0, bz_rf E 50)] [bz_i v3] m1 := by
    intro v3 he
    have hf := hkJ2 _ he
    refine j_istore_n X (lv' := [(2, bz_i v3), (0, bz_rf E 50)]) dUX_wantNumber_25 rfl (by decide) rfl ?_
    refine j_aload_n X dUX_wantNumber_26 rfl 1 rfl ?_
    refine j_iload_n X dUX_wantNumber_27 rfl 0 rfl ?_
    obtain ⟨m4, hz, hf⟩ := q_cl hf
    refine j_cv X (st := []) (cUX_want E F hz) gyUX_want gv_UX_want_50 rfl (by decide) (by decide) wd_724 rfl (Nat.le_of_ble_eq_true rfl) dUX_wantNumber_28 ?_
    clear hz
    refine j_iload_n X dUX_wantNumber_31 rfl 0 rfl ?_
    refine j_if_eq X (tgt := 42) rfl dUX_wantNumber_32 (by decide) hf (fun hf => ?_) (fun hf => ?_)
    · refine j_iconst X dUX_wantNumber_42 ?_
      cases hf
      exact j_iret X dUX_wantNumber_43 rfl rfl
    · refine j_aload_n X dUX_wantNumber_35 rfl 1 rfl ?_
      refine j_geti X gf_UX_111_50 dUX_wantNumber_36 ?_
      refine j_goto X (tgt := 43) dUX_wantNumber_39 (by decide) ?_
      cases hf
      exact j_iret X dUX_wantNumber_43 rfl rfl
  clear hf
  have hf := hf0
  clear hf0
  refine j_icmp_ne X (tgt := 24) rfl (w32_lit rfl) dUX_wantNumber_9 (by decide) hf (fun hf => ?_) (fun hf => ?_)
  · refine j_iconst X dUX_wantNumber_24 ?_
    exact j_sub [0] rfl (J2 _ hf)
  · refine j_aload_n X dUX_wantNumber_12 rfl 0 rfl ?_
    refine j_geti X gf_UX_111_50 dUX_wantNumber_13 ?_
    refine j_iload_n X dUX_wantNumber_16 rfl 1 rfl ?_
    refine j_icmp_gt X (tgt := 24) rfl rfl dUX_wantNumber_17 (by decide) hf (fun hf => ?_) (fun hf => ?_)
    · refine j_iconst X dUX_wantNumber_24 ?_
      exact j_sub [0] rfl (J2 _ hf)
    · refine j_iconst X dUX_wantNumber_20 ?_
      refine j_goto X (tgt := 25) dUX_wantNumber_21 (by decide) ?_
      exact j_sub [0] rfl (J2 _ hf)
