def UC_countCoins_41_L6 (F : Nat) : Nat → Int → Int → Int → bz_Mm → Option (bz_Mm)
  | 0, _, _, _, _ => none
  | n + 1, l2, l3, l5, M =>
    if w32 l5 < w32 (M 53 16) then
    (rd_ M 36 l5 200 fun x1 =>
    rd_ M 38 x1 200 fun x2 =>
    if w32 x2 = w32 l2 then
    (rd_ M 40 x1 200 fun x3 =>
    wa_ M 41 x1 200 (fUD_coinsOf x3 l3) fun m4 =>
    UC_countCoins_41_L6 F n l2 l3 (l5 + 1) m4)
    else
    (UC_countCoins_41_L6 F n l2 l3 (l5 + 1) M))
    else
    (some M)
theorem lUC_countCoins_41_L6 (E : bz_E) (F : Nat) {K : bz_K} {rv : Option Value} {M1 : bz_Mm} (X : bz_X K E prog_5_method_21_code 7 "UnitsWrong$Course" none 1 21 rv M1) {l2 : Int} {l3 : Int} {res : (bz_Mm)}
    (kx : ∀ (M : bz_Mm), some M = some res → bz_J K 7 60 [] [] M) :
    ∀ (n : Nat) (l5 : Int) (M : bz_Mm), UC_countCoins_41_L6 F n l2 l3 l5 M = some res → bz_J K 7 6 [(5, bz_i l5), (0, bz_rf E 53), (1, bz_rf E 33), (2, bz_i l2), (3, bz_i l3), (4, bz_rf E 41)] [] M := by
  intro n
  induction n with
  | zero => intro l5 M hf; cases hf
  | succ n ih =>
    intro l5 M hf
    rw [UC_countCoins_41_L6] at hf
    refine j_iload X dUC_countCoins_6 0 rfl ?_
    refine j_aload_n X dUC_countCoins_8 rfl 1 rfl ?_
    refine j_geti X gf_UC_160_53 dUC_countCoins_9 ?_
    refine j_icmp_ge X (tgt := 60) rfl rfl dUC_countCoins_12 (by decide) hf (fun hf => ?_) (fun hf => ?_)
    · exact j_sub [] rfl (kx _ hf)
    · refine j_aload_n X dUC_countCoins_15 rfl 2 rfl ?_
      refine j_geta X gf_UC_193_33 dUC_countCoins_16 ?_
      refine j_geta X gf_UC_215_34 dUC_countCoins_19 ?_
      refine j_iload X dUC_countCoins_22 0 rfl ?_
      refine j_iald X sh_36 dUC_countCoins_24 hf (fun x1 hf => ?_)
      refine j_istore X (lv' := [(6, bz_i x1), (5, bz_i l5), (0, bz_rf E 53), (1, bz_rf E 33), (2, bz_i l2), (3, bz_i l3), (4, bz_rf E 41)]) dUC_countCoins_25 (by decide) rfl ?_
      refine j_aload_n X dUC_countCoins_27 rfl 3 rfl ?_
      show bz_J _ _ 28 _ _ _
      refine j_geta X gf_UC_295_33 dUC_countCoins_28 ?_
      refine j_iload X dUC_countCoins_31 0 rfl ?_
      refine j_iald X sh_38 dUC_countCoins_33 hf (fun x2 hf => ?_)
      refine j_iload_n X dUC_countCoins_34 rfl 4 rfl ?_
      refine j_icmp_ne X (tgt := 54) rfl rfl dUC_countCoins_35 (by decide) hf (fun hf => ?_) (fun hf => ?_)
      · refine j_iinc X (y := l5 + 1) (lv' := [(5, bz_i (l5 + 1)), (6, bz_i x1), (0, bz_rf E 53), (1, bz_rf E 33), (2, bz_i l2), (3, bz_i l3), (4, bz_rf E 41)]) dUC_countCoins_54 1 rfl rfl (by decide) rfl ?_
        refine j_goto X (tgt := 6) dUC_countCoins_57 (by decide) ?_
        exact j_sub [0, 2, 3, 4, 5, 6] rfl (ih _ _ hf)
      · refine j_aload X dUC_countCoins_38 6 rfl ?_
        refine j_iload X dUC_countCoins_40 0 rfl ?_
        refine j_aload_n X dUC_countCoins_42 rfl 3 rfl ?_
        refine j_geta X gf_UC_296_33 dUC_countCoins_43 ?_
        refine j_iload X dUC_countCoins_46 0 rfl ?_
        refine j_iald X sh_40 dUC_countCoins_48 hf (fun x3 hf => ?_)
        refine j_iload_n X dUC_countCoins_49 rfl 5 rfl ?_
        show bz_J _ _ 50 _ _ _
        refine j_cs X (st := [bz_i x1, bz_rf E 41]) (cUD_coinsOf E) gyUD_coinsOf wd_879 rfl (by decide) (by decide) wd_878 rfl (Nat.le_of_ble_eq_true rfl) dUC_countCoins_50 ?_
        refine j_last X sh_41 dUC_countCoins_53 hf (fun m4 hf => ?_)
        refine j_iinc X (y := l5 + 1) (lv' := [(5, bz_i (l5 + 1)), (6, bz_i x1), (0, bz_rf E 53), (1, bz_rf E 33), (2, bz_i l2), (3, bz_i l3), (4, bz_rf E 41)]) dUC_countCoins_54 1 rfl rfl (by decide) rfl ?_
        refine j_goto X (tgt := 6) dUC_countCoins_57 (by decide) ?_
        exact j_sub [0, 2, 3, 4, 5, 6] rfl (ih _ _ hf)
def fUC_countCoins_41 (F : Nat) (M : bz_Mm) (a2 : Int) (a3 : Int) : Option (bz_Mm) :=
  lt_ (M 53 15) fun l5 =>
  cl1_ (UC_countCoins_41_L6 F F a2 a3 l5 M) fun m5 =>
  some m5
set_option maxHeartbeats 4000000 in
set_option maxRecDepth 20000 in
theorem cUC_countCoins_41 (E : bz_E) (F : Nat)  {M : bz_Mm} {a2 : Int} {a3 : Int} {x0 : bz_Mm} (hf : fUC_countCoins_41 F M a2 a3 = some x0) : bz_Ct E yUC_countCoins (.code yUC_countCoins prog_5_method_21_code 7 none) 1 21 [bz_rf E 53, bz_rf E 33, bz_i a2, bz_i a3, bz_rf E 41] M (none) x0 := by
  refine bz_met (by decide +kernel) (Nat.le_of_ble_eq_true rfl) (fun K X => ?_)
  have X : bz_X K E prog_5_method_21_code 7 "UnitsWrong$Course" none 1 21 _ _ := X
  unfold fUC_countCoins_41 at hf
  show bz_J K 7 0 [(0, bz_rf E 53), (1, bz_rf E 33), (2, bz_i a2), (3, bz_i a3), (4, bz_rf E 41)] [] M
  refine j_aload_n X dUC_countCoins_0 rfl 0 rfl ?_
  refine j_geti X gf_UC_268_53 dUC_countCoins_1 ?_
  refine j_lt (g := bz_i) hf (fun l5 hf => ?_)
  refine j_istore X (lv' := [(5, bz_i l5), (0, bz_rf E 53), (1, bz_rf E 33), (2, bz_i a2), (3, bz_i a3), (4, bz_rf E 41)]) dUC_countCoins_4 (by decide) rfl ?_
  obtain ⟨res6, hz6, hk6⟩ := q_l1 hf
  clear hf
  refine lUC_countCoins_41_L6 E F X (fun m5 he => ?_) F l5 M hz6
  have hf := hk6 _ he
  cases hf
  exact j_vret X dUC_countCoins_60 rfl rfl
def UC_bookUntil_L30 (F : Nat) : Nat → Int → Int → Int → bz_Mm → Option (bz_Mm)
  | 0, _, _, _, _ => none
  | n + 1, l3, l2, l4, M =>
    if w32 l4 < w32 (M 1 14) then
    (cl_ (fUS_isOpen F M l3) fun x3 =>
    if w32 x3 = 0 then
    (some M)
    else
    (lt_ (fU_slot l4 l3) fun l5 =>
    cl_ (fUC_fillDeals F M l4) fun m4 =>
    cl_ (fUC_makePrice_54_48_49 F m4 l4 l3) fun m5 =>
    rd_ m5 48 l5 1040 fun x6 =>
    cl_ (fUC_countCoins_41 F m5 l4 x6) fun m7 =>
    rd_ m7 54 l4 4 fun x8 =>
    rd_ m7 49 l5 1040 fun x9 =>
    wa_ m7 54 l4 4 (x8 - x9) fun m10 =>
    cl_ (fUC_passDeals F m10 l4) fun m11 =>
    UC_bookUntil_L30 F n l3 l2 (l4 + 1) m11))
    else
    (some M)
def UC_bookUntil_L14 (F : Nat) : Nat → Int → Int → bz_Mm → Option (bz_Mm)
  | 0, _, _, _ => none
  | n + 1, l2, l3, M =>
    if w32 l3 < w32 l2 then
    (cl_ (fUC_openDay F M l3 l3 0) fun m2 =>
    cl1_ (UC_bookUntil_L30 F F l3 l2 0 m2) fun m12 =>
    UC_bookUntil_L14 F n l2 (l3 + 1) m12)
    else
    (some M)
theorem lUC_bookUntil_L30 (E : bz_E) (F : Nat) {K : bz_K} {rv : Option Value} {M1 : bz_Mm} (X : bz_X K E prog_5_method_5_code 6 "UnitsWrong$Course" none 6 145 rv M1) {l3 : Int} {l2 : Int} {res : (bz_Mm)}
    (kx : ∀ (M : bz_Mm), some M = some res → bz_J K 6 142 [(3, bz_i l3), (0, bz_rf E 53), (1, bz_rf E 1), (2, bz_i l2)] [] M) :
    ∀ (n : Nat) (l4 : Int) (M : bz_Mm), UC_bookUntil_L30 F n l3 l2 l4 M = some res → bz_J K 6 30 [(4, bz_i l4), (3, bz_i l3), (0, bz_rf E 53), (1, bz_rf E 1), (2, bz_i l2)] [] M := by
  intro n
  induction n with
  | zero => intro l4 M hf; cases hf
  | succ n ih =>
    intro l4 M hf
    rw [UC_bookUntil_L30] at hf
    refine j_iload X dUC_bookUntil_30 0 rfl ?_
    refine j_aload_n X dUC_bookUntil_32 rfl 3 rfl ?_
    refine j_geti X gf_UC_94_1 dUC_bookUntil_33 ?_
    refine j_icmp_ge X (tgt := 142) rfl rfl dUC_bookUntil_36 (by decide) hf (fun hf => ?_) (fun hf => ?_)
    · exact j_sub [1, 2, 3, 4] rfl (kx _ hf)
    · refine j_aload_n X dUC_bookUntil_39 rfl 3 rfl ?_
      refine j_iload_n X dUC_bookUntil_40 rfl 1 rfl ?_
      obtain ⟨x3, hzx3, hf⟩ := q_cl hf
      refine j_cv X (st := []) (cUS_isOpen E F hzx3) gyUS_isOpen gv_US_isOpen_1 rfl (by decide) (by decide) wd_851 rfl (Nat.le_of_ble_eq_true rfl) dUC_bookUntil_41 ?_
      refine j_if_eq X (tgt := 142) rfl dUC_bookUntil_44 (by decide) hf (fun hf => ?_) (fun hf => ?_)
      · exact j_sub [1, 2, 3, 4] rfl (kx _ hf)
      · refine j_iload X dUC_bookUntil_47 0 rfl ?_
        refine j_iload_n X dUC_bookUntil_49 rfl 1 rfl ?_
        refine j_cn X (st := []) (cU_slot E) gyU_slot wd_853 rfl (by decide) (by decide) nl_852 rfl (Nat.le_of_ble_eq_true rfl) dUC_bookUntil_50 ?_
        refine j_lt (g := bz_i) hf (fun l5 hf => ?_)
        refine j_istore X (lv' := [(5, bz_i l5), (4, bz_i l4), (3, bz_i l3), (0, bz_rf E 53), (1, bz_rf E 1), (2, bz_i l2)]) dUC_bookUntil_53 (by decide) rfl ?_
        refine j_aload_n X dUC_bookUntil_55 rfl 3 rfl ?_
        refine j_aload_n X dUC_bookUntil_56 rfl 4 rfl ?_
        refine j_geta X gf_UC_105_1 dUC_bookUntil_57 ?_
        show bz_J _ _ 60 _ _ _
        refine j_iload X dUC_bookUntil_60 1 rfl ?_
        obtain ⟨m4, hz, hf⟩ := q_cl hf
        refine j_cv X (st := []) (cUC_fillDeals E F hz) gyUC_fillDeals gv_UC_fillDeals_53 rfl (by decide) (by decide) wd_887 rfl (Nat.le_of_ble_eq_true rfl) dUC_bookUntil_62 ?_
        clear hz
        refine j_aload_n X dUC_bookUntil_65 rfl 3 rfl ?_
        refine j_aload_n X dUC_bookUntil_66 rfl 4 rfl ?_
        refine j_iload X dUC_bookUntil_67 1 rfl ?_
        refine j_iload_n X dUC_bookUntil_69 rfl 2 rfl ?_
        refine j_aload_n X dUC_bookUntil_70 rfl 3 rfl ?_
        refine j_geta X gf_UC_9_53 dUC_bookUntil_71 ?_
        show bz_J _ _ 74 _ _ _
        refine j_aload_n X dUC_bookUntil_74 rfl 4 rfl ?_
        refine j_geta X gf_UC_50_1 dUC_bookUntil_75 ?_
        refine j_aload_n X dUC_bookUntil_78 rfl 4 rfl ?_
        refine j_geta X gf_UC_113_1 dUC_bookUntil_79 ?_
        obtain ⟨m5, hz, hf⟩ := q_cl hf
        refine j_cv X (st := []) (cUC_makePrice_54_48_49 E F hz) gyUC_makePrice gv_UC_makePrice_53 rfl (by decide) (by decide) wd_855 rfl (Nat.le_of_ble_eq_true rfl) dUC_bookUntil_82 ?_
        clear hz
        refine j_aload_n X dUC_bookUntil_85 rfl 3 rfl ?_
        refine j_aload_n X dUC_bookUntil_86 rfl 4 rfl ?_
        refine j_geta X gf_UC_105_1 dUC_bookUntil_87 ?_
        show bz_J _ _ 90 _ _ _
        refine j_iload X dUC_bookUntil_90 1 rfl ?_
        refine j_aload_n X dUC_bookUntil_92 rfl 4 rfl ?_
        refine j_geta X gf_UC_50_1 dUC_bookUntil_93 ?_
        refine j_iload X dUC_bookUntil_96 0 rfl ?_
        refine j_iald X sh_48 dUC_bookUntil_98 hf (fun x6 hf => ?_)
        refine j_aload_n X dUC_bookUntil_99 rfl 4 rfl ?_
        refine j_geta X gf_UC_105_1 dUC_bookUntil_100 ?_
        refine j_geta X gf_UC_120_33 dUC_bookUntil_103 ?_
        show bz_J _ _ 106 _ _ _
        obtain ⟨m7, hz, hf⟩ := q_cl hf
        refine j_cv X (st := []) (cUC_countCoins_41 E F hz) gyUC_countCoins gv_UC_countCoins_53 rfl (by decide) (by decide) wd_874 rfl (Nat.le_of_ble_eq_true rfl) dUC_bookUntil_106 ?_
        clear hz
        refine j_aload_n X dUC_bookUntil_109 rfl 3 rfl ?_
        refine j_geta X gf_UC_9_53 dUC_bookUntil_110 ?_
        refine j_iload X dUC_bookUntil_113 1 rfl ?_
        refine j_dup2 X dUC_bookUntil_115 rfl rfl ?_
        refine j_lald X sh_54 dUC_bookUntil_116 hf (fun x8 hf => ?_)
        refine j_aload_n X dUC_bookUntil_117 rfl 4 rfl ?_
        refine j_geta X gf_UC_113_1 dUC_bookUntil_118 ?_
        show bz_J _ _ 121 _ _ _
        refine j_iload X dUC_bookUntil_121 0 rfl ?_
        refine j_lald X sh_49 dUC_bookUntil_123 hf (fun x9 hf => ?_)
        refine j_lsub X dUC_bookUntil_124 ?_
        refine j_last X sh_54 dUC_bookUntil_125 hf (fun m10 hf => ?_)
        refine j_aload_n X dUC_bookUntil_126 rfl 3 rfl ?_
        refine j_aload_n X dUC_bookUntil_127 rfl 4 rfl ?_
        refine j_geta X gf_UC_105_1 dUC_bookUntil_128 ?_
        refine j_iload X dUC_bookUntil_131 1 rfl ?_
        show bz_J _ _ 133 _ _ _
        obtain ⟨m11, hz, hf⟩ := q_cl hf
        refine j_cv X (st := []) (cUC_passDeals E F hz) gyUC_passDeals gv_UC_passDeals_53 rfl (by decide) (by decide) wd_883 rfl (Nat.le_of_ble_eq_true rfl) dUC_bookUntil_133 ?_
        clear hz
        refine j_iinc X (y := l4 + 1) (lv' := [(4, bz_i (l4 + 1)), (5, bz_i l5), (3, bz_i l3), (0, bz_rf E 53), (1, bz_rf E 1), (2, bz_i l2)]) dUC_bookUntil_136 1 rfl rfl (by decide) rfl ?_
        refine j_goto X (tgt := 30) dUC_bookUntil_139 (by decide) ?_
        exact j_sub [0, 2, 3, 4, 5] rfl (ih _ _ hf)
theorem lUC_bookUntil_L14 (E : bz_E) (F : Nat) {K : bz_K} {rv : Option Value} {M1 : bz_Mm} (X : bz_X K E prog_5_method_5_code 6 "UnitsWrong$Course" none 6 145 rv M1) {l2 : Int} {res : (bz_Mm)}
    (kx : ∀ (M : bz_Mm), some M = some res → bz_J K 6 148 [(1, bz_rf E 1), (2, bz_i l2)] [] M) :
    ∀ (n : Nat) (l3 : Int) (M : bz_Mm), UC_bookUntil_L14 F n l2 l3 M = some res → bz_J K 6 14 [(3, bz_i l3), (0, bz_rf E 53), (1, bz_rf E 1), (2, bz_i l2)] [] M := by
  intro n
  induction n with
  | zero => intro l3 M hf; cases hf
  | succ n ih =>
    intro l3 M hf
    rw [UC_bookUntil_L14] at hf
    refine j_iload_n X dUC_bookUntil_14 rfl 0 rfl ?_
    refine j_iload_n X dUC_bookUntil_15 rfl 3 rfl ?_
    refine j_icmp_ge X (tgt := 148) rfl rfl dUC_bookUntil_16 (by decide) hf (fun hf => ?_) (fun hf => ?_)
    · exact j_sub [2, 3] rfl (kx _ hf)
    · refine j_aload_n X dUC_bookUntil_19 rfl 1 rfl ?_
      refine j_aload_n X dUC_bookUntil_20 rfl 2 rfl ?_
      refine j_iload_n X dUC_bookUntil_21 rfl 0 rfl ?_
      refine j_iload_n X dUC_bookUntil_22 rfl 0 rfl ?_
      refine j_iconst X dUC_bookUntil_23 ?_
      obtain ⟨m2, hz, hf⟩ := q_cl hf
      refine j_cv X (st := []) (cUC_openDay E F hz) gyUC_openDay gv_UC_openDay_53 rfl (by decide) (by decide) wd_807 rfl (Nat.le_of_ble_eq_true rfl) dUC_bookUntil_24 ?_
      clear hz
      refine j_iconst X dUC_bookUntil_27 ?_
      show bz_J _ _ 28 _ _ _
      refine j_istore X (lv' := [(4, bz_i 0), (3, bz_i l3), (0, bz_rf E 53), (1, bz_rf E 1), (2, bz_i l2)]) dUC_bookUntil_28 (by decide) rfl ?_
      obtain ⟨res13, hz13, hk13⟩ := q_l1 hf
      clear hf
      refine lUC_bookUntil_L30 E F X (fun m12 he => ?_) F 0 m2 hz13
      have hf := hk13 _ he
      refine j_iinc X (y := l3 + 1) (lv' := [(3, bz_i (l3 + 1)), (0, bz_rf E 53), (1, bz_rf E 1), (2, bz_i l2)]) dUC_bookUntil_142 0 rfl rfl (by decide) rfl ?_
      refine j_goto X (tgt := 14) dUC_bookUntil_145 (by decide) ?_
      exact ih _ _ hf
def fUC_bookUntil (F : Nat) (M : bz_Mm) (a2 : Int) : Option (bz_Mm) :=
  cl_ (fUC_walkTo F M (M 1 13)) fun m1 =>
  lt_ (m1 1 13) fun l3 =>
  cl1_ (UC_bookUntil_L14 F F a2 l3 m1) fun m14 =>
  wf_ m14 1 13 a2 fun m15 =>
  wf_ m15 1 17 ((m15 1 17) + 1) fun m16 =>
  some m16
set_option maxHeartbeats 4000000 in
set_option maxRecDepth 20000 in
theorem cUC_bookUntil (E : bz_E) (F : Nat)  {M : bz_Mm} {a2 : Int} {x0 : bz_Mm} (hf : fUC_bookUntil F M a2 = some x0) : bz_Ct E yUC_bookUntil (.code yUC_bookUntil prog_5_method_5_code 6 none) 6 145 [bz_rf E 53, bz_rf E 1, bz_i a2] M (none) x0 := by
  refine bz_met (by decide +kernel) (Nat.le_of_ble_eq_true rfl) (fun K X => ?_)
  have X : bz_X K E prog_5_method_5_code 6 "UnitsWrong$Course" none 6 145 _ _ := X
  unfold fUC_bookUntil at hf
  show bz_J K 6 0 [(0, bz_rf E 53), (1, bz_rf E 1), (2, bz_i a2)] [] M
  refine j_aload_n X dUC_bookUntil_0 rfl 0 rfl ?_
  refine j_aload_n X dUC_bookUntil_1 rfl 1 rfl ?_
  refine j_aload_n X dUC_bookUntil_2 rfl 1 rfl ?_
  refine j_geti X gf_UC_84_1 dUC_bookUntil_3 ?_
  obtain ⟨m1, hz, hf⟩ := q_cl hf
  refine j_cv X (st := []) (cUC_walkTo E F hz) gyUC_walkTo gv_UC_walkTo_53 rfl (by decide) (by decide) wd_786 rfl (Nat.le_of_ble_eq_true rfl) dUC_bookUntil_6 ?_
  clear hz
  refine j_aload_n X dUC_bookUntil_9 rfl 1 rfl ?_
  refine j_geti X gf_UC_84_1 dUC_bookUntil_10 ?_
  show bz_J _ _ 13 _ _ _
  refine j_lt (g := bz_i) hf (fun l3 hf => ?_)
  refine j_istore_n X (lv' := [(3, bz_i l3), (0, bz_rf E 53), (1, bz_rf E 1), (2, bz_i a2)]) dUC_bookUntil_13 rfl (by decide) rfl ?_
  obtain ⟨res17, hz17, hk17⟩ := q_l1 hf
  clear hf
  refine lUC_bookUntil_L14 E F X (fun m14 he => ?_) F l3 m1 hz17
  have hf := hk17 _ he
  refine j_aload_n X dUC_bookUntil_148 rfl 0 rfl ?_
  refine j_iload_n X dUC_bookUntil_149 rfl 1 rfl ?_
  refine j_puti X pf_UC_84_1 dUC_bookUntil_150 hf (fun m15 hf => ?_)
  refine j_aload_n X dUC_bookUntil_153 rfl 0 rfl ?_
  refine j_dup X dUC_bookUntil_154 rfl ?_
  refine j_geti X gf_UC_70_1 dUC_bookUntil_155 ?_
  refine j_iconst X dUC_bookUntil_158 ?_
  show bz_J _ _ 159 _ _ _
  refine j_iadd X dUC_bookUntil_159 ?_
  refine j_puti X pf_UC_70_1 dUC_bookUntil_160 hf (fun m16 hf => ?_)
  cases hf
  exact j_vret X dUC_bookUntil_163 rfl rfl
def fU_go (F : Nat) (M : bz_Mm) (a1 : Int) : Option (Int × bz_Mm) :=
  if w32 a1 < 0 then
  (some (((-1), M)))
  else
  (if 40 < w32 a1 then
  (some (((-1), M)))
  else
  (lt_ (fJM_min0 ((M 1 13) + a1) 260) fun l2 =>
  if w32 (M 1 13) < w32 l2 then
  (cl_ (fUC_bookUntil F M l2) fun m1 =>
  some ((m1 1 13, m1)))
  else
  (some ((M 1 13, M)))))
set_option maxHeartbeats 4000000 in
set_option maxRecDepth 20000 in
theorem cU_go (E : bz_E) (F : Nat)  {M : bz_Mm} {a1 : Int} {x0 : Int × bz_Mm} (hf : fU_go F M a1 = some x0) : bz_Ct E yU_go (.code yU_go prog_1_method_17_code 3 (some .int)) 7 170 [bz_rf E 0, bz_i a1] M (some (bz_i x0.1)) x0.2 := by
  refine bz_met (by decide +kernel) (Nat.le_of_ble_eq_true rfl) (fun K X => ?_)
  have X : bz_X K E prog_1_method_17_code 3 "UnitsWrong" (some .int) 7 170 _ _ := X
  unfold fU_go at hf
  show bz_J K 3 0 [(0, bz_rf E 0), (1, bz_i a1)] [] M
  refine j_iload_n X dU_go_0 rfl 1 rfl ?_
  refine j_if_lt X (tgt := 10) rfl dU_go_1 (by decide) hf (fun hf => ?_) (fun hf => ?_)
  · refine j_iconst X dU_go_10 ?_
    cases hf
    exact j_iret X dU_go_11 rfl rfl
  · refine j_iload_n X dU_go_4 rfl 1 rfl ?_
    refine j_bipush X dU_go_5 rfl ?_
    refine j_icmp_le X (tgt := 12) rfl (w32_lit rfl) dU_go_7 (by decide) hf (fun hf => ?_) (fun hf => ?_)
    · refine j_aload_n X dU_go_12 rfl 0 rfl ?_
      refine j_geta X gf_U_10_0 dU_go_13 ?_
      refine j_geti X gf_U_51_1 dU_go_16 ?_
      refine j_iload_n X dU_go_19 rfl 1 rfl ?_
      refine j_iadd X dU_go_20 ?_
      refine j_sipush X dU_go_21 rfl ?_
      refine j_cs X (st := []) (cJM_min0 E) gyJM_min0 wd_665 rfl (by decide) (by decide) wd_781 rfl (Nat.le_of_ble_eq_true rfl) dU_go_24 ?_
      show bz_J _ _ 27 _ _ _
      refine j_lt (g := bz_i) hf (fun l2 hf => ?_)
      refine j_istore_n X (lv' := [(2, bz_i l2), (0, bz_rf E 0), (1, bz_i a1)]) dU_go_27 rfl (by decide) rfl ?_
      refine j_aload_n X dU_go_28 rfl 1 rfl ?_
      refine j_geta X gf_U_10_0 dU_go_29 ?_
      refine j_geti X gf_U_51_1 dU_go_32 ?_
      refine j_iload_n X dU_go_35 rfl 0 rfl ?_
      refine j_icmp_ge X (tgt := 51) rfl rfl dU_go_36 (by decide) hf (fun hf => ?_) (fun hf => ?_)
      · refine j_aload_n X dU_go_51 rfl 1 rfl ?_
        refine j_geta X gf_U_10_0 dU_go_52 ?_
        refine j_geti X gf_U_51_1 dU_go_55 ?_
        cases hf
        exact j_iret X dU_go_58 rfl rfl
      · refine j_aload_n X dU_go_39 rfl 1 rfl ?_
        refine j_geta X gf_U_26_0 dU_go_40 ?_
        refine j_aload_n X dU_go_43 rfl 1 rfl ?_
        refine j_geta X gf_U_10_0 dU_go_44 ?_
        refine j_iload_n X dU_go_47 rfl 0 rfl ?_
        obtain ⟨m1, hz, hf⟩ := q_cl hf
        refine j_cv X (st := []) (cUC_bookUntil E F hz) gyUC_bookUntil gv_UC_bookUntil_53 rfl (by decide) (by decide) wd_782 rfl (Nat.le_of_ble_eq_true rfl) dU_go_48 ?_
        clear hz
        refine j_aload_n X dU_go_51 rfl 1 rfl ?_
        show bz_J _ _ 52 _ _ _
        refine j_geta X gf_U_10_0 dU_go_52 ?_
        refine j_geti X gf_U_51_1 dU_go_55 ?_
        cases hf
        exact j_iret X dU_go_58 rfl rfl
    · refine j_iconst X dU_go_10 ?_
      cases hf
      exact j_iret X dU_go_11 rfl rfl
def fU_isBooked (F : Nat) (M : bz_Mm) (a1 : Int) (a2 : Int) : Option (Int) :=
  if w32 (fUS_isFund M a1) = 0 then
  (some 0)
  else
  (if w32 a2 < w32 (M 1 13) then
  (cl_ (fUS_isOpen F M a2) fun x1 =>
  if w32 x1 = 0 then
  (some 0)
  else
  (some 1))
  else
  (some 0))
set_option maxHeartbeats 4000000 in
set_option maxRecDepth 20000 in
theorem cU_isBooked (E : bz_E) (F : Nat)  {M : bz_Mm} {a1 : Int} {a2 : Int} {x0 : Int} (hf : fU_isBooked F M a1 a2 = some x0) : bz_Ct E yU_isBooked (.code yU_isBooked prog_1_method_43_code 3 (some .boolean)) 2 41 [bz_rf E 0, bz_i a1, bz_i a2] M (some (bz_i x0)) M := by
  refine bz_met (by decide +kernel) (Nat.le_of_ble_eq_true rfl) (fun K X => ?_)
  have X : bz_X K E prog_1_method_43_code 3 "UnitsWrong" (some .boolean) 2 41 _ _ := X
  unfold fU_isBooked at hf
  show bz_J K 3 0 [(0, bz_rf E 0), (1, bz_i a1), (2, bz_i a2)] [] M
  refine j_aload_n X dU_isBooked_0 rfl 0 rfl ?_
  refine j_geta X gf_U_10_0 dU_isBooked_1 ?_
  refine j_iload_n X dU_isBooked_4 rfl 1 rfl ?_
  refine j_cv X (st := []) (cUS_isFund E) gyUS_isFund gv_US_isFund_1 rfl (by decide) (by decide) wd_584 rfl (Nat.le_of_ble_eq_true rfl) dU_isBooked_5 ?_
  refine j_if_eq X (tgt := 37) rfl dU_isBooked_8 (by decide) hf (fun hf => ?_) (fun hf => ?_)
  · refine j_iconst X dU_isBooked_37 ?_
    cases hf
    exact j_zret X (by decide +kernel) dU_isBooked_38 rfl rfl
  · refine j_iload_n X dU_isBooked_11 rfl 2 rfl ?_
    refine j_aload_n X dU_isBooked_12 rfl 0 rfl ?_
    refine j_geta X gf_U_10_0 dU_isBooked_13 ?_
    refine j_geti X gf_U_51_1 dU_isBooked_16 ?_
    refine j_icmp_ge X (tgt := 37) rfl rfl dU_isBooked_19 (by decide) hf (fun hf => ?_) (fun hf => ?_)
    · refine j_iconst X dU_isBooked_37 ?_
      cases hf
      exact j_zret X (by decide +kernel) dU_isBooked_38 rfl rfl
    · refine j_aload_n X dU_isBooked_22 rfl 0 rfl ?_
      refine j_geta X gf_U_10_0 dU_isBooked_23 ?_
      refine j_iload_n X dU_isBooked_26 rfl 2 rfl ?_
      obtain ⟨x1, hzx1, hf⟩ := q_cl hf
      refine j_cv X (st := []) (cUS_isOpen E F hzx1) gyUS_isOpen gv_US_isOpen_1 rfl (by decide) (by decide) wd_541 rfl (Nat.le_of_ble_eq_true rfl) dU_isBooked_27 ?_
      refine j_if_eq X (tgt := 37) rfl dU_isBooked_30 (by decide) hf (fun hf => ?_) (fun hf => ?_)
      · refine j_iconst X dU_isBooked_37 ?_
        cases hf
        exact j_zret X (by decide +kernel) dU_isBooked_38 rfl rfl
      · refine j_iconst X dU_isBooked_33 ?_
        refine j_goto X (tgt := 38) dU_isBooked_34 (by decide) ?_
        cases hf
        exact j_zret X (by decide +kernel) dU_isBooked_38 rfl rfl
def fU_booked (F : Nat) (M : bz_Mm) (a1 : Int) (a2 : Int) : Option (Int) :=
  cl_ (fU_isBooked F M a1 a2) fun x1 =>
  if w32 x1 = 0 then
  (some ((-1)))
  else
  (rd_ M 48 (fU_slot a1 a2) 1040 fun x2 =>
  some x2)
set_option maxHeartbeats 4000000 in
set_option maxRecDepth 20000 in
theorem cU_booked (E : bz_E) (F : Nat)  {M : bz_Mm} {a1 : Int} {a2 : Int} {x0 : Int} (hf : fU_booked F M a1 a2 = some x0) : bz_Ct E yU_booked (.code yU_booked prog_1_method_18_code 3 (some .int)) 3 63 [bz_rf E 0, bz_i a1, bz_i a2] M (some (bz_i x0)) M := by
  refine bz_met (by decide +kernel) (Nat.le_of_ble_eq_true rfl) (fun K X => ?_)
  have X : bz_X K E prog_1_method_18_code 3 "UnitsWrong" (some .int) 3 63 _ _ := X
  unfold fU_booked at hf
  show bz_J K 3 0 [(0, bz_rf E 0), (1, bz_i a1), (2, bz_i a2)] [] M
  refine j_aload_n X dU_booked_0 rfl 0 rfl ?_
  refine j_iload_n X dU_booked_1 rfl 1 rfl ?_
  refine j_iload_n X dU_booked_2 rfl 2 rfl ?_
  obtain ⟨x1, hzx1, hf⟩ := q_cl hf
  refine j_cv X (st := []) (cU_isBooked E F hzx1) gyU_isBooked gv_U_isBooked_0 rfl (by decide) (by decide) wd_902 rfl (Nat.le_of_ble_eq_true rfl) dU_booked_3 ?_
  refine j_if_eq X (tgt := 25) rfl dU_booked_6 (by decide) hf (fun hf => ?_) (fun hf => ?_)
  · refine j_iconst X dU_booked_25 ?_
    cases hf
    exact j_iret X dU_booked_26 rfl rfl
  · refine j_aload_n X dU_booked_9 rfl 0 rfl ?_
    refine j_geta X gf_U_10_0 dU_booked_10 ?_
    refine j_geta X gf_U_201_1 dU_booked_13 ?_
    refine j_iload_n X dU_booked_16 rfl 1 rfl ?_
    refine j_iload_n X dU_booked_17 rfl 2 rfl ?_
    refine j_cs X (st := [bz_rf E 48]) (cU_slot E) gyU_slot wd_853 rfl (by decide) (by decide) wd_906 rfl (Nat.le_of_ble_eq_true rfl) dU_booked_18 ?_
    refine j_iald X sh_48 dU_booked_21 hf (fun x2 hf => ?_)
    show bz_J _ _ 22 _ _ _
    refine j_goto X (tgt := 26) dU_booked_22 (by decide) ?_
    cases hf
    exact j_iret X dU_booked_26 rfl rfl
def gUS_latestKnown (M : bz_Mm) : Option Int :=
  some (fJM_min0 (M 1 13) 259)
def fUS_latestKnown (M : bz_Mm) : Int :=
  (fJM_min0 (M 1 13) 259)
theorem tUS_latestKnown (M : bz_Mm) : gUS_latestKnown M = some (fUS_latestKnown M) := by
  unfold gUS_latestKnown fUS_latestKnown
  (repeat' (first | rfl | split))
set_option maxHeartbeats 4000000 in
set_option maxRecDepth 20000 in
theorem cUS_latestKnown (E : bz_E) {M : bz_Mm} : bz_Ct E yUS_latestKnown (.code yUS_latestKnown prog_9_method_9_code 1 (some .int)) 1 21 [bz_rf E 1] M (some (bz_i (fUS_latestKnown M))) M := by
  have hf := tUS_latestKnown M
  refine bz_met (by decide +kernel) (Nat.le_of_ble_eq_true rfl) (fun K X => ?_)
  have X : bz_X K E prog_9_method_9_code 1 "UnitsWrong$State" (some .int) 1 21 _ _ := X
  unfold gUS_latestKnown at hf
  generalize fUS_latestKnown M = rr at hf X
  show bz_J K 1 0 [(0, bz_rf E 1)] [] M
  refine j_aload_n X dUS_latestKnown_0 rfl 0 rfl ?_
  refine j_geti X gf_US_97_1 dUS_latestKnown_1 ?_
  refine j_sipush X dUS_latestKnown_4 rfl ?_
  refine j_cs X (st := []) (cJM_min0 E) gyJM_min0 wd_665 rfl (by decide) (by decide) wd_802 rfl (Nat.le_of_ble_eq_true rfl) dUS_latestKnown_7 ?_
  cases hf
  exact j_iret X dUS_latestKnown_10 rfl rfl
def fU_right (F : Nat) (M : bz_Mm) (a1 : Int) (a2 : Int) (a3 : Int) : Option (Int × bz_Mm) :=
  cl_ (fU_isBooked F M a1 a2) fun x1 =>
  if w32 x1 = 0 then
  (some (((-1), M)))
  else
  (if w32 a3 < w32 a2 then
  (some (((-1), M)))
  else
  (if w32 (fUS_latestKnown M) < w32 a3 then
  (some (((-1), M)))
  else
  (cl_ (fUC_walkTo F M a3) fun m2 =>
  rd_ m2 56 (fU_slot a1 a2) 1040 fun x3 =>
  some ((x3, m2)))))
set_option maxHeartbeats 4000000 in
set_option maxRecDepth 20000 in
theorem cU_right (E : bz_E) (F : Nat)  {M : bz_Mm} {a1 : Int} {a2 : Int} {a3 : Int} {x0 : Int × bz_Mm} (hf : fU_right F M a1 a2 a3 = some x0) : bz_Ct E yU_right (.code yU_right prog_1_method_19_code 4 (some .int)) 6 145 [bz_rf E 0, bz_i a1, bz_i a2, bz_i a3] M (some (bz_i x0.1)) x0.2 := by
  refine bz_met (by decide +kernel) (Nat.le_of_ble_eq_true rfl) (fun K X => ?_)
  have X : bz_X K E prog_1_method_19_code 4 "UnitsWrong" (some .int) 6 145 _ _ := X
  unfold fU_right at hf
  show bz_J K 4 0 [(0, bz_rf E 0), (1, bz_i a1), (2, bz_i a2), (3, bz_i a3)] [] M
  refine j_aload_n X dU_right_0 rfl 0 rfl ?_
  refine j_iload_n X dU_right_1 rfl 1 rfl ?_
  refine j_iload_n X dU_right_2 rfl 2 rfl ?_
  obtain ⟨x1, hzx1, hf⟩ := q_cl hf
  refine j_cv X (st := []) (cU_isBooked E F hzx1) gyU_isBooked gv_U_isBooked_0 rfl (by decide) (by decide) wd_902 rfl (Nat.le_of_ble_eq_true rfl) dU_right_3 ?_
  refine j_if_eq X (tgt := 25) rfl dU_right_6 (by decide) hf (fun hf => ?_) (fun hf => ?_)
  · refine j_iconst X dU_right_25 ?_
    cases hf
    exact j_iret X dU_right_26 rfl rfl
  · refine j_iload_n X dU_right_9 rfl 3 rfl ?_
    refine j_iload_n X dU_right_10 rfl 2 rfl ?_
    refine j_icmp_lt X (tgt := 25) rfl rfl dU_right_11 (by decide) hf (fun hf => ?_) (fun hf => ?_)
    · refine j_iconst X dU_right_25 ?_
      cases hf
      exact j_iret X dU_right_26 rfl rfl
    · refine j_iload_n X dU_right_14 rfl 3 rfl ?_
      refine j_aload_n X dU_right_15 rfl 0 rfl ?_
      refine j_geta X gf_U_10_0 dU_right_16 ?_
      refine j_cv X (st := [bz_i a3]) (cUS_latestKnown E) gyUS_latestKnown gv_US_latestKnown_1 rfl (by decide) (by decide) wd_911 rfl (Nat.le_of_ble_eq_true rfl) dU_right_19 ?_
      refine j_icmp_le X (tgt := 27) rfl rfl dU_right_22 (by decide) hf (fun hf => ?_) (fun hf => ?_)
      · refine j_aload_n X dU_right_27 rfl 0 rfl ?_
        refine j_geta X gf_U_26_0 dU_right_28 ?_
        refine j_aload_n X dU_right_31 rfl 0 rfl ?_
        refine j_geta X gf_U_10_0 dU_right_32 ?_
        refine j_iload_n X dU_right_35 rfl 3 rfl ?_
        obtain ⟨m2, hz, hf⟩ := q_cl hf
        refine j_cv X (st := []) (cUC_walkTo E F hz) gyUC_walkTo gv_UC_walkTo_53 rfl (by decide) (by decide) wd_915 rfl (Nat.le_of_ble_eq_true rfl) dU_right_36 ?_
        clear hz
        refine j_aload_n X dU_right_39 rfl 0 rfl ?_
        show bz_J _ _ 40 _ _ _
        refine j_geta X gf_U_26_0 dU_right_40 ?_
        refine j_geta X gf_U_213_53 dU_right_43 ?_
        refine j_iload_n X dU_right_46 rfl 1 rfl ?_
        refine j_iload_n X dU_right_47 rfl 2 rfl ?_
        refine j_cs X (st := [bz_rf E 56]) (cU_slot E) gyU_slot wd_853 rfl (by decide) (by decide) wd_906 rfl (Nat.le_of_ble_eq_true rfl) dU_right_48 ?_
        refine j_iald X sh_56 dU_right_51 hf (fun x3 hf => ?_)
        cases hf
        exact j_iret X dU_right_52 rfl rfl
      · refine j_iconst X dU_right_25 ?_
        cases hf
        exact j_iret X dU_right_26 rfl rfl
def gU_told (a0 : Int) : Option Int :=
  some (fJM_max1 ((-2000000000)) (fJM_min1 2000000000 a0))
def fU_told (a0 : Int) : Int :=
  (fJM_max1 ((-2000000000)) (fJM_min1 2000000000 a0))
theorem tU_told (a0 : Int) : gU_told a0 = some (fU_told a0) := by
  unfold gU_told fU_told
  (repeat' (first | rfl | split))
set_option maxHeartbeats 4000000 in
set_option maxRecDepth 20000 in
theorem cU_told (E : bz_E) {M : bz_Mm} {a0 : Int} : bz_Ct E yU_told (.code yU_told prog_1_method_47_code 2 (some .int)) 1 23 [bz_l a0] M (some (bz_i (fU_told a0))) M := by
  have hf := tU_told a0
  refine bz_met (by decide +kernel) (Nat.le_of_ble_eq_true rfl) (fun K X => ?_)
  have X : bz_X K E prog_1_method_47_code 2 "UnitsWrong" (some .int) 1 23 _ _ := X
  unfold gU_told at hf
  generalize fU_told a0 = rr at hf X
  show bz_J K 2 0 [(0, bz_l a0)] [] M
  refine j_ldc2 X (v := -2000000000) wd_923 dU_told_0 ?_
  refine j_ldc2 X (v := 2000000000) wd_924 dU_told_3 ?_
  refine j_lload_n X dU_told_6 rfl 0 rfl ?_
  refine j_cs X (st := [bz_l ((-2000000000))]) (cJM_min1 E) gyJM_min1 wd_834 rfl (by decide) (by decide) wd_925 rfl (Nat.le_of_ble_eq_true rfl) dU_told_7 ?_
  refine j_cs X (st := []) (cJM_max1 E) gyJM_max1 wd_837 rfl (by decide) (by decide) wd_926 rfl (Nat.le_of_ble_eq_true rfl) dU_told_10 ?_
  refine j_l2i X dU_told_13 ?_
  cases hf
  exact j_iret X dU_told_14 rfl rfl
def fU_fee (F : Nat) (M : bz_Mm) (a1 : Int) (a2 : Int) (a3 : Int) : Option (Int × bz_Mm) :=
  cl_ (fU_isBooked F M a1 a2) fun x1 =>
  if w32 x1 = 0 then
  (some (((-1), M)))
  else
  (if w32 a3 < 0 then
  (some (((-1), M)))
  else
  (if 1 < w32 a3 then
  (some (((-1), M)))
  else
  (if w32 a3 = 0 then
  (rd_ M 49 (fU_slot a1 a2) 1040 fun x4 =>
  some ((fU_told x4, M)))
  else
  (cl_ (fUC_walkTo F M (fUS_latestKnown M)) fun m2 =>
  rd_ m2 57 (fU_slot a1 a2) 1040 fun x3 =>
  some ((fU_told x3, m2))))))
set_option maxHeartbeats 4000000 in
set_option maxRecDepth 20000 in
theorem cU_fee (E : bz_E) (F : Nat)  {M : bz_Mm} {a1 : Int} {a2 : Int} {a3 : Int} {x0 : Int × bz_Mm} (hf : fU_fee F M a1 a2 a3 = some x0) : bz_Ct E yU_fee (.code yU_fee prog_1_method_20_code 4 (some .int)) 6 145 [bz_rf E 0, bz_i a1, bz_i a2, bz_i a3] M (some (bz_i x0.1)) x0.2 := by
  refine bz_met (by decide +kernel) (Nat.le_of_ble_eq_true rfl) (fun K X => ?_)
  have X : bz_X K E prog_1_method_20_code 4 "UnitsWrong" (some .int) 6 145 _ _ := X
  unfold fU_fee at hf
  show bz_J K 4 0 [(0, bz_rf E 0), (1, bz_i a1), (2, bz_i a2), (3, bz_i a3)] [] M
  refine j_aload_n X dU_fee_0 rfl 0 rfl ?_
  refine j_iload_n X dU_fee_1 rfl 1 rfl ?_
  refine j_iload_n X dU_fee_2 rfl 2 rfl ?_
  obtain ⟨x1, hzx1, hf⟩ := q_cl hf
  refine j_cv X (st := []) (cU_isBooked E F hzx1) gyU_isBooked gv_U_isBooked_0 rfl (by decide) (by decide) wd_902 rfl (Nat.le_of_ble_eq_true rfl) dU_fee_3 ?_
  refine j_if_eq X (tgt := 18) rfl dU_fee_6 (by decide) hf (fun hf => ?_) (fun hf => ?_)
  · refine j_iconst X dU_fee_18 ?_
    cases hf
    exact j_iret X dU_fee_19 rfl rfl
  · refine j_iload_n X dU_fee_9 rfl 3 rfl ?_
    refine j_if_lt X (tgt := 18) rfl dU_fee_10 (by decide) hf (fun hf => ?_) (fun hf => ?_)
    · refine j_iconst X dU_fee_18 ?_
      cases hf
      exact j_iret X dU_fee_19 rfl rfl
    · refine j_iload_n X dU_fee_13 rfl 3 rfl ?_
      refine j_iconst X dU_fee_14 ?_
      refine j_icmp_le X (tgt := 20) rfl (w32_lit rfl) dU_fee_15 (by decide) hf (fun hf => ?_) (fun hf => ?_)
      · refine j_iload_n X dU_fee_20 rfl 3 rfl ?_
        refine j_if_ne X (tgt := 41) rfl dU_fee_21 (by decide) hf (fun hf => ?_) (fun hf => ?_)
        · refine j_aload_n X dU_fee_41 rfl 0 rfl ?_
          refine j_geta X gf_U_26_0 dU_fee_42 ?_
          refine j_aload_n X dU_fee_45 rfl 0 rfl ?_
          refine j_geta X gf_U_10_0 dU_fee_46 ?_
          refine j_aload_n X dU_fee_49 rfl 0 rfl ?_
          refine j_geta X gf_U_10_0 dU_fee_50 ?_
          refine j_cv X (st := [bz_rf E 1, bz_rf E 53]) (cUS_latestKnown E) gyUS_latestKnown gv_US_latestKnown_1 rfl (by decide) (by decide) wd_911 rfl (Nat.le_of_ble_eq_true rfl) dU_fee_53 ?_
          show bz_J _ _ 56 _ _ _
          obtain ⟨m2, hz, hf⟩ := q_cl hf
          refine j_cv X (st := []) (cUC_walkTo E F hz) gyUC_walkTo gv_UC_walkTo_53 rfl (by decide) (by decide) wd_915 rfl (Nat.le_of_ble_eq_true rfl) dU_fee_56 ?_
          clear hz
          refine j_aload_n X dU_fee_59 rfl 0 rfl ?_
          refine j_geta X gf_U_26_0 dU_fee_60 ?_
          refine j_geta X gf_U_222_53 dU_fee_63 ?_
          refine j_iload_n X dU_fee_66 rfl 1 rfl ?_
          refine j_iload_n X dU_fee_67 rfl 2 rfl ?_
          refine j_cs X (st := [bz_rf E 57]) (cU_slot E) gyU_slot wd_853 rfl (by decide) (by decide) wd_906 rfl (Nat.le_of_ble_eq_true rfl) dU_fee_68 ?_
          refine j_lald X sh_57 dU_fee_71 hf (fun x3 hf => ?_)
          show bz_J _ _ 72 _ _ _
          refine j_cs X (st := []) (cU_told E) gyU_told wd_921 rfl (by decide) (by decide) wd_920 rfl (Nat.le_of_ble_eq_true rfl) dU_fee_72 ?_
          cases hf
          exact j_iret X dU_fee_75 rfl rfl
        · refine j_aload_n X dU_fee_24 rfl 0 rfl ?_
          refine j_geta X gf_U_10_0 dU_fee_25 ?_
          refine j_geta X gf_U_216_1 dU_fee_28 ?_
          refine j_iload_n X dU_fee_31 rfl 1 rfl ?_
          refine j_iload_n X dU_fee_32 rfl 2 rfl ?_
          refine j_cs X (st := [bz_rf E 49]) (cU_slot E) gyU_slot wd_853 rfl (by decide) (by decide) wd_906 rfl (Nat.le_of_ble_eq_true rfl) dU_fee_33 ?_
          refine j_lald X sh_49 dU_fee_36 hf (fun x4 hf => ?_)
          show bz_J _ _ 37 _ _ _
          refine j_cs X (st := []) (cU_told E) gyU_told wd_921 rfl (by decide) (by decide) wd_920 rfl (Nat.le_of_ble_eq_true rfl) dU_fee_37 ?_
          cases hf
          exact j_iret X dU_fee_40 rfl rfl
      · refine j_iconst X dU_fee_18 ?_
        cases hf
        exact j_iret X dU_fee_19 rfl rfl
def fUC_errorOn (F : Nat) (M : bz_Mm) (a2 : Int) : Option (Int) :=
  rd_ M 48 a2 1040 fun x1 =>
  rd_ M 56 a2 1040 fun x2 =>
  some (x1 - x2)
set_option maxHeartbeats 4000000 in
set_option maxRecDepth 20000 in
theorem cUC_errorOn (E : bz_E) (F : Nat)  {M : bz_Mm} {a2 : Int} {x0 : Int} (hf : fUC_errorOn F M a2 = some x0) : bz_Ct E yUC_errorOn (.code yUC_errorOn prog_5_method_2_code 3 (some .int)) 0 0 [bz_rf E 53, bz_rf E 1, bz_i a2] M (some (bz_i x0)) M := by
  refine bz_met (by decide +kernel) (Nat.le_of_ble_eq_true rfl) (fun K X => ?_)
  have X : bz_X K E prog_5_method_2_code 3 "UnitsWrong$Course" (some .int) 0 0 _ _ := X
  unfold fUC_errorOn at hf
  show bz_J K 3 0 [(0, bz_rf E 53), (1, bz_rf E 1), (2, bz_i a2)] [] M
  refine j_aload_n X dUC_errorOn_0 rfl 1 rfl ?_
  refine j_geta X gf_UC_50_1 dUC_errorOn_1 ?_
  refine j_iload_n X dUC_errorOn_4 rfl 2 rfl ?_
  refine j_iald X sh_48 dUC_errorOn_5 hf (fun x1 hf => ?_)
  refine j_aload_n X dUC_errorOn_6 rfl 0 rfl ?_
  refine j_geta X gf_UC_18_53 dUC_errorOn_7 ?_
  refine j_iload_n X dUC_errorOn_10 rfl 2 rfl ?_
  show bz_J _ _ 11 _ _ _
  refine j_iald X sh_56 dUC_errorOn_11 hf (fun x2 hf => ?_)
  refine j_isub X dUC_errorOn_12 ?_
  cases hf
  exact j_iret X dUC_errorOn_13 rfl rfl
def fU_error (F : Nat) (M : bz_Mm) (a1 : Int) (a2 : Int) (a3 : Int) : Option (Int × bz_Mm) :=
  cl_ (fU_isBooked F M a1 a2) fun x1 =>
  if w32 x1 = 0 then
  (some (((-2147483648), M)))
  else
  (if w32 a3 < w32 a2 then
  (some (((-2147483648), M)))
  else
  (if w32 (fUS_latestKnown M) < w32 a3 then
  (some (((-2147483648), M)))
  else
  (cl_ (fUC_walkTo F M a3) fun m2 =>
  cl_ (fUC_errorOn F m2 (fU_slot a1 a2)) fun x3 =>
  some ((x3, m2)))))
set_option maxHeartbeats 4000000 in
set_option maxRecDepth 20000 in
theorem cU_error (E : bz_E) (F : Nat)  {M : bz_Mm} {a1 : Int} {a2 : Int} {a3 : Int} {x0 : Int × bz_Mm} (hf : fU_error F M a1 a2 a3 = some x0) : bz_Ct E yU_error (.code yU_error prog_1_method_21_code 4 (some .int)) 6 145 [bz_rf E 0, bz_i a1, bz_i a2, bz_i a3] M (some (bz_i x0.1)) x0.2 := by
  refine bz_met (by decide +kernel) (Nat.le_of_ble_eq_true rfl) (fun K X => ?_)
  have X : bz_X K E prog_1_method_21_code 4 "UnitsWrong" (some .int) 6 145 _ _ := X
  unfold fU_error at hf
  show bz_J K 4 0 [(0, bz_rf E 0), (1, bz_i a1), (2, bz_i a2), (3, bz_i a3)] [] M
  refine j_aload_n X dU_error_0 rfl 0 rfl ?_
  refine j_iload_n X dU_error_1 rfl 1 rfl ?_
  refine j_iload_n X dU_error_2 rfl 2 rfl ?_
  obtain ⟨x1, hzx1, hf⟩ := q_cl hf
  refine j_cv X (st := []) (cU_isBooked E F hzx1) gyU_isBooked gv_U_isBooked_0 rfl (by decide) (by decide) wd_902 rfl (Nat.le_of_ble_eq_true rfl) dU_error_3 ?_
  refine j_if_eq X (tgt := 25) rfl dU_error_6 (by decide) hf (fun hf => ?_) (fun hf => ?_)
  · refine j_ldc X (v := -2147483648) wd_571 dU_error_25 ?_
    cases hf
    exact j_iret X dU_error_27 rfl rfl
  · refine j_iload_n X dU_error_9 rfl 3 rfl ?_
    refine j_iload_n X dU_error_10 rfl 2 rfl ?_
    refine j_icmp_lt X (tgt := 25) rfl rfl dU_error_11 (by decide) hf (fun hf => ?_) (fun hf => ?_)
    · refine j_ldc X (v := -2147483648) wd_571 dU_error_25 ?_
      cases hf
      exact j_iret X dU_error_27 rfl rfl
    · refine j_iload_n X dU_error_14 rfl 3 rfl ?_
      refine j_aload_n X dU_error_15 rfl 0 rfl ?_
      refine j_geta X gf_U_10_0 dU_error_16 ?_
      refine j_cv X (st := [bz_i a3]) (cUS_latestKnown E) gyUS_latestKnown gv_US_latestKnown_1 rfl (by decide) (by decide) wd_911 rfl (Nat.le_of_ble_eq_true rfl) dU_error_19 ?_
      refine j_icmp_le X (tgt := 28) rfl rfl dU_error_22 (by decide) hf (fun hf => ?_) (fun hf => ?_)
      · refine j_aload_n X dU_error_28 rfl 0 rfl ?_
        refine j_geta X gf_U_26_0 dU_error_29 ?_
        refine j_aload_n X dU_error_32 rfl 0 rfl ?_
        refine j_geta X gf_U_10_0 dU_error_33 ?_
        refine j_iload_n X dU_error_36 rfl 3 rfl ?_
        obtain ⟨m2, hz, hf⟩ := q_cl hf
        refine j_cv X (st := []) (cUC_walkTo E F hz) gyUC_walkTo gv_UC_walkTo_53 rfl (by decide) (by decide) wd_915 rfl (Nat.le_of_ble_eq_true rfl) dU_error_37 ?_
        clear hz
        refine j_aload_n X dU_error_40 rfl 0 rfl ?_
        show bz_J _ _ 41 _ _ _
        refine j_geta X gf_U_26_0 dU_error_41 ?_
        refine j_aload_n X dU_error_44 rfl 0 rfl ?_
        refine j_geta X gf_U_10_0 dU_error_45 ?_
        refine j_iload_n X dU_error_48 rfl 1 rfl ?_
        refine j_iload_n X dU_error_49 rfl 2 rfl ?_
        refine j_cs X (st := [bz_rf E 1, bz_rf E 53]) (cU_slot E) gyU_slot wd_853 rfl (by decide) (by decide) wd_906 rfl (Nat.le_of_ble_eq_true rfl) dU_error_50 ?_
        obtain ⟨x3, hzx3, hf⟩ := q_cl hf
        refine j_cv X (st := []) (cUC_errorOn E F hzx3) gyUC_errorOn gv_UC_errorOn_53 rfl (by decide) (by decide) wd_931 rfl (Nat.le_of_ble_eq_true rfl) dU_error_53 ?_
        cases hf
        exact j_iret X dU_error_56 rfl rfl
      · refine j_ldc X (v := -2147483648) wd_571 dU_error_25 ?_
        cases hf
        exact j_iret X dU_error_27 rfl rfl
def gJM_abs0 (a0 : Int) : Option Int :=
  if w32 a0 < 0 then
  (some (-a0))
  else
  (some a0)
def fJM_abs0 (a0 : Int) : Int :=
  if w32 a0 < 0 then
  ((-a0))
  else
  (a0)
theorem tJM_abs0 (a0 : Int) : gJM_abs0 a0 = some (fJM_abs0 a0) := by
  unfold gJM_abs0 fJM_abs0
  (repeat' (first | rfl | split))
set_option maxHeartbeats 4000000 in
set_option maxRecDepth 20000 in
theorem cJM_abs0 (E : bz_E) {M : bz_Mm} {a0 : Int} : bz_Ct E yJM_abs0 (.code yJM_abs0 prog_16_method_59_code 1 (some .int)) 0 0 [bz_i a0] M (some (bz_i (fJM_abs0 a0))) M := by
  have hf := tJM_abs0 a0
  refine bz_metF (by decide +kernel) (Nat.le_of_ble_eq_true rfl) (fun K X => ?_)
  have X : bz_X K E prog_16_method_59_code 1 "java/lang/Math" (some .int) 0 0 _ _ := X
  unfold gJM_abs0 at hf
  generalize fJM_abs0 a0 = rr at hf X
  show bz_J K 1 0 [(0, bz_i a0)] [] M
  refine j_iload_n X dJM_abs0_0 rfl 0 rfl ?_
  refine j_if_ge X (tgt := 9) rfl dJM_abs0_1 (by decide) hf (fun hf => ?_) (fun hf => ?_)
  · refine j_iload_n X dJM_abs0_9 rfl 0 rfl ?_
    cases hf
    exact j_iret X dJM_abs0_10 rfl rfl
  · refine j_iload_n X dJM_abs0_4 rfl 0 rfl ?_
    refine j_ineg X dJM_abs0_5 ?_
    refine j_goto X (tgt := 10) dJM_abs0_6 (by decide) ?_
    cases hf
    exact j_iret X dJM_abs0_10 rfl rfl
def fUC_errorCounts (F : Nat) (M : bz_Mm) (a2 : Int) (a3 : Int) : Option (Int) :=
  cl_ (fUC_errorOn F M a2) fun x1 =>
  rd_ M 56 a2 1040 fun x2 =>
  if w64 ((w32 a3) * (w32 x2)) < w64 (10000 * (w32 (fJM_abs0 x1))) then
  (some 1)
  else
  (some 0)
set_option maxHeartbeats 4000000 in
set_option maxRecDepth 20000 in
theorem cUC_errorCounts (E : bz_E) (F : Nat)  {M : bz_Mm} {a2 : Int} {a3 : Int} {x0 : Int} (hf : fUC_errorCounts F M a2 a3 = some x0) : bz_Ct E yUC_errorCounts (.code yUC_errorCounts prog_5_method_3_code 4 (some .boolean)) 1 22 [bz_rf E 53, bz_rf E 1, bz_i a2, bz_i a3] M (some (bz_i x0)) M := by
  refine bz_met (by decide +kernel) (Nat.le_of_ble_eq_true rfl) (fun K X => ?_)
  have X : bz_X K E prog_5_method_3_code 4 "UnitsWrong$Course" (some .boolean) 1 22 _ _ := X
  unfold fUC_errorCounts at hf
  show bz_J K 4 0 [(0, bz_rf E 53), (1, bz_rf E 1), (2, bz_i a2), (3, bz_i a3)] [] M
  refine j_ldc2 X (v := 10000) wd_865 dUC_errorCounts_0 ?_
  refine j_aload_n X dUC_errorCounts_3 rfl 0 rfl ?_
  refine j_aload_n X dUC_errorCounts_4 rfl 1 rfl ?_
  refine j_iload_n X dUC_errorCounts_5 rfl 2 rfl ?_
  obtain ⟨x1, hzx1, hf⟩ := q_cl hf
  refine j_cv X (st := [bz_l 10000]) (cUC_errorOn E F hzx1) gyUC_errorOn gv_UC_errorOn_53 rfl (by decide) (by decide) wd_944 rfl (Nat.le_of_ble_eq_true rfl) dUC_errorCounts_6 ?_
  refine j_cs X (st := [bz_l 10000]) (cJM_abs0 E) gyJM_abs0 wd_946 rfl (by decide) (by decide) wd_945 rfl (Nat.le_of_ble_eq_true rfl) dUC_errorCounts_9 ?_
  refine j_i2l X rfl dUC_errorCounts_12 ?_
  show bz_J _ _ 13 _ _ _
  refine j_lmul X dUC_errorCounts_13 ?_
  refine j_iload_n X dUC_errorCounts_14 rfl 3 rfl ?_
  refine j_i2l X rfl dUC_errorCounts_15 ?_
  refine j_aload_n X dUC_errorCounts_16 rfl 0 rfl ?_
  refine j_geta X gf_UC_18_53 dUC_errorCounts_17 ?_
  refine j_iload_n X dUC_errorCounts_20 rfl 2 rfl ?_
  refine j_iald X sh_56 dUC_errorCounts_21 hf (fun x2 hf => ?_)
  refine j_i2l X rfl dUC_errorCounts_22 ?_
  show bz_J _ _ 23 _ _ _
  refine j_lmul X dUC_errorCounts_23 ?_
  refine j_lcmp_le X (tgt := 32) rfl rfl dUC_errorCounts_24 dUC_errorCounts_25 (by decide) hf (fun hf => ?_) (fun hf => ?_)
  · refine j_iconst X dUC_errorCounts_32 ?_
    cases hf
    exact j_zret X (by decide +kernel) dUC_errorCounts_33 rfl rfl
  · refine j_iconst X dUC_errorCounts_28 ?_
    refine j_goto X (tgt := 33) dUC_errorCounts_29 (by decide) ?_
    cases hf
    exact j_zret X (by decide +kernel) dUC_errorCounts_33 rfl rfl
def U_errors_L53 (F : Nat) : Nat → bz_Mm → Int → Int → Int → Int → Int → Option (Int)
  | 0, _, _, _, _, _, _ => none
  | n + 1, M, l3, l2, l1, l5, l4 =>
    if w32 (fUS_lastOver M l2) < w32 l5 then
    (some l4)
    else
    (cl_ (fUS_isOpen F M l5) fun x3 =>
    if w32 x3 = 0 then
    (U_errors_L53 F n M l3 l2 l1 (l5 + 1) l4)
    else
    (cl_ (fUC_errorCounts F M (fU_slot l1 l5) l3) fun x4 =>
    if w32 x4 = 0 then
    (U_errors_L53 F n M l3 l2 l1 (l5 + 1) l4)
    else
    (U_errors_L53 F n M l3 l2 l1 (l5 + 1) (l4 + 1))))
theorem lU_errors_L53 (E : bz_E) (F : Nat) {K : bz_K} {rv : Option Value} {M1 : bz_Mm} (X : bz_X K E prog_1_method_22_code 6 "UnitsWrong" (some .int) 6 145 rv M1) {M : bz_Mm} {l3 : Int} {l2 : Int} {l1 : Int} {res : (Int)}
    (kx : ∀ (l4 : Int), some l4 = some res → bz_J K 6 108 [(4, bz_i l4)] [] M) :
    ∀ (n : Nat) (l5 : Int) (l4 : Int), U_errors_L53 F n M l3 l2 l1 l5 l4 = some res → bz_J K 6 53 [(5, bz_i l5), (4, bz_i l4), (3, bz_i l3), (2, bz_i l2), (0, bz_rf E 0), (1, bz_i l1)] [] M := by
  intro n
  induction n with
  | zero => intro l5 l4 hf; cases hf
  | succ n ih =>
    intro l5 l4 hf
    rw [U_errors_L53] at hf
    refine j_iload X dU_errors_53 0 rfl ?_
    refine j_aload_n X dU_errors_55 rfl 4 rfl ?_
    refine j_geta X gf_U_10_0 dU_errors_56 ?_
    refine j_iload_n X dU_errors_59 rfl 3 rfl ?_
    refine j_cv X (st := [bz_i l5]) (cUS_lastOver E) gyUS_lastOver gv_US_lastOver_1 rfl (by decide) (by decide) wd_939 rfl (Nat.le_of_ble_eq_true rfl) dU_errors_60 ?_
    refine j_icmp_gt X (tgt := 108) rfl rfl dU_errors_63 (by decide) hf (fun hf => ?_) (fun hf => ?_)
    · exact j_sub [1] rfl (kx _ hf)
    · refine j_aload_n X dU_errors_66 rfl 4 rfl ?_
      refine j_geta X gf_U_10_0 dU_errors_67 ?_
      refine j_iload X dU_errors_70 0 rfl ?_
      obtain ⟨x3, hzx3, hf⟩ := q_cl hf
      refine j_cv X (st := []) (cUS_isOpen E F hzx3) gyUS_isOpen gv_US_isOpen_1 rfl (by decide) (by decide) wd_541 rfl (Nat.le_of_ble_eq_true rfl) dU_errors_72 ?_
      refine j_if_eq X (tgt := 102) rfl dU_errors_75 (by decide) hf (fun hf => ?_) (fun hf => ?_)
      · refine j_iinc X (y := l5 + 1) (lv' := [(5, bz_i (l5 + 1)), (4, bz_i l4), (3, bz_i l3), (2, bz_i l2), (0, bz_rf E 0), (1, bz_i l1)]) dU_errors_102 0 rfl rfl (by decide) rfl ?_
        refine j_goto X (tgt := 53) dU_errors_105 (by decide) ?_
        exact ih _ _ hf
      · refine j_aload_n X dU_errors_78 rfl 4 rfl ?_
        refine j_geta X gf_U_26_0 dU_errors_79 ?_
        refine j_aload_n X dU_errors_82 rfl 4 rfl ?_
        refine j_geta X gf_U_10_0 dU_errors_83 ?_
        refine j_iload_n X dU_errors_86 rfl 5 rfl ?_
        refine j_iload X dU_errors_87 0 rfl ?_
        refine j_cs X (st := [bz_rf E 1, bz_rf E 53]) (cU_slot E) gyU_slot wd_853 rfl (by decide) (by decide) wd_906 rfl (Nat.le_of_ble_eq_true rfl) dU_errors_89 ?_
        show bz_J _ _ 92 _ _ _
        refine j_iload_n X dU_errors_92 rfl 2 rfl ?_
        obtain ⟨x4, hzx4, hf⟩ := q_cl hf
        refine j_cv X (st := []) (cUC_errorCounts E F hzx4) gyUC_errorCounts gv_UC_errorCounts_53 rfl (by decide) (by decide) wd_940 rfl (Nat.le_of_ble_eq_true rfl) dU_errors_93 ?_
        refine j_if_eq X (tgt := 102) rfl dU_errors_96 (by decide) hf (fun hf => ?_) (fun hf => ?_)
        · refine j_iinc X (y := l5 + 1) (lv' := [(5, bz_i (l5 + 1)), (4, bz_i l4), (3, bz_i l3), (2, bz_i l2), (0, bz_rf E 0), (1, bz_i l1)]) dU_errors_102 0 rfl rfl (by decide) rfl ?_
          refine j_goto X (tgt := 53) dU_errors_105 (by decide) ?_
          exact ih _ _ hf
        · refine j_iinc X (y := l4 + 1) (lv' := [(4, bz_i (l4 + 1)), (5, bz_i l5), (3, bz_i l3), (2, bz_i l2), (0, bz_rf E 0), (1, bz_i l1)]) dU_errors_99 1 rfl rfl (by decide) rfl ?_
          refine j_iinc X (y := l5 + 1) (lv' := [(5, bz_i (l5 + 1)), (4, bz_i (l4 + 1)), (3, bz_i l3), (2, bz_i l2), (0, bz_rf E 0), (1, bz_i l1)]) dU_errors_102 1 rfl rfl (by decide) rfl ?_
          refine j_goto X (tgt := 53) dU_errors_105 (by decide) ?_
          exact ih _ _ hf
def fU_errors (F : Nat) (M : bz_Mm) (a1 : Int) : Option (Int × bz_Mm) :=
  if w32 (fUS_isFund M a1) = 0 then
  (some (((-1), M)))
  else
  (lt_ (fUS_latestKnown M) fun l2 =>
  cl_ (fUC_walkTo F M l2) fun m1 =>
  cl_ (fUL_value F m1 a1 l2 4) fun x2 =>
  cl1_ (U_errors_L53 F F m1 x2 l2 a1 0 0) fun l4 =>
  some ((l4, m1)))
set_option maxHeartbeats 4000000 in
set_option maxRecDepth 20000 in
theorem cU_errors (E : bz_E) (F : Nat)  {M : bz_Mm} {a1 : Int} {x0 : Int × bz_Mm} (hf : fU_errors F M a1 = some x0) : bz_Ct E yU_errors (.code yU_errors prog_1_method_22_code 6 (some .int)) 6 145 [bz_rf E 0, bz_i a1] M (some (bz_i x0.1)) x0.2 := by
  refine bz_met (by decide +kernel) (Nat.le_of_ble_eq_true rfl) (fun K X => ?_)
  have X : bz_X K E prog_1_method_22_code 6 "UnitsWrong" (some .int) 6 145 _ _ := X
  unfold fU_errors at hf
  show bz_J K 6 0 [(0, bz_rf E 0), (1, bz_i a1)] [] M
  refine j_aload_n X dU_errors_0 rfl 0 rfl ?_
  refine j_geta X gf_U_10_0 dU_errors_1 ?_
  refine j_iload_n X dU_errors_4 rfl 1 rfl ?_
  refine j_cv X (st := []) (cUS_isFund E) gyUS_isFund gv_US_isFund_1 rfl (by decide) (by decide) wd_584 rfl (Nat.le_of_ble_eq_true rfl) dU_errors_5 ?_
  refine j_if_ne X (tgt := 13) rfl dU_errors_8 (by decide) hf (fun hf => ?_) (fun hf => ?_)
  · refine j_aload_n X dU_errors_13 rfl 0 rfl ?_
    refine j_geta X gf_U_10_0 dU_errors_14 ?_
    refine j_cv X (st := []) (cUS_latestKnown E) gyUS_latestKnown gv_US_latestKnown_1 rfl (by decide) (by decide) wd_911 rfl (Nat.le_of_ble_eq_true rfl) dU_errors_17 ?_
    refine j_lt (g := bz_i) hf (fun l2 hf => ?_)
    refine j_istore_n X (lv' := [(2, bz_i l2), (0, bz_rf E 0), (1, bz_i a1)]) dU_errors_20 rfl (by decide) rfl ?_
    refine j_aload_n X dU_errors_21 rfl 1 rfl ?_
    refine j_geta X gf_U_26_0 dU_errors_22 ?_
    refine j_aload_n X dU_errors_25 rfl 1 rfl ?_
    show bz_J _ _ 26 _ _ _
    refine j_geta X gf_U_10_0 dU_errors_26 ?_
    refine j_iload_n X dU_errors_29 rfl 0 rfl ?_
    obtain ⟨m1, hz, hf⟩ := q_cl hf
    refine j_cv X (st := []) (cUC_walkTo E F hz) gyUC_walkTo gv_UC_walkTo_53 rfl (by decide) (by decide) wd_915 rfl (Nat.le_of_ble_eq_true rfl) dU_errors_30 ?_
    clear hz
    refine j_aload_n X dU_errors_33 rfl 1 rfl ?_
    refine j_geta X gf_U_10_0 dU_errors_34 ?_
    refine j_geta X gf_U_173_1 dU_errors_37 ?_
    refine j_iload_n X dU_errors_40 rfl 2 rfl ?_
    refine j_iload_n X dU_errors_41 rfl 0 rfl ?_
    show bz_J _ _ 42 _ _ _
    refine j_iconst X dU_errors_42 ?_
    obtain ⟨x2, hzx2, hf⟩ := q_cl hf
    refine j_cv X (st := []) (cUL_value E F hzx2) gyUL_value gv_UL_value_45 rfl (by decide) (by decide) wd_776 rfl (Nat.le_of_ble_eq_true rfl) dU_errors_43 ?_
    refine j_istore_n X (lv' := [(3, bz_i x2), (2, bz_i l2), (0, bz_rf E 0), (1, bz_i a1)]) dU_errors_46 rfl (by decide) rfl ?_
    refine j_iconst X dU_errors_47 ?_
    refine j_istore X (lv' := [(4, bz_i 0), (3, bz_i x2), (2, bz_i l2), (0, bz_rf E 0), (1, bz_i a1)]) dU_errors_48 (by decide) rfl ?_
    refine j_iconst X dU_errors_50 ?_
    refine j_istore X (lv' := [(5, bz_i 0), (4, bz_i 0), (3, bz_i x2), (2, bz_i l2), (0, bz_rf E 0), (1, bz_i a1)]) dU_errors_51 (by decide) rfl ?_
    obtain ⟨res5, hz5, hk5⟩ := q_l1 hf
    clear hf
    refine lU_errors_L53 E F X (fun l4 he => ?_) F 0 0 hz5
    have hf := hk5 _ he
    refine j_iload X dU_errors_108 0 rfl ?_
    cases hf
    exact j_iret X dU_errors_110 rfl rfl
  · refine j_iconst X dU_errors_11 ?_
    cases hf
    exact j_iret X dU_errors_12 rfl rfl
def fU_units (F : Nat) (M : bz_Mm) (a1 : Int) (a2 : Int) : Option (Int) :=
  if w32 (fUS_isWho M a1 a2) = 0 then
  (some ((-1)))
  else
  (rd_ M 43 ((a1 * 4) + a2) 96 fun x1 =>
  some x1)
set_option maxHeartbeats 4000000 in
set_option maxRecDepth 20000 in
theorem cU_units (E : bz_E) (F : Nat)  {M : bz_Mm} {a1 : Int} {a2 : Int} {x0 : Int} (hf : fU_units F M a1 a2 = some x0) : bz_Ct E yU_units (.code yU_units prog_1_method_23_code 3 (some .int)) 2 43 [bz_rf E 0, bz_i a1, bz_i a2] M (some (bz_i x0)) M := by
  refine bz_met (by decide +kernel) (Nat.le_of_ble_eq_true rfl) (fun K X => ?_)
  have X : bz_X K E prog_1_method_23_code 3 "UnitsWrong" (some .int) 2 43 _ _ := X
  unfold fU_units at hf
  show bz_J K 3 0 [(0, bz_rf E 0), (1, bz_i a1), (2, bz_i a2)] [] M
  refine j_aload_n X dU_units_0 rfl 0 rfl ?_
  refine j_geta X gf_U_10_0 dU_units_1 ?_
  refine j_iload_n X dU_units_4 rfl 1 rfl ?_
  refine j_iload_n X dU_units_5 rfl 2 rfl ?_
  refine j_cv X (st := []) (cUS_isWho E) gyUS_isWho gv_US_isWho_1 rfl (by decide) (by decide) wd_600 rfl (Nat.le_of_ble_eq_true rfl) dU_units_6 ?_
  refine j_if_eq X (tgt := 31) rfl dU_units_9 (by decide) hf (fun hf => ?_) (fun hf => ?_)
  · refine j_iconst X dU_units_31 ?_
    cases hf
    exact j_iret X dU_units_32 rfl rfl
  · refine j_aload_n X dU_units_12 rfl 0 rfl ?_
    refine j_geta X gf_U_10_0 dU_units_13 ?_
    refine j_geta X gf_U_155_1 dU_units_16 ?_
    refine j_geta X gf_U_237_33 dU_units_19 ?_
    refine j_iload_n X dU_units_22 rfl 1 rfl ?_
    refine j_iconst X dU_units_23 ?_
    refine j_imul X dU_units_24 ?_
    show bz_J _ _ 25 _ _ _
    refine j_iload_n X dU_units_25 rfl 2 rfl ?_
    refine j_iadd X dU_units_26 ?_
    refine j_iald X sh_43 dU_units_27 hf (fun x1 hf => ?_)
    refine j_goto X (tgt := 32) dU_units_28 (by decide) ?_
    cases hf
    exact j_iret X dU_units_32 rfl rfl
def JA_fill0_L6 (F : Nat) : Nat → Nat → Nat → Int → Int → Int → bz_Mm → Option (bz_Mm)
  | 0, _, _, _, _, _, _ => none
  | n + 1, r0, n0, l4, l1, l3, M =>
    if w32 l3 < w32 l4 then
    (wa_ M r0 l3 n0 l1 fun m1 =>
    JA_fill0_L6 F n r0 n0 l4 l1 (l3 + 1) m1)
    else
    (some M)
theorem lJA_fill0_L6 (E : bz_E) (F : Nat) {K : bz_K} {rv : Option Value} {M1 : bz_Mm} (X : bz_X K E prog_21_method_101_code 5 "java/util/Arrays" none 0 0 rv M1) {r0 : Nat} {n0 : Nat} {l4 : Int} {l1 : Int} (hr0 : bz_shl[r0]? = some (.inl (1, n0, 0))) {res : (bz_Mm)}
    (kx : ∀ (M : bz_Mm), some M = some res → bz_J K 5 22 [] [] M) :
    ∀ (n : Nat) (l3 : Int) (M : bz_Mm), JA_fill0_L6 F n r0 n0 l4 l1 l3 M = some res → bz_J K 5 6 [(4, bz_i l4), (3, bz_i l3), (0, bz_rf E r0), (1, bz_l l1)] [] M := by
  intro n
  induction n with
  | zero => intro l3 M hf; cases hf
  | succ n ih =>
    intro l3 M hf
    rw [JA_fill0_L6] at hf
    refine j_iload_n X dJA_fill0_6 rfl 1 rfl ?_
    refine j_iload X dJA_fill0_7 0 rfl ?_
    refine j_icmp_ge X (tgt := 22) rfl rfl dJA_fill0_9 (by decide) hf (fun hf => ?_) (fun hf => ?_)
    · exact j_sub [] rfl (kx _ hf)
    · refine j_aload_n X dJA_fill0_12 rfl 2 rfl ?_
      refine j_iload_n X dJA_fill0_13 rfl 1 rfl ?_
      refine j_lload_n X dJA_fill0_14 rfl 3 rfl ?_
      refine j_last X hr0 dJA_fill0_15 hf (fun m1 hf => ?_)
      refine j_iinc X (y := l3 + 1) (lv' := [(3, bz_i (l3 + 1)), (4, bz_i l4), (0, bz_rf E r0), (1, bz_l l1)]) dJA_fill0_16 1 rfl rfl (by decide) rfl ?_
      refine j_goto X (tgt := 6) dJA_fill0_19 (by decide) ?_
      exact j_sub [1, 0, 2, 3] rfl (ih _ _ hf)
def fJA_fill0 (F : Nat) (M : bz_Mm) (r0 : Nat) (n0 : Nat) (a1 : Int) : Option (bz_Mm) :=
  cl1_ (JA_fill0_L6 F F r0 n0 n0 a1 0 M) fun m2 =>
  some m2
set_option maxHeartbeats 4000000 in
set_option maxRecDepth 20000 in
theorem cJA_fill0 (E : bz_E) (F : Nat)  {M : bz_Mm} {r0 : Nat} {n0 : Nat} {a1 : Int} {x0 : bz_Mm} (hr0 : bz_shl[r0]? = some (.inl (1, n0, 0))) (hf : fJA_fill0 F M r0 n0 a1 = some x0) : bz_Ct E yJA_fill0 (.code yJA_fill0 prog_21_method_101_code 5 none) 0 0 [bz_rf E r0, bz_l a1] M (none) x0 := by
  refine bz_metF (by decide +kernel) (Nat.le_of_ble_eq_true rfl) (fun K X => ?_)
  have X : bz_X K E prog_21_method_101_code 5 "java/util/Arrays" none 0 0 _ _ := X
  unfold fJA_fill0 at hf
  show bz_J K 5 0 [(0, bz_rf E r0), (1, bz_l a1)] [] M
  refine j_iconst X dJA_fill0_0 ?_
  refine j_istore_n X (lv' := [(3, bz_i 0), (0, bz_rf E r0), (1, bz_l a1)]) dJA_fill0_1 rfl (by decide) rfl ?_
  refine j_aload_n X dJA_fill0_2 rfl 1 rfl ?_
  refine j_alen X hr0 (by decide) dJA_fill0_3 ?_
  refine j_istore X (lv' := [(4, bz_i n0), (3, bz_i 0), (0, bz_rf E r0), (1, bz_l a1)]) dJA_fill0_4 (by decide) rfl ?_
  obtain ⟨res3, hz3, hk3⟩ := q_l1 hf
  clear hf
  refine lJA_fill0_L6 E F X hr0 (fun m2 he => ?_) F 0 M hz3
  have hf := hk3 _ he
  cases hf
  exact j_vret X dJA_fill0_22 rfl rfl
def fUQ_addDeal (F : Nat) (M : bz_Mm) (a2 : Int) : Option (bz_Mm) :=
  rd_ M 41 a2 200 fun x1 =>
  rd_ M 42 a2 200 fun x2 =>
  lt_ (x1 - x2) fun l3 =>
  rd_ M 40 a2 200 fun x3 =>
  cl1_ (if 0 < w32 x3 then
  (some (l3))
  else
  (some (-l3))) fun v5 =>
  rd_ M 37 a2 200 fun x6 =>
  rd_ M 66 x6 24 fun x7 =>
  wa_ M 66 x6 24 (x7 + (fJM_max1 0 v5)) fun m8 =>
  rd_ m8 37 a2 200 fun x9 =>
  rd_ m8 67 x9 24 fun x10 =>
  wa_ m8 67 x9 24 (x10 + (fJM_max1 0 (-v5))) fun m11 =>
  some m11
set_option maxHeartbeats 4000000 in
set_option maxRecDepth 20000 in
theorem cUQ_addDeal (E : bz_E) (F : Nat)  {M : bz_Mm} {a2 : Int} {x0 : bz_Mm} (hf : fUQ_addDeal F M a2 = some x0) : bz_Ct E yUQ_addDeal (.code yUQ_addDeal prog_4_method_4_code 7 none) 1 23 [bz_rf E 65, bz_rf E 33, bz_i a2] M (none) x0 := by
  refine bz_met (by decide +kernel) (Nat.le_of_ble_eq_true rfl) (fun K X => ?_)
  have X : bz_X K E prog_4_method_4_code 7 "UnitsWrong$Claims" none 1 23 _ _ := X
  unfold fUQ_addDeal at hf
  show bz_J K 7 0 [(0, bz_rf E 65), (1, bz_rf E 33), (2, bz_i a2)] [] M
  refine j_aload_n X dUQ_addDeal_0 rfl 1 rfl ?_
  refine j_geta X gf_UQ_92_33 dUQ_addDeal_1 ?_
  refine j_iload_n X dUQ_addDeal_4 rfl 2 rfl ?_
  refine j_lald X sh_41 dUQ_addDeal_5 hf (fun x1 hf => ?_)
  refine j_aload_n X dUQ_addDeal_6 rfl 1 rfl ?_
  refine j_geta X gf_UQ_95_33 dUQ_addDeal_7 ?_
  refine j_iload_n X dUQ_addDeal_10 rfl 2 rfl ?_
  show bz_J _ _ 11 _ _ _
  refine j_lald X sh_42 dUQ_addDeal_11 hf (fun x2 hf => ?_)
  refine j_lsub X dUQ_addDeal_12 ?_
  refine j_lt (g := bz_l) hf (fun l3 hf => ?_)
  refine j_lstore_n X (lv' := [(3, bz_l l3), (0, bz_rf E 65), (1, bz_rf E 33), (2, bz_i a2)]) dUQ_addDeal_13 rfl (by decide) rfl ?_
  refine j_aload_n X dUQ_addDeal_14 rfl 2 rfl ?_
  refine j_geta X gf_UQ_75_33 dUQ_addDeal_15 ?_
  refine j_iload_n X dUQ_addDeal_18 rfl 3 rfl ?_
  refine j_iald X sh_40 dUQ_addDeal_19 hf (fun x3 hf => ?_)
  obtain ⟨resJ4, hf0, hkJ4⟩ := q_l1 hf
  have J4 : ∀ (v5 : Int), some v5 = some resJ4 → bz_J K 7 29 [(0, bz_rf E 65), (1, bz_rf E 33), (2, bz_i a2)] [bz_l v5] M := by
    intro v5 he
    have hf := hkJ4 _ he
    refine j_lstore X (lv' := [(5, bz_l v5), (0, bz_rf E 65), (1, bz_rf E 33), (2, bz_i a2)]) dUQ_addDeal_29 (by decide) rfl ?_
    refine j_aload_n X dUQ_addDeal_31 rfl 1 rfl ?_
    refine j_geta X gf_UQ_9_65 dUQ_addDeal_32 ?_
    refine j_aload_n X dUQ_addDeal_35 rfl 2 rfl ?_
    refine j_geta X gf_UQ_98_33 dUQ_addDeal_36 ?_
    refine j_iload_n X dUQ_addDeal_39 rfl 3 rfl ?_
    refine j_iald X sh_37 dUQ_addDeal_40 hf (fun x6 hf => ?_)
    show bz_J _ _ 41 _ _ _
    refine j_dup2 X dUQ_addDeal_41 rfl rfl ?_
    refine j_lald X sh_66 dUQ_addDeal_42 hf (fun x7 hf => ?_)
    refine j_lconst X (v := 0) dUQ_addDeal_43 rfl ?_
    refine j_lload X dUQ_addDeal_44 0 rfl ?_
    refine j_cs X (st := [bz_l x7, bz_i x6, bz_rf E 66]) (cJM_max1 E) gyJM_max1 wd_837 rfl (by decide) (by decide) wd_975 rfl (Nat.le_of_ble_eq_true rfl) dUQ_addDeal_46 ?_
    refine j_ladd X dUQ_addDeal_49 ?_
    refine j_last X sh_66 dUQ_addDeal_50 hf (fun m8 hf => ?_)
    refine j_aload_n X dUQ_addDeal_51 rfl 1 rfl ?_
    show bz_J _ _ 52 _ _ _
    refine j_geta X gf_UQ_15_65 dUQ_addDeal_52 ?_
    refine j_aload_n X dUQ_addDeal_55 rfl 2 rfl ?_
    refine j_geta X gf_UQ_98_33 dUQ_addDeal_56 ?_
    refine j_iload_n X dUQ_addDeal_59 rfl 3 rfl ?_
    refine j_iald X sh_37 dUQ_addDeal_60 hf (fun x9 hf => ?_)
    refine j_dup2 X dUQ_addDeal_61 rfl rfl ?_
    refine j_lald X sh_67 dUQ_addDeal_62 hf (fun x10 hf => ?_)
    refine j_lconst X (v := 0) dUQ_addDeal_63 rfl ?_
    show bz_J _ _ 64 _ _ _
    refine j_lload X dUQ_addDeal_64 0 rfl ?_
    refine j_lneg X dUQ_addDeal_66 ?_
    refine j_cs X (st := [bz_l x10, bz_i x9, bz_rf E 67]) (cJM_max1 E) gyJM_max1 wd_837 rfl (by decide) (by decide) wd_975 rfl (Nat.le_of_ble_eq_true rfl) dUQ_addDeal_67 ?_
    refine j_ladd X dUQ_addDeal_70 ?_
    refine j_last X sh_67 dUQ_addDeal_71 hf (fun m11 hf => ?_)
    cases hf
    exact j_vret X dUQ_addDeal_72 rfl rfl
  clear hf
  have hf := hf0
  clear hf0
  refine j_if_le X (tgt := 27) rfl dUQ_addDeal_20 (by decide) hf (fun hf => ?_) (fun hf => ?_)
  · refine j_lload_n X dUQ_addDeal_27 rfl 0 rfl ?_
    refine j_lneg X dUQ_addDeal_28 ?_
    exact j_sub [1, 2, 3] rfl (J4 _ hf)
  · refine j_lload_n X dUQ_addDeal_23 rfl 0 rfl ?_
    refine j_goto X (tgt := 29) dUQ_addDeal_24 (by decide) ?_
    exact j_sub [1, 2, 3] rfl (J4 _ hf)
def UQ_gatherBeyond_L44 (F : Nat) : Nat → Int → Int → Int → bz_Mm → Option (bz_Mm)
  | 0, _, _, _, _ => none
  | n + 1, l7, l5, l8, M =>
    if w32 l8 < w32 (M 34 2) then
    (rd_ M 35 l8 200 fun x5 =>
    rd_ M 38 l8 200 fun x6 =>
    cl1_ (if w32 x6 = w32 (M 65 3) then
    (if w32 l7 < w32 x5 then
    (some (0))
    else
    (rd_ M 40 l8 200 fun x9 =>
    if w32 x9 = 0 then
    (some (0))
    else
    (some (1))))
    else
    (some (0))) fun v8 =>
    if w32 v8 = 0 then
    (UQ_gatherBeyond_L44 F n l7 l5 (l8 + 1) M)
    else
    (cl_ (fUC_errorCounts F M (fU_slot (M 65 3) x5) l5) fun x10 =>
    if w32 x10 = 0 then
    (UQ_gatherBeyond_L44 F n l7 l5 (l8 + 1) M)
    else
    (cl_ (fUQ_addDeal F M l8) fun m11 =>
    UQ_gatherBeyond_L44 F n l7 l5 (l8 + 1) m11)))
    else
    (some M)
theorem lUQ_gatherBeyond_L44 (E : bz_E) (F : Nat) {K : bz_K} {rv : Option Value} {M1 : bz_Mm} (X : bz_X K E prog_4_method_3_code 11 "UnitsWrong$Claims" none 2 49 rv M1) {l7 : Int} {l5 : Int} {res : (bz_Mm)}
    (kx : ∀ (M : bz_Mm), some M = some res → bz_J K 11 148 [] [] M) :
    ∀ (n : Nat) (l8 : Int) (M : bz_Mm), UQ_gatherBeyond_L44 F n l7 l5 l8 M = some res → bz_J K 11 44 [(8, bz_i l8), (7, bz_i l7), (6, bz_rf E 33), (0, bz_rf E 65), (1, bz_rf E 1), (2, bz_rf E 53), (5, bz_i l5)] [] M := by
  intro n
  induction n with
  | zero => intro l8 M hf; cases hf
  | succ n ih =>
    intro l8 M hf
    rw [UQ_gatherBeyond_L44] at hf
    refine j_iload X dUQ_gatherBeyond_44 0 rfl ?_
    refine j_aload X dUQ_gatherBeyond_46 2 rfl ?_
    refine j_geta X gf_UQ_58_33 dUQ_gatherBeyond_48 ?_
    refine j_geti X gf_UQ_64_34 dUQ_gatherBeyond_51 ?_
    refine j_icmp_ge X (tgt := 148) rfl rfl dUQ_gatherBeyond_54 (by decide) hf (fun hf => ?_) (fun hf => ?_)
    · exact j_sub [] rfl (kx _ hf)
    · refine j_aload X dUQ_gatherBeyond_57 2 rfl ?_
      refine j_geta X gf_UQ_58_33 dUQ_gatherBeyond_59 ?_
      refine j_geta X gf_UQ_69_34 dUQ_gatherBeyond_62 ?_
      refine j_iload X dUQ_gatherBeyond_65 0 rfl ?_
      refine j_iald X sh_35 dUQ_gatherBeyond_67 hf (fun x5 hf => ?_)
      refine j_istore X (lv' := [(9, bz_i x5), (8, bz_i l8), (7, bz_i l7), (6, bz_rf E 33), (0, bz_rf E 65), (1, bz_rf E 1), (2, bz_rf E 53), (5, bz_i l5)]) dUQ_gatherBeyond_68 (by decide) rfl ?_
      refine j_aload X dUQ_gatherBeyond_70 3 rfl ?_
      show bz_J _ _ 72 _ _ _
      refine j_geta X gf_UQ_73_33 dUQ_gatherBeyond_72 ?_
      refine j_iload X dUQ_gatherBeyond_75 1 rfl ?_
      refine j_iald X sh_38 dUQ_gatherBeyond_77 hf (fun x6 hf => ?_)
      refine j_aload_n X dUQ_gatherBeyond_78 rfl 4 rfl ?_
      refine j_geti X gf_UQ_37_65 dUQ_gatherBeyond_79 ?_
      obtain ⟨resJ7, hf0, hkJ7⟩ := q_l1 hf
      have J7 : ∀ (v8 : Int), some v8 = some resJ7 → bz_J K 11 108 [(9, bz_i x5), (8, bz_i l8), (7, bz_i l7), (6, bz_rf E 33), (0, bz_rf E 65), (1, bz_rf E 1), (2, bz_rf E 53), (5, bz_i l5)] [bz_i v8] M := by
        intro v8 he
        have hf := hkJ7 _ he
        refine j_istore X (lv' := [(10, bz_i v8), (9, bz_i x5), (8, bz_i l8), (7, bz_i l7), (6, bz_rf E 33), (0, bz_rf E 65), (1, bz_rf E 1), (2, bz_rf E 53), (5, bz_i l5)]) dUQ_gatherBeyond_108 (by decide) rfl ?_
        refine j_iload X dUQ_gatherBeyond_110 0 rfl ?_
        refine j_if_eq X (tgt := 142) rfl dUQ_gatherBeyond_112 (by decide) hf (fun hf => ?_) (fun hf => ?_)
        · refine j_iinc X (y := l8 + 1) (lv' := [(8, bz_i (l8 + 1)), (10, bz_i v8), (9, bz_i x5), (7, bz_i l7), (6, bz_rf E 33), (0, bz_rf E 65), (1, bz_rf E 1), (2, bz_rf E 53), (5, bz_i l5)]) dUQ_gatherBeyond_142 2 rfl rfl (by decide) rfl ?_
          refine j_goto X (tgt := 44) dUQ_gatherBeyond_145 (by decide) ?_
          exact j_sub [0, 3, 4, 5, 6, 7, 8] rfl (ih _ _ hf)
        · refine j_aload_n X dUQ_gatherBeyond_115 rfl 7 rfl ?_
          refine j_aload_n X dUQ_gatherBeyond_116 rfl 6 rfl ?_
          refine j_aload_n X dUQ_gatherBeyond_117 rfl 5 rfl ?_
          refine j_geti X gf_UQ_37_65 dUQ_gatherBeyond_118 ?_
          refine j_iload X dUQ_gatherBeyond_121 1 rfl ?_
          refine j_cn X (st := [bz_rf E 1, bz_rf E 53]) (cU_slot E) gyU_slot wd_853 rfl (by decide) (by decide) nl_969 rfl (Nat.le_of_ble_eq_true rfl) dUQ_gatherBeyond_123 ?_
          refine j_iload X dUQ_gatherBeyond_126 8 rfl ?_
          show bz_J _ _ 128 _ _ _
          obtain ⟨x10, hzx10, hf⟩ := q_cl hf
          refine j_cv X (st := []) (cUC_errorCounts E F hzx10) gyUC_errorCounts gv_UC_errorCounts_53 rfl (by decide) (by decide) wd_970 rfl (Nat.le_of_ble_eq_true rfl) dUQ_gatherBeyond_128 ?_
          refine j_if_eq X (tgt := 142) rfl dUQ_gatherBeyond_131 (by decide) hf (fun hf => ?_) (fun hf => ?_)
          · refine j_iinc X (y := l8 + 1) (lv' := [(8, bz_i (l8 + 1)), (10, bz_i v8), (9, bz_i x5), (7, bz_i l7), (6, bz_rf E 33), (0, bz_rf E 65), (1, bz_rf E 1), (2, bz_rf E 53), (5, bz_i l5)]) dUQ_gatherBeyond_142 2 rfl rfl (by decide) rfl ?_
            refine j_goto X (tgt := 44) dUQ_gatherBeyond_145 (by decide) ?_
            exact j_sub [0, 3, 4, 5, 6, 7, 8] rfl (ih _ _ hf)
          · refine j_aload_n X dUQ_gatherBeyond_134 rfl 5 rfl ?_
            refine j_aload X dUQ_gatherBeyond_135 4 rfl ?_
            refine j_iload X dUQ_gatherBeyond_137 2 rfl ?_
            obtain ⟨m11, hz, hf⟩ := q_cl hf
            refine j_cv X (st := []) (cUQ_addDeal E F hz) gyUQ_addDeal gv_UQ_addDeal_65 rfl (by decide) (by decide) wd_971 rfl (Nat.le_of_ble_eq_true rfl) dUQ_gatherBeyond_139 ?_
            clear hz
            refine j_iinc X (y := l8 + 1) (lv' := [(8, bz_i (l8 + 1)), (10, bz_i v8), (9, bz_i x5), (7, bz_i l7), (6, bz_rf E 33), (0, bz_rf E 65), (1, bz_rf E 1), (2, bz_rf E 53), (5, bz_i l5)]) dUQ_gatherBeyond_142 2 rfl rfl (by decide) rfl ?_
            refine j_goto X (tgt := 44) dUQ_gatherBeyond_145 (by decide) ?_
            exact j_sub [0, 3, 4, 5, 6, 7, 8] rfl (ih _ _ hf)
      clear hf
      have hf := hf0
      clear hf0
      refine j_icmp_ne X (tgt := 107) rfl rfl dUQ_gatherBeyond_82 (by decide) hf (fun hf => ?_) (fun hf => ?_)
      · refine j_iconst X dUQ_gatherBeyond_107 ?_
        exact J7 _ hf
      · refine j_iload X dUQ_gatherBeyond_85 0 rfl ?_
        refine j_iload X dUQ_gatherBeyond_87 2 rfl ?_
        refine j_icmp_gt X (tgt := 107) rfl rfl dUQ_gatherBeyond_89 (by decide) hf (fun hf => ?_) (fun hf => ?_)
        · refine j_iconst X dUQ_gatherBeyond_107 ?_
          exact J7 _ hf
        · refine j_aload X dUQ_gatherBeyond_92 3 rfl ?_
          refine j_geta X gf_UQ_75_33 dUQ_gatherBeyond_94 ?_
          refine j_iload X dUQ_gatherBeyond_97 1 rfl ?_
          refine j_iald X sh_40 dUQ_gatherBeyond_99 hf (fun x9 hf => ?_)
          refine j_if_eq X (tgt := 107) rfl dUQ_gatherBeyond_100 (by decide) hf (fun hf => ?_) (fun hf => ?_)
          · refine j_iconst X dUQ_gatherBeyond_107 ?_
            exact J7 _ hf
          · refine j_iconst X dUQ_gatherBeyond_103 ?_
            refine j_goto X (tgt := 108) dUQ_gatherBeyond_104 (by decide) ?_
            exact J7 _ hf
def fUQ_gatherBeyond (F : Nat) (M : bz_Mm) (a3 : Int) (a4 : Int) (a5 : Int) : Option (bz_Mm) :=
  wf_ M 65 3 a3 fun m1 =>
  wf_ m1 65 4 a4 fun m2 =>
  cl_ (fJA_fill0 F m2 66 24 0) fun m3 =>
  cl_ (fJA_fill0 F m3 67 24 0) fun m4 =>
  lt_ (fUS_lastOver m4 a4) fun l7 =>
  cl1_ (UQ_gatherBeyond_L44 F F l7 a5 0 m4) fun m12 =>
  some m12
set_option maxHeartbeats 4000000 in
set_option maxRecDepth 20000 in
theorem cUQ_gatherBeyond (E : bz_E) (F : Nat)  {M : bz_Mm} {a3 : Int} {a4 : Int} {a5 : Int} {x0 : bz_Mm} (hf : fUQ_gatherBeyond F M a3 a4 a5 = some x0) : bz_Ct E yUQ_gatherBeyond (.code yUQ_gatherBeyond prog_4_method_3_code 11 none) 2 49 [bz_rf E 65, bz_rf E 1, bz_rf E 53, bz_i a3, bz_i a4, bz_i a5] M (none) x0 := by
  refine bz_met (by decide +kernel) (Nat.le_of_ble_eq_true rfl) (fun K X => ?_)
  have X : bz_X K E prog_4_method_3_code 11 "UnitsWrong$Claims" none 2 49 _ _ := X
  unfold fUQ_gatherBeyond at hf
  show bz_J K 11 0 [(0, bz_rf E 65), (1, bz_rf E 1), (2, bz_rf E 53), (3, bz_i a3), (4, bz_i a4), (5, bz_i a5)] [] M
  refine j_aload_n X dUQ_gatherBeyond_0 rfl 0 rfl ?_
  refine j_iload_n X dUQ_gatherBeyond_1 rfl 3 rfl ?_
  refine j_puti X pf_UQ_37_65 dUQ_gatherBeyond_2 hf (fun m1 hf => ?_)
  refine j_aload_n X dUQ_gatherBeyond_5 rfl 0 rfl ?_
  refine j_iload X dUQ_gatherBeyond_6 4 rfl ?_
  refine j_puti X pf_UQ_41_65 dUQ_gatherBeyond_8 hf (fun m2 hf => ?_)
  refine j_aload_n X dUQ_gatherBeyond_11 rfl 0 rfl ?_
  show bz_J _ _ 12 _ _ _
  refine j_geta X gf_UQ_9_65 dUQ_gatherBeyond_12 ?_
  refine j_lconst X (v := 0) dUQ_gatherBeyond_15 rfl ?_
  obtain ⟨m3, hz, hf⟩ := q_cl hf
  refine j_cs X (st := []) (cJA_fill0 E F sh_66 hz) gyJA_fill0 wd_966 rfl (by decide) (by decide) wd_965 rfl (Nat.le_of_ble_eq_true rfl) dUQ_gatherBeyond_16 ?_
  clear hz
  refine j_aload_n X dUQ_gatherBeyond_19 rfl 0 rfl ?_
  refine j_geta X gf_UQ_15_65 dUQ_gatherBeyond_20 ?_
  refine j_lconst X (v := 0) dUQ_gatherBeyond_23 rfl ?_
  obtain ⟨m4, hz, hf⟩ := q_cl hf
  refine j_cs X (st := []) (cJA_fill0 E F sh_67 hz) gyJA_fill0 wd_966 rfl (by decide) (by decide) wd_965 rfl (Nat.le_of_ble_eq_true rfl) dUQ_gatherBeyond_24 ?_
  clear hz
  refine j_aload_n X dUQ_gatherBeyond_27 rfl 1 rfl ?_
  show bz_J _ _ 28 _ _ _
  refine j_geta X gf_UQ_50_1 dUQ_gatherBeyond_28 ?_
  refine j_astore X (lv' := [(6, bz_rf E 33), (0, bz_rf E 65), (1, bz_rf E 1), (2, bz_rf E 53), (3, bz_i a3), (4, bz_i a4), (5, bz_i a5)]) dUQ_gatherBeyond_31 (by decide) rfl ?_
  refine j_aload_n X dUQ_gatherBeyond_33 rfl 2 rfl ?_
  refine j_iload X dUQ_gatherBeyond_34 5 rfl ?_
  refine j_cv X (st := []) (cUS_lastOver E) gyUS_lastOver gv_US_lastOver_1 rfl (by decide) (by decide) wd_968 rfl (Nat.le_of_ble_eq_true rfl) dUQ_gatherBeyond_36 ?_
  refine j_lt (g := bz_i) hf (fun l7 hf => ?_)
  refine j_istore X (lv' := [(7, bz_i l7), (6, bz_rf E 33), (0, bz_rf E 65), (1, bz_rf E 1), (2, bz_rf E 53), (3, bz_i a3), (4, bz_i a4), (5, bz_i a5)]) dUQ_gatherBeyond_39 (by decide) rfl ?_
  refine j_iconst X dUQ_gatherBeyond_41 ?_
  refine j_istore X (lv' := [(8, bz_i 0), (7, bz_i l7), (6, bz_rf E 33), (0, bz_rf E 65), (1, bz_rf E 1), (2, bz_rf E 53), (3, bz_i a3), (4, bz_i a4), (5, bz_i a5)]) dUQ_gatherBeyond_42 (by decide) rfl ?_
  obtain ⟨res13, hz13, hk13⟩ := q_l1 hf
  clear hf
  refine j_sub [0, 1, 2, 3, 4, 5, 8] rfl ?_
  refine lUQ_gatherBeyond_L44 E F X (fun m12 he => ?_) F 0 m4 hz13
  have hf := hk13 _ he
  cases hf
  exact j_vret X dUQ_gatherBeyond_148 rfl rfl
def fUQ_gather (F : Nat) (M : bz_Mm) (a3 : Int) (a4 : Int) : Option (bz_Mm) :=
  cl_ (fUL_value F M a3 a4 4) fun x1 =>
  cl_ (fUQ_gatherBeyond F M a3 a4 x1) fun m2 =>
  some m2
set_option maxHeartbeats 4000000 in
set_option maxRecDepth 20000 in
theorem cUQ_gather (E : bz_E) (F : Nat)  {M : bz_Mm} {a3 : Int} {a4 : Int} {x0 : bz_Mm} (hf : fUQ_gather F M a3 a4 = some x0) : bz_Ct E yUQ_gather (.code yUQ_gather prog_4_method_2_code 5 none) 3 79 [bz_rf E 65, bz_rf E 1, bz_rf E 53, bz_i a3, bz_i a4] M (none) x0 := by
  refine bz_met (by decide +kernel) (Nat.le_of_ble_eq_true rfl) (fun K X => ?_)
  have X : bz_X K E prog_4_method_2_code 5 "UnitsWrong$Claims" none 3 79 _ _ := X
  unfold fUQ_gather at hf
  show bz_J K 5 0 [(0, bz_rf E 65), (1, bz_rf E 1), (2, bz_rf E 53), (3, bz_i a3), (4, bz_i a4)] [] M
  refine j_aload_n X dUQ_gather_0 rfl 0 rfl ?_
  refine j_aload_n X dUQ_gather_1 rfl 1 rfl ?_
  refine j_aload_n X dUQ_gather_2 rfl 2 rfl ?_
  refine j_iload_n X dUQ_gather_3 rfl 3 rfl ?_
  refine j_iload X dUQ_gather_4 4 rfl ?_
  refine j_aload_n X dUQ_gather_6 rfl 1 rfl ?_
  refine j_geta X gf_UQ_21_1 dUQ_gather_7 ?_
  show bz_J _ _ 10 _ _ _
  refine j_iload_n X dUQ_gather_10 rfl 3 rfl ?_
  refine j_iload X dUQ_gather_11 4 rfl ?_
  refine j_iconst X dUQ_gather_13 ?_
  obtain ⟨x1, hzx1, hf⟩ := q_cl hf
  refine j_cv X (st := [bz_i a4, bz_i a3, bz_rf E 53, bz_rf E 1, bz_rf E 65]) (cUL_value E F hzx1) gyUL_value gv_UL_value_45 rfl (by decide) (by decide) wd_960 rfl (Nat.le_of_ble_eq_true rfl) dUQ_gather_14 ?_
  obtain ⟨m2, hz, hf⟩ := q_cl hf
  refine j_cv X (st := []) (cUQ_gatherBeyond E F hz) gyUQ_gatherBeyond gv_UQ_gatherBeyond_65 rfl (by decide) (by decide) wd_961 rfl (Nat.le_of_ble_eq_true rfl) dUQ_gather_17 ?_
  clear hz
  cases hf
  exact j_vret X dUQ_gather_20 rfl rfl
def fUQ_sumOf (F : Nat) (M : bz_Mm) (a2 : Int) : Option (Int) :=
  cl_ (fUL_value F M (M 65 3) (M 65 4) 7) fun x1 =>
  if w32 x1 = (-1) then
  (rd_ M 66 a2 24 fun x4 =>
  some x4)
  else
  (rd_ M 66 a2 24 fun x2 =>
  rd_ M 67 a2 24 fun x3 =>
  lt_ (x2 - x3) fun l4 =>
  if w64 l4 < 0 then
  (if w64 l4 < w64 (w32 (-x1)) then
  (some l4)
  else
  (some 0))
  else
  (some l4))
set_option maxHeartbeats 4000000 in
set_option maxRecDepth 20000 in
theorem cUQ_sumOf (E : bz_E) (F : Nat)  {M : bz_Mm} {a2 : Int} {x0 : Int} (hf : fUQ_sumOf F M a2 = some x0) : bz_Ct E yUQ_sumOf (.code yUQ_sumOf prog_4_method_5_code 6 (some .long)) 1 24 [bz_rf E 65, bz_rf E 1, bz_i a2] M (some (bz_l x0)) M := by
  refine bz_met (by decide +kernel) (Nat.le_of_ble_eq_true rfl) (fun K X => ?_)
  have X : bz_X K E prog_4_method_5_code 6 "UnitsWrong$Claims" (some .long) 1 24 _ _ := X
  unfold fUQ_sumOf at hf
  show bz_J K 6 0 [(0, bz_rf E 65), (1, bz_rf E 1), (2, bz_i a2)] [] M
  refine j_aload_n X dUQ_sumOf_0 rfl 1 rfl ?_
  refine j_geta X gf_UQ_21_1 dUQ_sumOf_1 ?_
  refine j_aload_n X dUQ_sumOf_4 rfl 0 rfl ?_
  refine j_geti X gf_UQ_37_65 dUQ_sumOf_5 ?_
  refine j_aload_n X dUQ_sumOf_8 rfl 0 rfl ?_
  refine j_geti X gf_UQ_41_65 dUQ_sumOf_9 ?_
  refine j_bipush X dUQ_sumOf_12 rfl ?_
  show bz_J _ _ 14 _ _ _
  obtain ⟨x1, hzx1, hf⟩ := q_cl hf
  refine j_cv X (st := []) (cUL_value E F hzx1) gyUL_value gv_UL_value_45 rfl (by decide) (by decide) wd_960 rfl (Nat.le_of_ble_eq_true rfl) dUQ_sumOf_14 ?_
  refine j_istore_n X (lv' := [(3, bz_i x1), (0, bz_rf E 65), (1, bz_rf E 1), (2, bz_i a2)]) dUQ_sumOf_17 rfl (by decide) rfl ?_
  refine j_iload_n X dUQ_sumOf_18 rfl 0 rfl ?_
  refine j_iconst X dUQ_sumOf_19 ?_
  refine j_icmp_ne X (tgt := 30) rfl (w32_lit rfl) dUQ_sumOf_20 (by decide) hf (fun hf => ?_) (fun hf => ?_)
  · refine j_aload_n X dUQ_sumOf_30 rfl 1 rfl ?_
    refine j_geta X gf_UQ_9_65 dUQ_sumOf_31 ?_
    refine j_iload_n X dUQ_sumOf_34 rfl 3 rfl ?_
    refine j_lald X sh_66 dUQ_sumOf_35 hf (fun x2 hf => ?_)
    refine j_aload_n X dUQ_sumOf_36 rfl 1 rfl ?_
    refine j_geta X gf_UQ_15_65 dUQ_sumOf_37 ?_
    refine j_iload_n X dUQ_sumOf_40 rfl 3 rfl ?_
    show bz_J _ _ 41 _ _ _
    refine j_lald X sh_67 dUQ_sumOf_41 hf (fun x3 hf => ?_)
    refine j_lsub X dUQ_sumOf_42 ?_
    refine j_lt (g := bz_l) hf (fun l4 hf => ?_)
    refine j_lstore X (lv' := [(4, bz_l l4), (3, bz_i x1), (0, bz_rf E 65), (1, bz_rf E 1), (2, bz_i a2)]) dUQ_sumOf_43 (by decide) rfl ?_
    refine j_lload X dUQ_sumOf_45 0 rfl ?_
    refine j_lconst X (v := 0) dUQ_sumOf_47 rfl ?_
    refine j_lcmp_ge X (tgt := 65) rfl (w64_lit rfl) dUQ_sumOf_48 dUQ_sumOf_49 (by decide) hf (fun hf => ?_) (fun hf => ?_)
    · refine j_lload X dUQ_sumOf_65 0 rfl ?_
      cases hf
      exact j_lret X dUQ_sumOf_67 rfl rfl
    · refine j_lload X dUQ_sumOf_52 0 rfl ?_
      refine j_iload_n X dUQ_sumOf_54 rfl 1 rfl ?_
      refine j_ineg X dUQ_sumOf_55 ?_
      refine j_i2l X rfl dUQ_sumOf_56 ?_
      refine j_lcmp_lt X (tgt := 65) rfl rfl dUQ_sumOf_57 dUQ_sumOf_58 (by decide) hf (fun hf => ?_) (fun hf => ?_)
      · refine j_lload X dUQ_sumOf_65 0 rfl ?_
        cases hf
        exact j_lret X dUQ_sumOf_67 rfl rfl
      · refine j_lconst X (v := 0) dUQ_sumOf_61 rfl ?_
        refine j_goto X (tgt := 67) dUQ_sumOf_62 (by decide) ?_
        cases hf
        exact j_lret X dUQ_sumOf_67 rfl rfl
  · refine j_aload_n X dUQ_sumOf_23 rfl 1 rfl ?_
    refine j_geta X gf_UQ_9_65 dUQ_sumOf_24 ?_
    refine j_iload_n X dUQ_sumOf_27 rfl 3 rfl ?_
    refine j_lald X sh_66 dUQ_sumOf_28 hf (fun x4 hf => ?_)
    cases hf
    exact j_lret X dUQ_sumOf_29 rfl rfl
def fUS_isGoneOn (F : Nat) (M : bz_Mm) (a1 : Int) (a2 : Int) : Option (Int) :=
  if w32 (fUS_isHolder M a1) = 0 then
  (some 0)
  else
  (rd_ M 5 a1 16 fun x1 =>
  if w32 x1 = (-1) then
  (some 0)
  else
  (rd_ M 5 a1 16 fun x2 =>
  if w32 a2 < w32 x2 then
  (some 0)
  else
  (some 1)))
set_option maxHeartbeats 4000000 in
set_option maxRecDepth 20000 in
theorem cUS_isGoneOn (E : bz_E) (F : Nat)  {M : bz_Mm} {a1 : Int} {a2 : Int} {x0 : Int} (hf : fUS_isGoneOn F M a1 a2 = some x0) : bz_Ct E yUS_isGoneOn (.code yUS_isGoneOn prog_9_method_11_code 3 (some .boolean)) 1 21 [bz_rf E 1, bz_i a1, bz_i a2] M (some (bz_i x0)) M := by
  refine bz_met (by decide +kernel) (Nat.le_of_ble_eq_true rfl) (fun K X => ?_)
  have X : bz_X K E prog_9_method_11_code 3 "UnitsWrong$State" (some .boolean) 1 21 _ _ := X
  unfold fUS_isGoneOn at hf
  show bz_J K 3 0 [(0, bz_rf E 1), (1, bz_i a1), (2, bz_i a2)] [] M
  refine j_aload_n X dUS_isGoneOn_0 rfl 0 rfl ?_
  refine j_iload_n X dUS_isGoneOn_1 rfl 1 rfl ?_
  refine j_cv X (st := []) (cUS_isHolder E) gyUS_isHolder gv_US_isHolder_1 rfl (by decide) (by decide) wd_605 rfl (Nat.le_of_ble_eq_true rfl) dUS_isGoneOn_2 ?_
  refine j_if_eq X (tgt := 32) rfl dUS_isGoneOn_5 (by decide) hf (fun hf => ?_) (fun hf => ?_)
  · refine j_iconst X dUS_isGoneOn_32 ?_
    cases hf
    exact j_zret X (by decide +kernel) dUS_isGoneOn_33 rfl rfl
  · refine j_aload_n X dUS_isGoneOn_8 rfl 0 rfl ?_
    refine j_geta X gf_US_22_1 dUS_isGoneOn_9 ?_
    refine j_iload_n X dUS_isGoneOn_12 rfl 1 rfl ?_
    refine j_iald X sh_5 dUS_isGoneOn_13 hf (fun x1 hf => ?_)
    refine j_iconst X dUS_isGoneOn_14 ?_
    refine j_icmp_eq X (tgt := 32) rfl (w32_lit rfl) dUS_isGoneOn_15 (by decide) hf (fun hf => ?_) (fun hf => ?_)
    · refine j_iconst X dUS_isGoneOn_32 ?_
      cases hf
      exact j_zret X (by decide +kernel) dUS_isGoneOn_33 rfl rfl
    · refine j_aload_n X dUS_isGoneOn_18 rfl 0 rfl ?_
      refine j_geta X gf_US_22_1 dUS_isGoneOn_19 ?_
      refine j_iload_n X dUS_isGoneOn_22 rfl 1 rfl ?_
      refine j_iald X sh_5 dUS_isGoneOn_23 hf (fun x2 hf => ?_)
      refine j_iload_n X dUS_isGoneOn_24 rfl 2 rfl ?_
      refine j_icmp_gt X (tgt := 32) rfl rfl dUS_isGoneOn_25 (by decide) hf (fun hf => ?_) (fun hf => ?_)
      · refine j_iconst X dUS_isGoneOn_32 ?_
        cases hf
        exact j_zret X (by decide +kernel) dUS_isGoneOn_33 rfl rfl
      · refine j_iconst X dUS_isGoneOn_28 ?_
        refine j_goto X (tgt := 33) dUS_isGoneOn_29 (by decide) ?_
        cases hf
        exact j_zret X (by decide +kernel) dUS_isGoneOn_33 rfl rfl
def fUQ_wayOf (F : Nat) (M : bz_Mm) (a2 : Int) : Option (Int) :=
  cl_ (fUQ_sumOf F M a2) fun x1 =>
  if 0 < w64 x1 then
  (cl_ (fUL_value F M (M 65 3) (M 65 4) 5) fun x2 =>
  if w64 x1 < w64 (w32 x2) then
  (some 1)
  else
  (cl_ (fUS_isGoneOn F M a2 (M 65 4)) fun x3 =>
  if w32 x3 = 0 then
  (some 0)
  else
  (rd_ M 3 (M 65 3) 4 fun x4 =>
  cl1_ (if w32 x4 = (-1) then
  (some (0))
  else
  (cl_ (fUL_value F M (M 65 3) (M 65 4) 8) fun x7 =>
  if w32 ((M 65 4) - x4) < w32 x7 then
  (some (0))
  else
  (some (1)))) fun v6 =>
  if w32 v6 = 0 then
  (some 2)
  else
  (some 3))))
  else
  (some 0)
set_option maxHeartbeats 4000000 in
set_option maxRecDepth 20000 in
theorem cUQ_wayOf (E : bz_E) (F : Nat)  {M : bz_Mm} {a2 : Int} {x0 : Int} (hf : fUQ_wayOf F M a2 = some x0) : bz_Ct E yUQ_wayOf (.code yUQ_wayOf prog_4_method_6_code 7 (some .int)) 2 49 [bz_rf E 65, bz_rf E 1, bz_i a2] M (some (bz_i x0)) M := by
  refine bz_met (by decide +kernel) (Nat.le_of_ble_eq_true rfl) (fun K X => ?_)
  have X : bz_X K E prog_4_method_6_code 7 "UnitsWrong$Claims" (some .int) 2 49 _ _ := X
  unfold fUQ_wayOf at hf
  show bz_J K 7 0 [(0, bz_rf E 65), (1, bz_rf E 1), (2, bz_i a2)] [] M
  refine j_aload_n X dUQ_wayOf_0 rfl 0 rfl ?_
  refine j_aload_n X dUQ_wayOf_1 rfl 1 rfl ?_
  refine j_iload_n X dUQ_wayOf_2 rfl 2 rfl ?_
  obtain ⟨x1, hzx1, hf⟩ := q_cl hf
  refine j_cv X (st := []) (cUQ_sumOf E F hzx1) gyUQ_sumOf gv_UQ_sumOf_65 rfl (by decide) (by decide) wd_984 rfl (Nat.le_of_ble_eq_true rfl) dUQ_wayOf_3 ?_
  refine j_lstore_n X (lv' := [(3, bz_l x1), (0, bz_rf E 65), (1, bz_rf E 1), (2, bz_i a2)]) dUQ_wayOf_6 rfl (by decide) rfl ?_
  refine j_lload_n X dUQ_wayOf_7 rfl 0 rfl ?_
  refine j_lconst X (v := 0) dUQ_wayOf_8 rfl ?_
  show bz_J _ _ 9 _ _ _
  refine j_lcmp_gt X (tgt := 15) rfl (w64_lit rfl) dUQ_wayOf_9 dUQ_wayOf_10 (by decide) hf (fun hf => ?_) (fun hf => ?_)
  · refine j_lload_n X dUQ_wayOf_15 rfl 0 rfl ?_
    refine j_aload_n X dUQ_wayOf_16 rfl 2 rfl ?_
    refine j_geta X gf_UQ_21_1 dUQ_wayOf_17 ?_
    refine j_aload_n X dUQ_wayOf_20 rfl 1 rfl ?_
    refine j_geti X gf_UQ_37_65 dUQ_wayOf_21 ?_
    refine j_aload_n X dUQ_wayOf_24 rfl 1 rfl ?_
    refine j_geti X gf_UQ_41_65 dUQ_wayOf_25 ?_
    show bz_J _ _ 28 _ _ _
    refine j_iconst X dUQ_wayOf_28 ?_
    obtain ⟨x2, hzx2, hf⟩ := q_cl hf
    refine j_cv X (st := [bz_l x1]) (cUL_value E F hzx2) gyUL_value gv_UL_value_45 rfl (by decide) (by decide) wd_960 rfl (Nat.le_of_ble_eq_true rfl) dUQ_wayOf_29 ?_
    refine j_i2l X rfl dUQ_wayOf_32 ?_
    refine j_lcmp_ge X (tgt := 39) rfl rfl dUQ_wayOf_33 dUQ_wayOf_34 (by decide) hf (fun hf => ?_) (fun hf => ?_)
    · refine j_aload_n X dUQ_wayOf_39 rfl 2 rfl ?_
      refine j_iload_n X dUQ_wayOf_40 rfl 3 rfl ?_
      refine j_aload_n X dUQ_wayOf_41 rfl 1 rfl ?_
      refine j_geti X gf_UQ_41_65 dUQ_wayOf_42 ?_
      obtain ⟨x3, hzx3, hf⟩ := q_cl hf
      refine j_cv X (st := []) (cUS_isGoneOn E F hzx3) gyUS_isGoneOn gv_US_isGoneOn_1 rfl (by decide) (by decide) wd_985 rfl (Nat.le_of_ble_eq_true rfl) dUQ_wayOf_45 ?_
      refine j_if_ne X (tgt := 53) rfl dUQ_wayOf_48 (by decide) hf (fun hf => ?_) (fun hf => ?_)
      · refine j_aload_n X dUQ_wayOf_53 rfl 2 rfl ?_
        refine j_geta X gf_UQ_115_1 dUQ_wayOf_54 ?_
        refine j_aload_n X dUQ_wayOf_57 rfl 1 rfl ?_
        refine j_geti X gf_UQ_37_65 dUQ_wayOf_58 ?_
        refine j_iald X sh_3 dUQ_wayOf_61 hf (fun x4 hf => ?_)
        refine j_istore X (lv' := [(5, bz_i x4), (3, bz_l x1), (0, bz_rf E 65), (1, bz_rf E 1), (2, bz_i a2)]) dUQ_wayOf_62 (by decide) rfl ?_
        refine j_iload X dUQ_wayOf_64 0 rfl ?_
        show bz_J _ _ 66 _ _ _
        refine j_iconst X dUQ_wayOf_66 ?_
        obtain ⟨resJ5, hf0, hkJ5⟩ := q_l1 hf
        have J5 : ∀ (v6 : Int), some v6 = some resJ5 → bz_J K 7 102 [] [bz_i v6] M := by
          intro v6 he
          have hf := hkJ5 _ he
          refine j_istore X (lv' := [(6, bz_i v6)]) dUQ_wayOf_102 (by decide) rfl ?_
          refine j_iload X dUQ_wayOf_104 0 rfl ?_
          refine j_if_eq X (tgt := 113) rfl dUQ_wayOf_106 (by decide) hf (fun hf => ?_) (fun hf => ?_)
          · refine j_iconst X dUQ_wayOf_113 ?_
            cases hf
            exact j_iret X dUQ_wayOf_114 rfl rfl
          · refine j_iconst X dUQ_wayOf_109 ?_
            refine j_goto X (tgt := 114) dUQ_wayOf_110 (by decide) ?_
            cases hf
            exact j_iret X dUQ_wayOf_114 rfl rfl
        clear hf
        have hf := hf0
        clear hf0
        refine j_icmp_eq X (tgt := 101) rfl (w32_lit rfl) dUQ_wayOf_67 (by decide) hf (fun hf => ?_) (fun hf => ?_)
        · refine j_iconst X dUQ_wayOf_101 ?_
          exact j_sub [] rfl (J5 _ hf)
        · refine j_aload_n X dUQ_wayOf_70 rfl 2 rfl ?_
          refine j_geti X gf_UQ_41_65 dUQ_wayOf_71 ?_
          refine j_iload X dUQ_wayOf_74 0 rfl ?_
          refine j_isub X dUQ_wayOf_76 ?_
          refine j_aload_n X dUQ_wayOf_77 rfl 3 rfl ?_
          refine j_geta X gf_UQ_21_1 dUQ_wayOf_78 ?_
          refine j_aload_n X dUQ_wayOf_81 rfl 2 rfl ?_
          show bz_J _ _ 82 _ _ _
          refine j_geti X gf_UQ_37_65 dUQ_wayOf_82 ?_
          refine j_aload_n X dUQ_wayOf_85 rfl 2 rfl ?_
          refine j_geti X gf_UQ_41_65 dUQ_wayOf_86 ?_
          refine j_bipush X dUQ_wayOf_89 rfl ?_
          obtain ⟨x7, hzx7, hf⟩ := q_cl hf
          refine j_cv X (st := [bz_i ((M 65 4) - x4)]) (cUL_value E F hzx7) gyUL_value gv_UL_value_45 rfl (by decide) (by decide) wd_960 rfl (Nat.le_of_ble_eq_true rfl) dUQ_wayOf_91 ?_
          refine j_icmp_lt X (tgt := 101) rfl rfl dUQ_wayOf_94 (by decide) hf (fun hf => ?_) (fun hf => ?_)
          · refine j_iconst X dUQ_wayOf_101 ?_
            exact j_sub [] rfl (J5 _ hf)
          · refine j_iconst X dUQ_wayOf_97 ?_
            refine j_goto X (tgt := 102) dUQ_wayOf_98 (by decide) ?_
            exact j_sub [] rfl (J5 _ hf)
      · refine j_iconst X dUQ_wayOf_51 ?_
        cases hf
        exact j_iret X dUQ_wayOf_52 rfl rfl
    · refine j_iconst X dUQ_wayOf_37 ?_
      cases hf
      exact j_iret X dUQ_wayOf_38 rfl rfl
  · refine j_iconst X dUQ_wayOf_13 ?_
    cases hf
    exact j_iret X dUQ_wayOf_14 rfl rfl
def fU_claim (F : Nat) (M : bz_Mm) (a1 : Int) (a2 : Int) (a3 : Int) (a4 : Int) : Option (Int × bz_Mm) :=
  if w32 (fUS_isWho M a1 a2) = 0 then
  (some (((-2147483648), M)))
  else
  (if w32 a3 < 0 then
  (some (((-2147483648), M)))
  else
  (if w32 (fUS_latestKnown M) < w32 a3 then
  (some (((-2147483648), M)))
  else
  (if w32 a4 < 0 then
  (some (((-2147483648), M)))
  else
  (if 3 < w32 a4 then
  (some (((-2147483648), M)))
  else
  (cl_ (fUC_walkTo F M a3) fun m1 =>
  cl_ (fUQ_gather F m1 a2 a3) fun m2 =>
  if w32 a4 = 0 then
  (rd_ m2 66 a1 24 fun x3 =>
  some ((fU_told x3, m2)))
  else if w32 a4 = 1 then
  (rd_ m2 67 a1 24 fun x4 =>
  some ((fU_told x4, m2)))
  else if w32 a4 = 2 then
  (cl_ (fUQ_sumOf F m2 a1) fun x5 =>
  some ((fU_told x5, m2)))
  else (cl_ (fUQ_wayOf F m2 a1) fun x6 =>
  some ((x6, m2))))))))
set_option maxHeartbeats 4000000 in
set_option maxRecDepth 20000 in
theorem cU_claim (E : bz_E) (F : Nat)  {M : bz_Mm} {a1 : Int} {a2 : Int} {a3 : Int} {a4 : Int} {x0 : Int × bz_Mm} (hf : fU_claim F M a1 a2 a3 a4 = some x0) : bz_Ct E yU_claim (.code yU_claim prog_1_method_24_code 5 (some .int)) 6 145 [bz_rf E 0, bz_i a1, bz_i a2, bz_i a3, bz_i a4] M (some (bz_i x0.1)) x0.2 := by
  refine bz_met (by decide +kernel) (Nat.le_of_ble_eq_true rfl) (fun K X => ?_)
  have X : bz_X K E prog_1_method_24_code 5 "UnitsWrong" (some .int) 6 145 _ _ := X
  unfold fU_claim at hf
  show bz_J K 5 0 [(0, bz_rf E 0), (1, bz_i a1), (2, bz_i a2), (3, bz_i a3), (4, bz_i a4)] [] M
  refine j_aload_n X dU_claim_0 rfl 0 rfl ?_
  refine j_geta X gf_U_10_0 dU_claim_1 ?_
  refine j_iload_n X dU_claim_4 rfl 1 rfl ?_
  refine j_iload_n X dU_claim_5 rfl 2 rfl ?_
  refine j_cv X (st := []) (cUS_isWho E) gyUS_isWho gv_US_isWho_1 rfl (by decide) (by decide) wd_600 rfl (Nat.le_of_ble_eq_true rfl) dU_claim_6 ?_
  refine j_if_eq X (tgt := 38) rfl dU_claim_9 (by decide) hf (fun hf => ?_) (fun hf => ?_)
  · refine j_ldc X (v := -2147483648) wd_571 dU_claim_38 ?_
    cases hf
    exact j_iret X dU_claim_40 rfl rfl
  · refine j_iload_n X dU_claim_12 rfl 3 rfl ?_
    refine j_if_lt X (tgt := 38) rfl dU_claim_13 (by decide) hf (fun hf => ?_) (fun hf => ?_)
    · refine j_ldc X (v := -2147483648) wd_571 dU_claim_38 ?_
      cases hf
      exact j_iret X dU_claim_40 rfl rfl
    · refine j_iload_n X dU_claim_16 rfl 3 rfl ?_
      refine j_aload_n X dU_claim_17 rfl 0 rfl ?_
      refine j_geta X gf_U_10_0 dU_claim_18 ?_
      refine j_cv X (st := [bz_i a3]) (cUS_latestKnown E) gyUS_latestKnown gv_US_latestKnown_1 rfl (by decide) (by decide) wd_911 rfl (Nat.le_of_ble_eq_true rfl) dU_claim_21 ?_
      refine j_icmp_gt X (tgt := 38) rfl rfl dU_claim_24 (by decide) hf (fun hf => ?_) (fun hf => ?_)
      · refine j_ldc X (v := -2147483648) wd_571 dU_claim_38 ?_
        cases hf
        exact j_iret X dU_claim_40 rfl rfl
      · refine j_iload X dU_claim_27 4 rfl ?_
        refine j_if_lt X (tgt := 38) rfl dU_claim_29 (by decide) hf (fun hf => ?_) (fun hf => ?_)
        · refine j_ldc X (v := -2147483648) wd_571 dU_claim_38 ?_
          cases hf
          exact j_iret X dU_claim_40 rfl rfl
        · refine j_iload X dU_claim_32 4 rfl ?_
          refine j_iconst X dU_claim_34 ?_
          refine j_icmp_le X (tgt := 41) rfl (w32_lit rfl) dU_claim_35 (by decide) hf (fun hf => ?_) (fun hf => ?_)
          · refine j_aload_n X dU_claim_41 rfl 0 rfl ?_
            refine j_geta X gf_U_26_0 dU_claim_42 ?_
            refine j_aload_n X dU_claim_45 rfl 0 rfl ?_
            refine j_geta X gf_U_10_0 dU_claim_46 ?_
            refine j_iload_n X dU_claim_49 rfl 3 rfl ?_
            obtain ⟨m1, hz, hf⟩ := q_cl hf
            refine j_cv X (st := []) (cUC_walkTo E F hz) gyUC_walkTo gv_UC_walkTo_53 rfl (by decide) (by decide) wd_915 rfl (Nat.le_of_ble_eq_true rfl) dU_claim_50 ?_
            clear hz
            refine j_aload_n X dU_claim_53 rfl 0 rfl ?_
            show bz_J _ _ 54 _ _ _
            refine j_geta X gf_U_33_0 dU_claim_54 ?_
            refine j_aload_n X dU_claim_57 rfl 0 rfl ?_
            refine j_geta X gf_U_10_0 dU_claim_58 ?_
            refine j_aload_n X dU_claim_61 rfl 0 rfl ?_
            refine j_geta X gf_U_26_0 dU_claim_62 ?_
            refine j_iload_n X dU_claim_65 rfl 2 rfl ?_
            refine j_iload_n X dU_claim_66 rfl 3 rfl ?_
            obtain ⟨m2, hz, hf⟩ := q_cl hf
            refine j_cv X (st := []) (cUQ_gather E F hz) gyUQ_gather gv_UQ_gather_65 rfl (by decide) (by decide) wd_956 rfl (Nat.le_of_ble_eq_true rfl) dU_claim_67 ?_
            clear hz
            show bz_J _ _ 70 _ _ _
            refine j_iload X dU_claim_70 4 rfl ?_
            rcases q_ite hf with ⟨hc0, hf⟩ | ⟨hc0, hf⟩
            · refine j_tabIn X (tgt := 100) (v := 0) hc0 dU_claim_72 (by decide) (by decide) rfl (by decide) ?_
              refine j_aload_n X dU_claim_100 rfl 0 rfl ?_
              refine j_geta X gf_U_33_0 dU_claim_101 ?_
              refine j_geta X gf_U_244_65 dU_claim_104 ?_
              refine j_iload_n X dU_claim_107 rfl 1 rfl ?_
              refine j_lald X sh_66 dU_claim_108 hf (fun x3 hf => ?_)
              refine j_cs X (st := []) (cU_told E) gyU_told wd_921 rfl (by decide) (by decide) wd_920 rfl (Nat.le_of_ble_eq_true rfl) dU_claim_109 ?_
              cases hf
              exact j_iret X dU_claim_112 rfl rfl
            rcases q_ite hf with ⟨hc1, hf⟩ | ⟨hc1, hf⟩
            · refine j_tabIn X (tgt := 113) (v := 1) hc1 dU_claim_72 (by decide) (by decide) rfl (by decide) ?_
              refine j_aload_n X dU_claim_113 rfl 0 rfl ?_
              refine j_geta X gf_U_33_0 dU_claim_114 ?_
              refine j_geta X gf_U_247_65 dU_claim_117 ?_
              refine j_iload_n X dU_claim_120 rfl 1 rfl ?_
              refine j_lald X sh_67 dU_claim_121 hf (fun x4 hf => ?_)
              refine j_cs X (st := []) (cU_told E) gyU_told wd_921 rfl (by decide) (by decide) wd_920 rfl (Nat.le_of_ble_eq_true rfl) dU_claim_122 ?_
              cases hf
              exact j_iret X dU_claim_125 rfl rfl
            rcases q_ite hf with ⟨hc2, hf⟩ | ⟨hc2, hf⟩
            · refine j_tabIn X (tgt := 126) (v := 2) hc2 dU_claim_72 (by decide) (by decide) rfl (by decide) ?_
              refine j_aload_n X dU_claim_126 rfl 0 rfl ?_
              refine j_geta X gf_U_33_0 dU_claim_127 ?_
              refine j_aload_n X dU_claim_130 rfl 0 rfl ?_
              refine j_geta X gf_U_10_0 dU_claim_131 ?_
              refine j_iload_n X dU_claim_134 rfl 1 rfl ?_
              obtain ⟨x5, hzx5, hf⟩ := q_cl hf
              refine j_cv X (st := []) (cUQ_sumOf E F hzx5) gyUQ_sumOf gv_UQ_sumOf_65 rfl (by decide) (by decide) wd_976 rfl (Nat.le_of_ble_eq_true rfl) dU_claim_135 ?_
              refine j_cs X (st := []) (cU_told E) gyU_told wd_921 rfl (by decide) (by decide) wd_920 rfl (Nat.le_of_ble_eq_true rfl) dU_claim_138 ?_
              show bz_J _ _ 141 _ _ _
              cases hf
              exact j_iret X dU_claim_141 rfl rfl
            refine j_tabOut X (tgt := 142) (by omega) dU_claim_72 (by decide) ?_
            refine j_aload_n X dU_claim_142 rfl 0 rfl ?_
            refine j_geta X gf_U_33_0 dU_claim_143 ?_
            refine j_aload_n X dU_claim_146 rfl 0 rfl ?_
            refine j_geta X gf_U_10_0 dU_claim_147 ?_
            refine j_iload_n X dU_claim_150 rfl 1 rfl ?_
            obtain ⟨x6, hzx6, hf⟩ := q_cl hf
            refine j_cv X (st := []) (cUQ_wayOf E F hzx6) gyUQ_wayOf gv_UQ_wayOf_65 rfl (by decide) (by decide) wd_980 rfl (Nat.le_of_ble_eq_true rfl) dU_claim_151 ?_
            cases hf
            exact j_iret X dU_claim_154 rfl rfl
          · refine j_ldc X (v := -2147483648) wd_571 dU_claim_38 ?_
            cases hf
            exact j_iret X dU_claim_40 rfl rfl
def fUQ_getterOf (F : Nat) (M : bz_Mm) (a2 : Int) (a3 : Int) : Option (Int) :=
  lt_ (20 + (M 65 3)) fun l4 =>
  if w32 a3 = 0 then
  (some a2)
  else
  (if w32 a3 = 2 then
  (some l4)
  else
  (cl1_ (if w32 a3 = 1 then
  (some (6))
  else
  (some (9))) fun v2 =>
  cl_ (fUL_value F M (M 65 3) (M 65 4) v2) fun x3 =>
  if w32 x3 = 1 then
  (some 40)
  else
  (if w32 x3 = 2 then
  (some 41)
  else
  (some l4))))
set_option maxHeartbeats 4000000 in
set_option maxRecDepth 20000 in
theorem cUQ_getterOf (E : bz_E) (F : Nat)  {M : bz_Mm} {a2 : Int} {a3 : Int} {x0 : Int} (hf : fUQ_getterOf F M a2 a3 = some x0) : bz_Ct E yUQ_getterOf (.code yUQ_getterOf prog_4_method_7_code 6 (some .int)) 1 24 [bz_rf E 65, bz_rf E 1, bz_i a2, bz_i a3] M (some (bz_i x0)) M := by
  refine bz_met (by decide +kernel) (Nat.le_of_ble_eq_true rfl) (fun K X => ?_)
  have X : bz_X K E prog_4_method_7_code 6 "UnitsWrong$Claims" (some .int) 1 24 _ _ := X
  unfold fUQ_getterOf at hf
  show bz_J K 6 0 [(0, bz_rf E 65), (1, bz_rf E 1), (2, bz_i a2), (3, bz_i a3)] [] M
  refine j_bipush X dUQ_getterOf_0 rfl ?_
  refine j_aload_n X dUQ_getterOf_2 rfl 0 rfl ?_
  refine j_geti X gf_UQ_37_65 dUQ_getterOf_3 ?_
  refine j_iadd X dUQ_getterOf_6 ?_
  refine j_lt (g := bz_i) hf (fun l4 hf => ?_)
  refine j_istore X (lv' := [(4, bz_i l4), (0, bz_rf E 65), (1, bz_rf E 1), (2, bz_i a2), (3, bz_i a3)]) dUQ_getterOf_7 (by decide) rfl ?_
  refine j_iload_n X dUQ_getterOf_9 rfl 4 rfl ?_
  refine j_if_ne X (tgt := 15) rfl dUQ_getterOf_10 (by decide) hf (fun hf => ?_) (fun hf => ?_)
  · refine j_iload_n X dUQ_getterOf_15 rfl 4 rfl ?_
    refine j_iconst X dUQ_getterOf_16 ?_
    refine j_icmp_ne X (tgt := 23) rfl (w32_lit rfl) dUQ_getterOf_17 (by decide) hf (fun hf => ?_) (fun hf => ?_)
    · refine j_aload_n X dUQ_getterOf_23 rfl 2 rfl ?_
      refine j_geta X gf_UQ_21_1 dUQ_getterOf_24 ?_
      refine j_aload_n X dUQ_getterOf_27 rfl 1 rfl ?_
      refine j_geti X gf_UQ_37_65 dUQ_getterOf_28 ?_
      refine j_aload_n X dUQ_getterOf_31 rfl 1 rfl ?_
      refine j_geti X gf_UQ_41_65 dUQ_getterOf_32 ?_
      refine j_iload_n X dUQ_getterOf_35 rfl 4 rfl ?_
      show bz_J _ _ 36 _ _ _
      refine j_iconst X dUQ_getterOf_36 ?_
      obtain ⟨resJ1, hf0, hkJ1⟩ := q_l1 hf
      have J1 : ∀ (v2 : Int), some v2 = some resJ1 → bz_J K 6 47 [(4, bz_i l4)] [bz_i v2, bz_i (M 65 4), bz_i (M 65 3), bz_rf E 45] M := by
        intro v2 he
        have hf := hkJ1 _ he
        obtain ⟨x3, hzx3, hf⟩ := q_cl hf
        refine j_cv X (st := []) (cUL_value E F hzx3) gyUL_value gv_UL_value_45 rfl (by decide) (by decide) wd_960 rfl (Nat.le_of_ble_eq_true rfl) dUQ_getterOf_47 ?_
        refine j_istore X (lv' := [(5, bz_i x3), (4, bz_i l4)]) dUQ_getterOf_50 (by decide) rfl ?_
        refine j_iload X dUQ_getterOf_52 0 rfl ?_
        refine j_iconst X dUQ_getterOf_54 ?_
        refine j_icmp_ne X (tgt := 63) rfl (w32_lit rfl) dUQ_getterOf_55 (by decide) hf (fun hf => ?_) (fun hf => ?_)
        · refine j_iload X dUQ_getterOf_63 0 rfl ?_
          refine j_iconst X dUQ_getterOf_65 ?_
          refine j_icmp_ne X (tgt := 74) rfl (w32_lit rfl) dUQ_getterOf_66 (by decide) hf (fun hf => ?_) (fun hf => ?_)
          · refine j_iload X dUQ_getterOf_74 1 rfl ?_
            cases hf
            exact j_iret X dUQ_getterOf_76 rfl rfl
          · refine j_bipush X dUQ_getterOf_69 rfl ?_
            refine j_goto X (tgt := 76) dUQ_getterOf_71 (by decide) ?_
            cases hf
            exact j_iret X dUQ_getterOf_76 rfl rfl
        · refine j_bipush X dUQ_getterOf_58 rfl ?_
          refine j_goto X (tgt := 76) dUQ_getterOf_60 (by decide) ?_
          cases hf
          exact j_iret X dUQ_getterOf_76 rfl rfl
      clear hf
      have hf := hf0
      clear hf0
      refine j_icmp_ne X (tgt := 45) rfl (w32_lit rfl) dUQ_getterOf_37 (by decide) hf (fun hf => ?_) (fun hf => ?_)
      · refine j_bipush X dUQ_getterOf_45 rfl ?_
        exact j_sub [0] rfl (J1 _ hf)
      · refine j_bipush X dUQ_getterOf_40 rfl ?_
        refine j_goto X (tgt := 47) dUQ_getterOf_42 (by decide) ?_
        exact j_sub [0] rfl (J1 _ hf)
    · refine j_iload X dUQ_getterOf_20 0 rfl ?_
      cases hf
      exact j_iret X dUQ_getterOf_22 rfl rfl
  · refine j_iload_n X dUQ_getterOf_13 rfl 3 rfl ?_
    cases hf
    exact j_iret X dUQ_getterOf_14 rfl rfl
def UQ_lacking_L23 (F : Nat) : Nat → bz_Mm → Int → Int → Option (Int)
  | 0, _, _, _ => none
  | n + 1, M, l5, l3 =>
    if w32 l5 < 24 then
    (cl_ (fUQ_sumOf F M l5) fun x3 =>
    cl_ (fUQ_wayOf F M l5) fun x4 =>
    cl1_ (if w32 x4 = 2 then
    (some (0))
    else
    (cl_ (fUQ_getterOf F M l5 x4) fun x7 =>
    if w32 x7 = w32 (20 + (M 65 3)) then
    (some (1))
    else
    (some (0)))) fun v6 =>
    if w32 v6 = 0 then
    (lt_ (l3 + x3) fun l3 =>
    UQ_lacking_L23 F n M (l5 + 1) l3)
    else
    (UQ_lacking_L23 F n M (l5 + 1) l3))
    else
    (some l3)
theorem lUQ_lacking_L23 (E : bz_E) (F : Nat) {K : bz_K} {rv : Option Value} {M1 : bz_Mm} (X : bz_X K E prog_4_method_9_code 10 "UnitsWrong$Claims" (some .long) 3 75 rv M1) {M : bz_Mm} {res : (Int)}
    (kx : ∀ (l3 : Int), some l3 = some res → bz_J K 10 96 [(3, bz_l l3)] [] M) :
    ∀ (n : Nat) (l5 : Int) (l3 : Int), UQ_lacking_L23 F n M l5 l3 = some res → bz_J K 10 23 [(5, bz_i l5), (3, bz_l l3), (0, bz_rf E 65), (1, bz_rf E 1)] [] M := by
  intro n
  induction n with
  | zero => intro l5 l3 hf; cases hf
  | succ n ih =>
    intro l5 l3 hf
    rw [UQ_lacking_L23] at hf
    refine j_iload X dUQ_lacking_23 0 rfl ?_
    refine j_bipush X dUQ_lacking_25 rfl ?_
    refine j_icmp_ge X (tgt := 96) rfl (w32_lit rfl) dUQ_lacking_27 (by decide) hf (fun hf => ?_) (fun hf => ?_)
    · exact j_sub [1] rfl (kx _ hf)
    · refine j_aload_n X dUQ_lacking_30 rfl 2 rfl ?_
      refine j_aload_n X dUQ_lacking_31 rfl 3 rfl ?_
      refine j_iload X dUQ_lacking_32 0 rfl ?_
      obtain ⟨x3, hzx3, hf⟩ := q_cl hf
      refine j_cv X (st := []) (cUQ_sumOf E F hzx3) gyUQ_sumOf gv_UQ_sumOf_65 rfl (by decide) (by decide) wd_984 rfl (Nat.le_of_ble_eq_true rfl) dUQ_lacking_34 ?_
      refine j_lstore X (lv' := [(6, bz_l x3), (5, bz_i l5), (3, bz_l l3), (0, bz_rf E 65), (1, bz_rf E 1)]) dUQ_lacking_37 (by decide) rfl ?_
      refine j_aload_n X dUQ_lacking_39 rfl 3 rfl ?_
      refine j_aload_n X dUQ_lacking_40 rfl 4 rfl ?_
      show bz_J _ _ 41 _ _ _
      refine j_iload X dUQ_lacking_41 1 rfl ?_
      obtain ⟨x4, hzx4, hf⟩ := q_cl hf
      refine j_cv X (st := []) (cUQ_wayOf E F hzx4) gyUQ_wayOf gv_UQ_wayOf_65 rfl (by decide) (by decide) wd_997 rfl (Nat.le_of_ble_eq_true rfl) dUQ_lacking_43 ?_
      refine j_istore X (lv' := [(8, bz_i x4), (6, bz_l x3), (5, bz_i l5), (3, bz_l l3), (0, bz_rf E 65), (1, bz_rf E 1)]) dUQ_lacking_46 (by decide) rfl ?_
      refine j_iload X dUQ_lacking_48 0 rfl ?_
      refine j_iconst X dUQ_lacking_50 ?_
      obtain ⟨resJ5, hf0, hkJ5⟩ := q_l1 hf
      have J5 : ∀ (v6 : Int), some v6 = some resJ5 → bz_J K 10 78 [(6, bz_l x3), (5, bz_i l5), (3, bz_l l3), (0, bz_rf E 65), (1, bz_rf E 1)] [bz_i v6] M := by
        intro v6 he
        have hf := hkJ5 _ he
        refine j_istore X (lv' := [(9, bz_i v6), (6, bz_l x3), (5, bz_i l5), (3, bz_l l3), (0, bz_rf E 65), (1, bz_rf E 1)]) dUQ_lacking_78 (by decide) rfl ?_
        refine j_iload X dUQ_lacking_80 0 rfl ?_
        refine j_if_ne X (tgt := 90) rfl dUQ_lacking_82 (by decide) hf (fun hf => ?_) (fun hf => ?_)
        · refine j_iinc X (y := l5 + 1) (lv' := [(5, bz_i (l5 + 1)), (9, bz_i v6), (6, bz_l x3), (3, bz_l l3), (0, bz_rf E 65), (1, bz_rf E 1)]) dUQ_lacking_90 2 rfl rfl (by decide) rfl ?_
          refine j_goto X (tgt := 23) dUQ_lacking_93 (by decide) ?_
          exact j_sub [0, 3, 4, 5] rfl (ih _ _ hf)
        · refine j_lload_n X dUQ_lacking_85 rfl 3 rfl ?_
          refine j_lload X dUQ_lacking_86 1 rfl ?_
          refine j_ladd X dUQ_lacking_88 ?_
          refine j_lt (g := bz_l) hf (fun l3 hf => ?_)
          refine j_lstore_n X (lv' := [(3, bz_l l3), (9, bz_i v6), (6, bz_l x3), (5, bz_i l5), (0, bz_rf E 65), (1, bz_rf E 1)]) dUQ_lacking_89 rfl (by decide) rfl ?_
          refine j_iinc X (y := l5 + 1) (lv' := [(5, bz_i (l5 + 1)), (3, bz_l l3), (9, bz_i v6), (6, bz_l x3), (0, bz_rf E 65), (1, bz_rf E 1)]) dUQ_lacking_90 3 rfl rfl (by decide) rfl ?_
          refine j_goto X (tgt := 23) dUQ_lacking_93 (by decide) ?_
          exact j_sub [0, 1, 4, 5] rfl (ih _ _ hf)
      clear hf
      have hf := hf0
      clear hf0
      refine j_icmp_eq X (tgt := 77) rfl (w32_lit rfl) dUQ_lacking_51 (by decide) hf (fun hf => ?_) (fun hf => ?_)
      · refine j_iconst X dUQ_lacking_77 ?_
        exact j_sub [1, 2, 3, 4, 5] rfl (J5 _ hf)
      · refine j_aload_n X dUQ_lacking_54 rfl 4 rfl ?_
        refine j_aload_n X dUQ_lacking_55 rfl 5 rfl ?_
        refine j_iload X dUQ_lacking_56 2 rfl ?_
        refine j_iload X dUQ_lacking_58 0 rfl ?_
        obtain ⟨x7, hzx7, hf⟩ := q_cl hf
        refine j_cv X (st := []) (cUQ_getterOf E F hzx7) gyUQ_getterOf gv_UQ_getterOf_65 rfl (by decide) (by decide) wd_998 rfl (Nat.le_of_ble_eq_true rfl) dUQ_lacking_60 ?_
        refine j_bipush X dUQ_lacking_63 rfl ?_
        refine j_aload_n X dUQ_lacking_65 rfl 4 rfl ?_
        show bz_J _ _ 66 _ _ _
        refine j_geti X gf_UQ_37_65 dUQ_lacking_66 ?_
        refine j_iadd X dUQ_lacking_69 ?_
        refine j_icmp_ne X (tgt := 77) rfl rfl dUQ_lacking_70 (by decide) hf (fun hf => ?_) (fun hf => ?_)
        · refine j_iconst X dUQ_lacking_77 ?_
          exact j_sub [1, 2, 3, 4, 5] rfl (J5 _ hf)
        · refine j_iconst X dUQ_lacking_73 ?_
          refine j_goto X (tgt := 78) dUQ_lacking_74 (by decide) ?_
          exact j_sub [1, 2, 3, 4, 5] rfl (J5 _ hf)
def fUQ_lacking (F : Nat) (M : bz_Mm) : Option (Int) :=
  rd_ M 55 (M 65 3) 4 fun x1 =>
  rd_ M 54 (M 65 3) 4 fun x2 =>
  lt_ (x1 - x2) fun l3 =>
  cl1_ (UQ_lacking_L23 F F M 0 l3) fun l3 =>
  some l3
set_option maxHeartbeats 4000000 in
set_option maxRecDepth 20000 in
theorem cUQ_lacking (E : bz_E) (F : Nat)  {M : bz_Mm} {x0 : Int} (hf : fUQ_lacking F M = some x0) : bz_Ct E yUQ_lacking (.code yUQ_lacking prog_4_method_9_code 10 (some .long)) 3 75 [bz_rf E 65, bz_rf E 1, bz_rf E 53] M (some (bz_l x0)) M := by
  refine bz_met (by decide +kernel) (Nat.le_of_ble_eq_true rfl) (fun K X => ?_)
  have X : bz_X K E prog_4_method_9_code 10 "UnitsWrong$Claims" (some .long) 3 75 _ _ := X
  unfold fUQ_lacking at hf
  show bz_J K 10 0 [(0, bz_rf E 65), (1, bz_rf E 1), (2, bz_rf E 53)] [] M
  refine j_aload_n X dUQ_lacking_0 rfl 2 rfl ?_
  refine j_geta X gf_UQ_118_53 dUQ_lacking_1 ?_
  refine j_aload_n X dUQ_lacking_4 rfl 0 rfl ?_
  refine j_geti X gf_UQ_37_65 dUQ_lacking_5 ?_
  refine j_lald X sh_55 dUQ_lacking_8 hf (fun x1 hf => ?_)
  refine j_aload_n X dUQ_lacking_9 rfl 2 rfl ?_
  refine j_geta X gf_UQ_121_53 dUQ_lacking_10 ?_
  show bz_J _ _ 13 _ _ _
  refine j_aload_n X dUQ_lacking_13 rfl 0 rfl ?_
  refine j_geti X gf_UQ_37_65 dUQ_lacking_14 ?_
  refine j_lald X sh_54 dUQ_lacking_17 hf (fun x2 hf => ?_)
  refine j_lsub X dUQ_lacking_18 ?_
  refine j_lt (g := bz_l) hf (fun l3 hf => ?_)
  refine j_lstore_n X (lv' := [(3, bz_l l3), (0, bz_rf E 65), (1, bz_rf E 1), (2, bz_rf E 53)]) dUQ_lacking_19 rfl (by decide) rfl ?_
  refine j_iconst X dUQ_lacking_20 ?_
  refine j_istore X (lv' := [(5, bz_i 0), (3, bz_l l3), (0, bz_rf E 65), (1, bz_rf E 1), (2, bz_rf E 53)]) dUQ_lacking_21 (by decide) rfl ?_
  obtain ⟨res8, hz8, hk8⟩ := q_l1 hf
  clear hf
  refine j_sub [0, 1, 2, 3] rfl ?_
  refine lUQ_lacking_L23 E F X (fun l3 he => ?_) F 0 l3 hz8
  have hf := hk8 _ he
  refine j_lload_n X dUQ_lacking_96 rfl 0 rfl ?_
  cases hf
  exact j_lret X dUQ_lacking_97 rfl rfl
def fU_house (F : Nat) (M : bz_Mm) (a1 : Int) (a2 : Int) : Option (Int × bz_Mm) :=
  if w32 (fUS_isFund M a1) = 0 then
  (some (((-2147483648), M)))
  else
  (if w32 a2 < 0 then
  (some (((-2147483648), M)))
  else
  (if w32 (fUS_latestKnown M) < w32 a2 then
  (some (((-2147483648), M)))
  else
  (cl_ (fUC_walkTo F M a2) fun m1 =>
  cl_ (fUQ_gather F m1 a1 a2) fun m2 =>
  cl_ (fUQ_lacking F m2) fun x3 =>
  some ((fU_told x3, m2)))))
set_option maxHeartbeats 4000000 in
set_option maxRecDepth 20000 in
theorem cU_house (E : bz_E) (F : Nat)  {M : bz_Mm} {a1 : Int} {a2 : Int} {x0 : Int × bz_Mm} (hf : fU_house F M a1 a2 = some x0) : bz_Ct E yU_house (.code yU_house prog_1_method_25_code 3 (some .int)) 6 145 [bz_rf E 0, bz_i a1, bz_i a2] M (some (bz_i x0.1)) x0.2 := by
  refine bz_met (by decide +kernel) (Nat.le_of_ble_eq_true rfl) (fun K X => ?_)
  have X : bz_X K E prog_1_method_25_code 3 "UnitsWrong" (some .int) 6 145 _ _ := X
  unfold fU_house at hf
  show bz_J K 3 0 [(0, bz_rf E 0), (1, bz_i a1), (2, bz_i a2)] [] M
  refine j_aload_n X dU_house_0 rfl 0 rfl ?_
  refine j_geta X gf_U_10_0 dU_house_1 ?_
  refine j_iload_n X dU_house_4 rfl 1 rfl ?_
  refine j_cv X (st := []) (cUS_isFund E) gyUS_isFund gv_US_isFund_1 rfl (by decide) (by decide) wd_584 rfl (Nat.le_of_ble_eq_true rfl) dU_house_5 ?_
  refine j_if_eq X (tgt := 26) rfl dU_house_8 (by decide) hf (fun hf => ?_) (fun hf => ?_)
  · refine j_ldc X (v := -2147483648) wd_571 dU_house_26 ?_
    cases hf
    exact j_iret X dU_house_28 rfl rfl
  · refine j_iload_n X dU_house_11 rfl 2 rfl ?_
    refine j_if_lt X (tgt := 26) rfl dU_house_12 (by decide) hf (fun hf => ?_) (fun hf => ?_)
    · refine j_ldc X (v := -2147483648) wd_571 dU_house_26 ?_
      cases hf
      exact j_iret X dU_house_28 rfl rfl
    · refine j_iload_n X dU_house_15 rfl 2 rfl ?_
      refine j_aload_n X dU_house_16 rfl 0 rfl ?_
      refine j_geta X gf_U_10_0 dU_house_17 ?_
      refine j_cv X (st := [bz_i a2]) (cUS_latestKnown E) gyUS_latestKnown gv_US_latestKnown_1 rfl (by decide) (by decide) wd_911 rfl (Nat.le_of_ble_eq_true rfl) dU_house_20 ?_
      refine j_icmp_le X (tgt := 29) rfl rfl dU_house_23 (by decide) hf (fun hf => ?_) (fun hf => ?_)
      · refine j_aload_n X dU_house_29 rfl 0 rfl ?_
        refine j_geta X gf_U_26_0 dU_house_30 ?_
        refine j_aload_n X dU_house_33 rfl 0 rfl ?_
        refine j_geta X gf_U_10_0 dU_house_34 ?_
        refine j_iload_n X dU_house_37 rfl 2 rfl ?_
        obtain ⟨m1, hz, hf⟩ := q_cl hf
        refine j_cv X (st := []) (cUC_walkTo E F hz) gyUC_walkTo gv_UC_walkTo_53 rfl (by decide) (by decide) wd_915 rfl (Nat.le_of_ble_eq_true rfl) dU_house_38 ?_
        clear hz
        refine j_aload_n X dU_house_41 rfl 0 rfl ?_
        show bz_J _ _ 42 _ _ _
        refine j_geta X gf_U_33_0 dU_house_42 ?_
        refine j_aload_n X dU_house_45 rfl 0 rfl ?_
        refine j_geta X gf_U_10_0 dU_house_46 ?_
        refine j_aload_n X dU_house_49 rfl 0 rfl ?_
        refine j_geta X gf_U_26_0 dU_house_50 ?_
        refine j_iload_n X dU_house_53 rfl 1 rfl ?_
        refine j_iload_n X dU_house_54 rfl 2 rfl ?_
        obtain ⟨m2, hz, hf⟩ := q_cl hf
        refine j_cv X (st := []) (cUQ_gather E F hz) gyUQ_gather gv_UQ_gather_65 rfl (by decide) (by decide) wd_956 rfl (Nat.le_of_ble_eq_true rfl) dU_house_55 ?_
        clear hz
        show bz_J _ _ 58 _ _ _
        refine j_aload_n X dU_house_58 rfl 0 rfl ?_
        refine j_geta X gf_U_33_0 dU_house_59 ?_
        refine j_aload_n X dU_house_62 rfl 0 rfl ?_
        refine j_geta X gf_U_10_0 dU_house_63 ?_
        refine j_aload_n X dU_house_66 rfl 0 rfl ?_
        refine j_geta X gf_U_26_0 dU_house_67 ?_
        obtain ⟨x3, hzx3, hf⟩ := q_cl hf
        refine j_cv X (st := []) (cUQ_lacking E F hzx3) gyUQ_lacking gv_UQ_lacking_65 rfl (by decide) (by decide) wd_993 rfl (Nat.le_of_ble_eq_true rfl) dU_house_70 ?_
        refine j_cs X (st := []) (cU_told E) gyU_told wd_921 rfl (by decide) (by decide) wd_920 rfl (Nat.le_of_ble_eq_true rfl) dU_house_73 ?_
        show bz_J _ _ 76 _ _ _
        cases hf
        exact j_iret X dU_house_76 rfl rfl
      · refine j_ldc X (v := -2147483648) wd_571 dU_house_26 ?_
        cases hf
        exact j_iret X dU_house_28 rfl rfl
def fU_cash (F : Nat) (M : bz_Mm) (a1 : Int) (a2 : Int) : Option (Int × bz_Mm) :=
  if w32 (fUS_isFund M a1) = 0 then
  (some (((-2147483648), M)))
  else
  (if w32 a2 < 0 then
  (some (((-2147483648), M)))
  else
  (if 1 < w32 a2 then
  (some (((-2147483648), M)))
  else
  (cl_ (fUC_walkTo F M (fUS_latestKnown M)) fun m1 =>
  cl1_ (if w32 a2 = 0 then
  (rd_ m1 54 a1 4 fun x5 =>
  some (x5))
  else
  (rd_ m1 55 a1 4 fun x4 =>
  some (x4))) fun v3 =>
  some ((fU_told v3, m1)))))
set_option maxHeartbeats 4000000 in
set_option maxRecDepth 20000 in
theorem cU_cash (E : bz_E) (F : Nat)  {M : bz_Mm} {a1 : Int} {a2 : Int} {x0 : Int × bz_Mm} (hf : fU_cash F M a1 a2 = some x0) : bz_Ct E yU_cash (.code yU_cash prog_1_method_26_code 3 (some .int)) 6 145 [bz_rf E 0, bz_i a1, bz_i a2] M (some (bz_i x0.1)) x0.2 := by
  refine bz_met (by decide +kernel) (Nat.le_of_ble_eq_true rfl) (fun K X => ?_)
  have X : bz_X K E prog_1_method_26_code 3 "UnitsWrong" (some .int) 6 145 _ _ := X
  unfold fU_cash at hf
  show bz_J K 3 0 [(0, bz_rf E 0), (1, bz_i a1), (2, bz_i a2)] [] M
  refine j_aload_n X dU_cash_0 rfl 0 rfl ?_
  refine j_geta X gf_U_10_0 dU_cash_1 ?_
  refine j_iload_n X dU_cash_4 rfl 1 rfl ?_
  refine j_cv X (st := []) (cUS_isFund E) gyUS_isFund gv_US_isFund_1 rfl (by decide) (by decide) wd_584 rfl (Nat.le_of_ble_eq_true rfl) dU_cash_5 ?_
  refine j_if_eq X (tgt := 20) rfl dU_cash_8 (by decide) hf (fun hf => ?_) (fun hf => ?_)
  · refine j_ldc X (v := -2147483648) wd_571 dU_cash_20 ?_
    cases hf
    exact j_iret X dU_cash_22 rfl rfl
  · refine j_iload_n X dU_cash_11 rfl 2 rfl ?_
    refine j_if_lt X (tgt := 20) rfl dU_cash_12 (by decide) hf (fun hf => ?_) (fun hf => ?_)
    · refine j_ldc X (v := -2147483648) wd_571 dU_cash_20 ?_
      cases hf
      exact j_iret X dU_cash_22 rfl rfl
    · refine j_iload_n X dU_cash_15 rfl 2 rfl ?_
      refine j_iconst X dU_cash_16 ?_
      refine j_icmp_le X (tgt := 23) rfl (w32_lit rfl) dU_cash_17 (by decide) hf (fun hf => ?_) (fun hf => ?_)
      · refine j_aload_n X dU_cash_23 rfl 0 rfl ?_
        refine j_geta X gf_U_26_0 dU_cash_24 ?_
        refine j_aload_n X dU_cash_27 rfl 0 rfl ?_
        refine j_geta X gf_U_10_0 dU_cash_28 ?_
        refine j_aload_n X dU_cash_31 rfl 0 rfl ?_
        refine j_geta X gf_U_10_0 dU_cash_32 ?_
        refine j_cv X (st := [bz_rf E 1, bz_rf E 53]) (cUS_latestKnown E) gyUS_latestKnown gv_US_latestKnown_1 rfl (by decide) (by decide) wd_911 rfl (Nat.le_of_ble_eq_true rfl) dU_cash_35 ?_
        show bz_J _ _ 38 _ _ _
        obtain ⟨m1, hz, hf⟩ := q_cl hf
        refine j_cv X (st := []) (cUC_walkTo E F hz) gyUC_walkTo gv_UC_walkTo_53 rfl (by decide) (by decide) wd_915 rfl (Nat.le_of_ble_eq_true rfl) dU_cash_38 ?_
        clear hz
        refine j_iload_n X dU_cash_41 rfl 2 rfl ?_
        obtain ⟨resJ2, hf0, hkJ2⟩ := q_l1 hf
        have J2 : ∀ (v3 : Int), some v3 = some resJ2 → bz_J K 3 66 [] [bz_l v3] m1 := by
          intro v3 he
          have hf := hkJ2 _ he
          refine j_cs X (st := []) (cU_told E) gyU_told wd_921 rfl (by decide) (by decide) wd_920 rfl (Nat.le_of_ble_eq_true rfl) dU_cash_66 ?_
          cases hf
          exact j_iret X dU_cash_69 rfl rfl
        clear hf
        have hf := hf0
        clear hf0
        refine j_if_ne X (tgt := 57) rfl dU_cash_42 (by decide) hf (fun hf => ?_) (fun hf => ?_)
        · refine j_aload_n X dU_cash_57 rfl 0 rfl ?_
          refine j_geta X gf_U_26_0 dU_cash_58 ?_
          refine j_geta X gf_U_264_53 dU_cash_61 ?_
          refine j_iload_n X dU_cash_64 rfl 1 rfl ?_
          refine j_lald X sh_55 dU_cash_65 hf (fun x4 hf => ?_)
          exact j_sub [] rfl (J2 _ hf)
        · refine j_aload_n X dU_cash_45 rfl 0 rfl ?_
          refine j_geta X gf_U_26_0 dU_cash_46 ?_
          refine j_geta X gf_U_261_53 dU_cash_49 ?_
          refine j_iload_n X dU_cash_52 rfl 1 rfl ?_
          refine j_lald X sh_54 dU_cash_53 hf (fun x5 hf => ?_)
          refine j_goto X (tgt := 66) dU_cash_54 (by decide) ?_
          exact j_sub [] rfl (J2 _ hf)
      · refine j_ldc X (v := -2147483648) wd_571 dU_cash_20 ?_
        cases hf
        exact j_iret X dU_cash_22 rfl rfl
def UD_taxOf_41_L20 (F : Nat) : Nat → bz_Mm → Int → Int → Int → Int → Option (Int ⊕ (Int))
  | 0, _, _, _, _, _ => none
  | n + 1, M, l2, l8, l6, l4 =>
    if w32 l8 < w32 (M 34 2) then
    (rd_ M 36 l8 200 fun x2 =>
    rd_ M 37 x2 200 fun x3 =>
    rd_ M 37 l2 200 fun x4 =>
    if w32 x3 = w32 x4 then
    (rd_ M 38 x2 200 fun x5 =>
    rd_ M 38 l2 200 fun x6 =>
    if w32 x5 = w32 x6 then
    (rd_ M 40 x2 200 fun x7 =>
    cl1_ (if 0 < w32 x7 then
    (rd_ M 41 x2 200 fun x9 =>
    lt_ (l4 + x9) fun l4 =>
    some (l4))
    else
    (some (l4))) fun l4 =>
    rd_ M 40 x2 200 fun x10 =>
    cl1_ (if w32 x10 < 0 then
    (if 0 < w64 l6 then
    (rd_ M 40 x2 200 fun x13 =>
    dv_ (l4 * (w32 (-x13))) l6 fun x14 =>
    some (x14))
    else
    (some (0)))
    else
    (some (0))) fun v12 =>
    if w32 x2 = w32 l2 then
    (rd_ M 41 l2 200 fun x16 =>
    lt_ (fJM_max1 0 (x16 - v12)) fun l12 =>
    rd_ M 38 l2 200 fun x17 =>
    rd_ M 35 l2 200 fun x18 =>
    cl_ (fUL_value F M x17 x18 10) fun x19 =>
    some (.inl ((w64 (l12 * (w32 x19))).tdiv 100)))
    else
    (lt_ (l4 - v12) fun l4 =>
    rd_ M 40 x2 200 fun x15 =>
    lt_ (l6 + (w32 x15)) fun l6 =>
    UD_taxOf_41_L20 F n M l2 (l8 + 1) l6 l4))
    else
    (UD_taxOf_41_L20 F n M l2 (l8 + 1) l6 l4))
    else
    (UD_taxOf_41_L20 F n M l2 (l8 + 1) l6 l4))
    else
    (some (.inr 0))
theorem lUD_taxOf_41_L20 (E : bz_E) (F : Nat) {K : bz_K} {rv : Option Value} {M1 : bz_Mm} (X : bz_X K E prog_6_method_5_code 14 "UnitsWrong$Deals" (some .long) 1 24 rv M1) {M : bz_Mm} {l2 : Int} {res : (Int ⊕ (Int))}
    (kx : ∀ (_u : Int), some (.inr _u) = some res → bz_J K 14 210 [] [] M) (kr : ∀ b : Int, some (.inl b) = some res → some (bz_l b) = rv ∧ M = M1) :
    ∀ (n : Nat) (l8 : Int) (l6 : Int) (l4 : Int), UD_taxOf_41_L20 F n M l2 l8 l6 l4 = some res → bz_J K 14 20 [(8, bz_i l8), (6, bz_l l6), (4, bz_l l4), (0, bz_rf E 33), (1, bz_rf E 45), (2, bz_i l2), (3, bz_rf E 41)] [] M := by
  intro n
  induction n with
  | zero => intro l8 l6 l4 hf; cases hf
  | succ n ih =>
    intro l8 l6 l4 hf
    rw [UD_taxOf_41_L20] at hf
    refine j_iload X dUD_taxOf_20 0 rfl ?_
    refine j_aload_n X dUD_taxOf_22 rfl 3 rfl ?_
    refine j_geta X gf_UD_16_33 dUD_taxOf_23 ?_
    refine j_geti X gf_UD_60_34 dUD_taxOf_26 ?_
    refine j_icmp_ge X (tgt := 210) rfl rfl dUD_taxOf_29 (by decide) hf (fun hf => ?_) (fun hf => ?_)
    · exact j_sub [] rfl (kx _ hf)
    · refine j_aload_n X dUD_taxOf_32 rfl 3 rfl ?_
      refine j_geta X gf_UD_16_33 dUD_taxOf_33 ?_
      refine j_geta X gf_UD_64_34 dUD_taxOf_36 ?_
      refine j_iload X dUD_taxOf_39 0 rfl ?_
      refine j_iald X sh_36 dUD_taxOf_41 hf (fun x2 hf => ?_)
      refine j_istore X (lv' := [(9, bz_i x2), (8, bz_i l8), (6, bz_l l6), (4, bz_l l4), (0, bz_rf E 33), (1, bz_rf E 45), (2, bz_i l2), (3, bz_rf E 41)]) dUD_taxOf_42 (by decide) rfl ?_
      refine j_aload_n X dUD_taxOf_44 rfl 4 rfl ?_
      show bz_J _ _ 45 _ _ _
      refine j_geta X gf_UD_20_33 dUD_taxOf_45 ?_
      refine j_iload X dUD_taxOf_48 0 rfl ?_
      refine j_iald X sh_37 dUD_taxOf_50 hf (fun x3 hf => ?_)
      refine j_aload_n X dUD_taxOf_51 rfl 4 rfl ?_
      refine j_geta X gf_UD_20_33 dUD_taxOf_52 ?_
      refine j_iload_n X dUD_taxOf_55 rfl 6 rfl ?_
      refine j_iald X sh_37 dUD_taxOf_56 hf (fun x4 hf => ?_)
      refine j_icmp_ne X (tgt := 204) rfl rfl dUD_taxOf_57 (by decide) hf (fun hf => ?_) (fun hf => ?_)
      · refine j_iinc X (y := l8 + 1) (lv' := [(8, bz_i (l8 + 1)), (9, bz_i x2), (6, bz_l l6), (4, bz_l l4), (0, bz_rf E 33), (1, bz_rf E 45), (2, bz_i l2), (3, bz_rf E 41)]) dUD_taxOf_204 1 rfl rfl (by decide) rfl ?_
        refine j_goto X (tgt := 20) dUD_taxOf_207 (by decide) ?_
        exact j_sub [0, 2, 3, 4, 5, 6, 7] rfl (ih _ _ _ hf)
      · refine j_aload_n X dUD_taxOf_60 rfl 4 rfl ?_
        refine j_geta X gf_UD_24_33 dUD_taxOf_61 ?_
        refine j_iload X dUD_taxOf_64 0 rfl ?_
        refine j_iald X sh_38 dUD_taxOf_66 hf (fun x5 hf => ?_)
        refine j_aload_n X dUD_taxOf_67 rfl 4 rfl ?_
        refine j_geta X gf_UD_24_33 dUD_taxOf_68 ?_
        refine j_iload_n X dUD_taxOf_71 rfl 6 rfl ?_
        show bz_J _ _ 72 _ _ _
        refine j_iald X sh_38 dUD_taxOf_72 hf (fun x6 hf => ?_)
        refine j_icmp_eq X (tgt := 79) rfl rfl dUD_taxOf_73 (by decide) hf (fun hf => ?_) (fun hf => ?_)
        · refine j_aload_n X dUD_taxOf_79 rfl 4 rfl ?_
          refine j_geta X gf_UD_30_33 dUD_taxOf_80 ?_
          refine j_iload X dUD_taxOf_83 0 rfl ?_
          refine j_iald X sh_40 dUD_taxOf_85 hf (fun x7 hf => ?_)
          obtain ⟨resJ8, hf0, hkJ8⟩ := q_l1 hf
          have J8 : ∀ (l4 : Int), some l4 = some resJ8 → bz_J K 14 98 [(9, bz_i x2), (8, bz_i l8), (6, bz_l l6), (4, bz_l l4), (0, bz_rf E 33), (1, bz_rf E 45), (2, bz_i l2), (3, bz_rf E 41)] [] M := by
            intro l4 he
            have hf := hkJ8 _ he
            refine j_aload_n X dUD_taxOf_98 rfl 4 rfl ?_
            refine j_geta X gf_UD_30_33 dUD_taxOf_99 ?_
            refine j_iload X dUD_taxOf_102 0 rfl ?_
            refine j_iald X sh_40 dUD_taxOf_104 hf (fun x10 hf => ?_)
            obtain ⟨resJ11, hf0, hkJ11⟩ := q_l1 hf
            have J11 : ∀ (v12 : Int), some v12 = some resJ11 → bz_J K 14 134 [(9, bz_i x2), (8, bz_i l8), (6, bz_l l6), (4, bz_l l4), (0, bz_rf E 33), (1, bz_rf E 45), (2, bz_i l2), (3, bz_rf E 41)] [bz_l v12] M := by
              intro v12 he
              have hf := hkJ11 _ he
              refine j_lstore X (lv' := [(10, bz_l v12), (9, bz_i x2), (8, bz_i l8), (6, bz_l l6), (4, bz_l l4), (0, bz_rf E 33), (1, bz_rf E 45), (2, bz_i l2), (3, bz_rf E 41)]) dUD_taxOf_134 (by decide) rfl ?_
              refine j_iload X dUD_taxOf_136 1 rfl ?_
              refine j_iload_n X dUD_taxOf_138 rfl 7 rfl ?_
              refine j_icmp_ne X (tgt := 184) rfl rfl dUD_taxOf_139 (by decide) hf (fun hf => ?_) (fun hf => ?_)
              · refine j_lload X dUD_taxOf_184 4 rfl ?_
                refine j_lload X dUD_taxOf_186 0 rfl ?_
                refine j_lsub X dUD_taxOf_188 ?_
                refine j_lt (g := bz_l) hf (fun l4 hf => ?_)
                refine j_lstore X (lv' := [(4, bz_l l4), (10, bz_l v12), (9, bz_i x2), (8, bz_i l8), (6, bz_l l6), (0, bz_rf E 33), (1, bz_rf E 45), (2, bz_i l2), (3, bz_rf E 41)]) dUD_taxOf_189 (by decide) rfl ?_
                refine j_lload X dUD_taxOf_191 4 rfl ?_
                refine j_aload_n X dUD_taxOf_193 rfl 5 rfl ?_
                refine j_geta X gf_UD_30_33 dUD_taxOf_194 ?_
                show bz_J _ _ 197 _ _ _
                refine j_iload X dUD_taxOf_197 2 rfl ?_
                refine j_iald X sh_40 dUD_taxOf_199 hf (fun x15 hf => ?_)
                refine j_i2l X rfl dUD_taxOf_200 ?_
                refine j_ladd X dUD_taxOf_201 ?_
                refine j_lt (g := bz_l) hf (fun l6 hf => ?_)
                refine j_lstore X (lv' := [(6, bz_l l6), (4, bz_l l4), (10, bz_l v12), (9, bz_i x2), (8, bz_i l8), (0, bz_rf E 33), (1, bz_rf E 45), (2, bz_i l2), (3, bz_rf E 41)]) dUD_taxOf_202 (by decide) rfl ?_
                refine j_iinc X (y := l8 + 1) (lv' := [(8, bz_i (l8 + 1)), (6, bz_l l6), (4, bz_l l4), (10, bz_l v12), (9, bz_i x2), (0, bz_rf E 33), (1, bz_rf E 45), (2, bz_i l2), (3, bz_rf E 41)]) dUD_taxOf_204 4 rfl rfl (by decide) rfl ?_
                refine j_goto X (tgt := 20) dUD_taxOf_207 (by decide) ?_
                exact j_sub [0, 1, 2, 5, 6, 7, 8] rfl (ih _ _ _ hf)
              · refine j_lconst X (v := 0) dUD_taxOf_142 rfl ?_
                refine j_aload_n X dUD_taxOf_143 rfl 8 rfl ?_
                refine j_iload_n X dUD_taxOf_144 rfl 7 rfl ?_
                refine j_lald X sh_41 dUD_taxOf_145 hf (fun x16 hf => ?_)
                refine j_lload X dUD_taxOf_146 0 rfl ?_
                refine j_lsub X dUD_taxOf_148 ?_
                refine j_cs X (st := []) (cJM_max1 E) gyJM_max1 wd_837 rfl (by decide) (by decide) wd_1014 rfl (Nat.le_of_ble_eq_true rfl) dUD_taxOf_149 ?_
                show bz_J _ _ 152 _ _ _
                refine j_lt (g := bz_l) hf (fun l12 hf => ?_)
                refine j_lstore X (lv' := [(12, bz_l l12), (10, bz_l v12), (9, bz_i x2), (8, bz_i l8), (6, bz_l l6), (4, bz_l l4), (0, bz_rf E 33), (1, bz_rf E 45), (2, bz_i l2), (3, bz_rf E 41)]) dUD_taxOf_152 (by decide) rfl ?_
                refine j_lload X dUD_taxOf_154 0 rfl ?_
                refine j_aload_n X dUD_taxOf_156 rfl 7 rfl ?_
                refine j_aload_n X dUD_taxOf_157 rfl 6 rfl ?_
                refine j_geta X gf_UD_24_33 dUD_taxOf_158 ?_
                refine j_iload_n X dUD_taxOf_161 rfl 8 rfl ?_
                refine j_iald X sh_38 dUD_taxOf_162 hf (fun x17 hf => ?_)
                refine j_aload_n X dUD_taxOf_163 rfl 6 rfl ?_
                show bz_J _ _ 164 _ _ _
                refine j_geta X gf_UD_16_33 dUD_taxOf_164 ?_
                refine j_geta X gf_UD_70_34 dUD_taxOf_167 ?_
                refine j_iload_n X dUD_taxOf_170 rfl 8 rfl ?_
                refine j_iald X sh_35 dUD_taxOf_171 hf (fun x18 hf => ?_)
                refine j_bipush X dUD_taxOf_172 rfl ?_
                obtain ⟨x19, hzx19, hf⟩ := q_cl hf
                refine j_cv X (st := [bz_l l12]) (cUL_value E F hzx19) gyUL_value gv_UL_value_45 rfl (by decide) (by decide) wd_1015 rfl (Nat.le_of_ble_eq_true rfl) dUD_taxOf_174 ?_
                refine j_i2l X rfl dUD_taxOf_177 ?_
                refine j_lmul X dUD_taxOf_178 ?_
                show bz_J _ _ 179 _ _ _
                refine j_ldc2 X (v := 100) wd_882 dUD_taxOf_179 ?_
                refine j_ldl X (w64_lit rfl) (by decide) dUD_taxOf_182 ?_
                exact j_lret X dUD_taxOf_183 (kr _ hf).1 (kr _ hf).2
            clear hf
            have hf := hf0
            clear hf0
            refine j_if_ge X (tgt := 133) rfl dUD_taxOf_105 (by decide) hf (fun hf => ?_) (fun hf => ?_)
            · refine j_lconst X (v := 0) dUD_taxOf_133 rfl ?_
              exact J11 _ hf
            · refine j_lload X dUD_taxOf_108 2 rfl ?_
              refine j_lconst X (v := 0) dUD_taxOf_110 rfl ?_
              refine j_lcmp_le X (tgt := 133) rfl (w64_lit rfl) dUD_taxOf_111 dUD_taxOf_112 (by decide) hf (fun hf => ?_) (fun hf => ?_)
              · refine j_lconst X (v := 0) dUD_taxOf_133 rfl ?_
                exact J11 _ hf
              · refine j_lload X dUD_taxOf_115 3 rfl ?_
                refine j_aload_n X dUD_taxOf_117 rfl 4 rfl ?_
                refine j_geta X gf_UD_30_33 dUD_taxOf_118 ?_
                refine j_iload X dUD_taxOf_121 0 rfl ?_
                refine j_iald X sh_40 dUD_taxOf_123 hf (fun x13 hf => ?_)
                refine j_ineg X dUD_taxOf_124 ?_
                refine j_i2l X rfl dUD_taxOf_125 ?_
                show bz_J _ _ 126 _ _ _
                refine j_lmul X dUD_taxOf_126 ?_
                refine j_lload X dUD_taxOf_127 2 rfl ?_
                refine j_ldiv X dUD_taxOf_129 hf (fun x14 hf => ?_)
                refine j_goto X (tgt := 134) dUD_taxOf_130 (by decide) ?_
                exact J11 _ hf
          clear hf
          have hf := hf0
          clear hf0
          refine j_if_le X (tgt := 98) rfl dUD_taxOf_86 (by decide) hf (fun hf => ?_) (fun hf => ?_)
          · exact J8 _ hf
          · refine j_lload X dUD_taxOf_89 3 rfl ?_
            refine j_aload_n X dUD_taxOf_91 rfl 7 rfl ?_
            refine j_iload X dUD_taxOf_92 0 rfl ?_
            refine j_lald X sh_41 dUD_taxOf_94 hf (fun x9 hf => ?_)
            refine j_ladd X dUD_taxOf_95 ?_
            refine j_lt (g := bz_l) hf (fun l4 hf => ?_)
            refine j_lstore X (lv' := [(4, bz_l l4), (9, bz_i x2), (8, bz_i l8), (6, bz_l l6), (0, bz_rf E 33), (1, bz_rf E 45), (2, bz_i l2), (3, bz_rf E 41)]) dUD_taxOf_96 (by decide) rfl ?_
            exact j_sub [1, 2, 3, 0, 4, 5, 6, 7] rfl (J8 _ hf)
        · refine j_goto X (tgt := 204) dUD_taxOf_76 (by decide) ?_
          refine j_iinc X (y := l8 + 1) (lv' := [(8, bz_i (l8 + 1)), (9, bz_i x2), (6, bz_l l6), (4, bz_l l4), (0, bz_rf E 33), (1, bz_rf E 45), (2, bz_i l2), (3, bz_rf E 41)]) dUD_taxOf_204 1 rfl rfl (by decide) rfl ?_
          refine j_goto X (tgt := 20) dUD_taxOf_207 (by decide) ?_
          exact j_sub [0, 2, 3, 4, 5, 6, 7] rfl (ih _ _ _ hf)
def fUD_taxOf_41 (F : Nat) (M : bz_Mm) (a2 : Int) : Option (Int) :=
  rd_ M 40 a2 200 fun x1 =>
  if w32 x1 < 0 then
  (cs1_ (UD_taxOf_41_L20 F F M a2 0 0 0) (fun b => some b) fun _u =>
  some 0)
  else
  (some 0)
set_option maxHeartbeats 4000000 in
set_option maxRecDepth 20000 in
theorem cUD_taxOf_41 (E : bz_E) (F : Nat)  {M : bz_Mm} {a2 : Int} {x0 : Int} (hf : fUD_taxOf_41 F M a2 = some x0) : bz_Ct E yUD_taxOf (.code yUD_taxOf prog_6_method_5_code 14 (some .long)) 1 24 [bz_rf E 33, bz_rf E 45, bz_i a2, bz_rf E 41] M (some (bz_l x0)) M := by
  refine bz_met (by decide +kernel) (Nat.le_of_ble_eq_true rfl) (fun K X => ?_)
  have X : bz_X K E prog_6_method_5_code 14 "UnitsWrong$Deals" (some .long) 1 24 _ _ := X
  unfold fUD_taxOf_41 at hf
  show bz_J K 14 0 [(0, bz_rf E 33), (1, bz_rf E 45), (2, bz_i a2), (3, bz_rf E 41)] [] M
  refine j_aload_n X dUD_taxOf_0 rfl 0 rfl ?_
  refine j_geta X gf_UD_30_33 dUD_taxOf_1 ?_
  refine j_iload_n X dUD_taxOf_4 rfl 2 rfl ?_
  refine j_iald X sh_40 dUD_taxOf_5 hf (fun x1 hf => ?_)
  refine j_if_lt X (tgt := 11) rfl dUD_taxOf_6 (by decide) hf (fun hf => ?_) (fun hf => ?_)
  · refine j_lconst X (v := 0) dUD_taxOf_11 rfl ?_
    refine j_lstore X (lv' := [(4, bz_l 0), (0, bz_rf E 33), (1, bz_rf E 45), (2, bz_i a2), (3, bz_rf E 41)]) dUD_taxOf_12 (by decide) rfl ?_
    refine j_lconst X (v := 0) dUD_taxOf_14 rfl ?_
    refine j_lstore X (lv' := [(6, bz_l 0), (4, bz_l 0), (0, bz_rf E 33), (1, bz_rf E 45), (2, bz_i a2), (3, bz_rf E 41)]) dUD_taxOf_15 (by decide) rfl ?_
    refine j_iconst X dUD_taxOf_17 ?_
    refine j_istore X (lv' := [(8, bz_i 0), (6, bz_l 0), (4, bz_l 0), (0, bz_rf E 33), (1, bz_rf E 45), (2, bz_i a2), (3, bz_rf E 41)]) dUD_taxOf_18 (by decide) rfl ?_
    obtain ⟨res20, hz20, hk20, hr20⟩ := q_s1 hf
    clear hf
    refine lUD_taxOf_41_L20 E F X (fun _u he => ?_) (fun b he => ?_) F 0 0 0 hz20
    · have hf := hk20 _ he
      refine j_lconst X (v := 0) dUD_taxOf_210 rfl ?_
      cases hf
      exact j_lret X dUD_taxOf_211 rfl rfl
    · have hf := hr20 _ he
      cases hf
      exact ⟨rfl, rfl⟩
  · refine j_lconst X (v := 0) dUD_taxOf_9 rfl ?_
    cases hf
    exact j_lret X dUD_taxOf_10 rfl rfl
def UD_taxOf_42_L20 (F : Nat) : Nat → bz_Mm → Int → Int → Int → Int → Option (Int ⊕ (Int))
  | 0, _, _, _, _, _ => none
  | n + 1, M, l2, l8, l6, l4 =>
    if w32 l8 < w32 (M 34 2) then
    (rd_ M 36 l8 200 fun x2 =>
    rd_ M 37 x2 200 fun x3 =>
    rd_ M 37 l2 200 fun x4 =>
    if w32 x3 = w32 x4 then
    (rd_ M 38 x2 200 fun x5 =>
    rd_ M 38 l2 200 fun x6 =>
    if w32 x5 = w32 x6 then
    (rd_ M 40 x2 200 fun x7 =>
    cl1_ (if 0 < w32 x7 then
    (rd_ M 42 x2 200 fun x9 =>
    lt_ (l4 + x9) fun l4 =>
    some (l4))
    else
    (some (l4))) fun l4 =>
    rd_ M 40 x2 200 fun x10 =>
    cl1_ (if w32 x10 < 0 then
    (if 0 < w64 l6 then
    (rd_ M 40 x2 200 fun x13 =>
    dv_ (l4 * (w32 (-x13))) l6 fun x14 =>
    some (x14))
    else
    (some (0)))
    else
    (some (0))) fun v12 =>
    if w32 x2 = w32 l2 then
    (rd_ M 42 l2 200 fun x16 =>
    lt_ (fJM_max1 0 (x16 - v12)) fun l12 =>
    rd_ M 38 l2 200 fun x17 =>
    rd_ M 35 l2 200 fun x18 =>
    cl_ (fUL_value F M x17 x18 10) fun x19 =>
    some (.inl ((w64 (l12 * (w32 x19))).tdiv 100)))
    else
    (lt_ (l4 - v12) fun l4 =>
    rd_ M 40 x2 200 fun x15 =>
    lt_ (l6 + (w32 x15)) fun l6 =>
    UD_taxOf_42_L20 F n M l2 (l8 + 1) l6 l4))
    else
    (UD_taxOf_42_L20 F n M l2 (l8 + 1) l6 l4))
    else
    (UD_taxOf_42_L20 F n M l2 (l8 + 1) l6 l4))
    else
    (some (.inr 0))
theorem lUD_taxOf_42_L20 (E : bz_E) (F : Nat) {K : bz_K} {rv : Option Value} {M1 : bz_Mm} (X : bz_X K E prog_6_method_5_code 14 "UnitsWrong$Deals" (some .long) 1 24 rv M1) {M : bz_Mm} {l2 : Int} {res : (Int ⊕ (Int))}
    (kx : ∀ (_u : Int), some (.inr _u) = some res → bz_J K 14 210 [] [] M) (kr : ∀ b : Int, some (.inl b) = some res → some (bz_l b) = rv ∧ M = M1) :
    ∀ (n : Nat) (l8 : Int) (l6 : Int) (l4 : Int), UD_taxOf_42_L20 F n M l2 l8 l6 l4 = some res → bz_J K 14 20 [(8, bz_i l8), (6, bz_l l6), (4, bz_l l4), (0, bz_rf E 33), (1, bz_rf E 45), (2, bz_i l2), (3, bz_rf E 42)] [] M := by
  intro n
  induction n with
  | zero => intro l8 l6 l4 hf; cases hf
  | succ n ih =>
    intro l8 l6 l4 hf
    rw [UD_taxOf_42_L20] at hf
    refine j_iload X dUD_taxOf_20 0 rfl ?_
    refine j_aload_n X dUD_taxOf_22 rfl 3 rfl ?_
    refine j_geta X gf_UD_16_33 dUD_taxOf_23 ?_
    refine j_geti X gf_UD_60_34 dUD_taxOf_26 ?_
    refine j_icmp_ge X (tgt := 210) rfl rfl dUD_taxOf_29 (by decide) hf (fun hf => ?_) (fun hf => ?_)
    · exact j_sub [] rfl (kx _ hf)
    · refine j_aload_n X dUD_taxOf_32 rfl 3 rfl ?_
      refine j_geta X gf_UD_16_33 dUD_taxOf_33 ?_
      refine j_geta X gf_UD_64_34 dUD_taxOf_36 ?_
      refine j_iload X dUD_taxOf_39 0 rfl ?_
      refine j_iald X sh_36 dUD_taxOf_41 hf (fun x2 hf => ?_)
      refine j_istore X (lv' := [(9, bz_i x2), (8, bz_i l8), (6, bz_l l6), (4, bz_l l4), (0, bz_rf E 33), (1, bz_rf E 45), (2, bz_i l2), (3, bz_rf E 42)]) dUD_taxOf_42 (by decide) rfl ?_
      refine j_aload_n X dUD_taxOf_44 rfl 4 rfl ?_
      show bz_J _ _ 45 _ _ _
      refine j_geta X gf_UD_20_33 dUD_taxOf_45 ?_
      refine j_iload X dUD_taxOf_48 0 rfl ?_
      refine j_iald X sh_37 dUD_taxOf_50 hf (fun x3 hf => ?_)
      refine j_aload_n X dUD_taxOf_51 rfl 4 rfl ?_
      refine j_geta X gf_UD_20_33 dUD_taxOf_52 ?_
      refine j_iload_n X dUD_taxOf_55 rfl 6 rfl ?_
      refine j_iald X sh_37 dUD_taxOf_56 hf (fun x4 hf => ?_)
      refine j_icmp_ne X (tgt := 204) rfl rfl dUD_taxOf_57 (by decide) hf (fun hf => ?_) (fun hf => ?_)
      · refine j_iinc X (y := l8 + 1) (lv' := [(8, bz_i (l8 + 1)), (9, bz_i x2), (6, bz_l l6), (4, bz_l l4), (0, bz_rf E 33), (1, bz_rf E 45), (2, bz_i l2), (3, bz_rf E 42)]) dUD_taxOf_204 1 rfl rfl (by decide) rfl ?_
        refine j_goto X (tgt := 20) dUD_taxOf_207 (by decide) ?_
        exact j_sub [0, 2, 3, 4, 5, 6, 7] rfl (ih _ _ _ hf)
      · refine j_aload_n X dUD_taxOf_60 rfl 4 rfl ?_
        refine j_geta X gf_UD_24_33 dUD_taxOf_61 ?_
        refine j_iload X dUD_taxOf_64 0 rfl ?_
        refine j_iald X sh_38 dUD_taxOf_66 hf (fun x5 hf => ?_)
        refine j_aload_n X dUD_taxOf_67 rfl 4 rfl ?_
        refine j_geta X gf_UD_24_33 dUD_taxOf_68 ?_
        refine j_iload_n X dUD_taxOf_71 rfl 6 rfl ?_
        show bz_J _ _ 72 _ _ _
        refine j_iald X sh_38 dUD_taxOf_72 hf (fun x6 hf => ?_)
        refine j_icmp_eq X (tgt := 79) rfl rfl dUD_taxOf_73 (by decide) hf (fun hf => ?_) (fun hf => ?_)
        · refine j_aload_n X dUD_taxOf_79 rfl 4 rfl ?_
          refine j_geta X gf_UD_30_33 dUD_taxOf_80 ?_
          refine j_iload X dUD_taxOf_83 0 rfl ?_
          refine j_iald X sh_40 dUD_taxOf_85 hf (fun x7 hf => ?_)
          obtain ⟨resJ8, hf0, hkJ8⟩ := q_l1 hf
          have J8 : ∀ (l4 : Int), some l4 = some resJ8 → bz_J K 14 98 [(9, bz_i x2), (8, bz_i l8), (6, bz_l l6), (4, bz_l l4), (0, bz_rf E 33), (1, bz_rf E 45), (2, bz_i l2), (3, bz_rf E 42)] [] M := by
            intro l4 he
            have hf := hkJ8 _ he
            refine j_aload_n X dUD_taxOf_98 rfl 4 rfl ?_
            refine j_geta X gf_UD_30_33 dUD_taxOf_99 ?_
            refine j_iload X dUD_taxOf_102 0 rfl ?_
            refine j_iald X sh_40 dUD_taxOf_104 hf (fun x10 hf => ?_)
            obtain ⟨resJ11, hf0, hkJ11⟩ := q_l1 hf
            have J11 : ∀ (v12 : Int), some v12 = some resJ11 → bz_J K 14 134 [(9, bz_i x2), (8, bz_i l8), (6, bz_l l6), (4, bz_l l4), (0, bz_rf E 33), (1, bz_rf E 45), (2, bz_i l2), (3, bz_rf E 42)] [bz_l v12] M := by
              intro v12 he
              have hf := hkJ11 _ he
              refine j_lstore X (lv' := [(10, bz_l v12), (9, bz_i x2), (8, bz_i l8), (6, bz_l l6), (4, bz_l l4), (0, bz_rf E 33), (1, bz_rf E 45), (2, bz_i l2), (3, bz_rf E 42)]) dUD_taxOf_134 (by decide) rfl ?_
              refine j_iload X dUD_taxOf_136 1 rfl ?_
              refine j_iload_n X dUD_taxOf_138 rfl 7 rfl ?_
              refine j_icmp_ne X (tgt := 184) rfl rfl dUD_taxOf_139 (by decide) hf (fun hf => ?_) (fun hf => ?_)
              · refine j_lload X dUD_taxOf_184 4 rfl ?_
                refine j_lload X dUD_taxOf_186 0 rfl ?_
                refine j_lsub X dUD_taxOf_188 ?_
                refine j_lt (g := bz_l) hf (fun l4 hf => ?_)
                refine j_lstore X (lv' := [(4, bz_l l4), (10, bz_l v12), (9, bz_i x2), (8, bz_i l8), (6, bz_l l6), (0, bz_rf E 33), (1, bz_rf E 45), (2, bz_i l2), (3, bz_rf E 42)]) dUD_taxOf_189 (by decide) rfl ?_
                refine j_lload X dUD_taxOf_191 4 rfl ?_
                refine j_aload_n X dUD_taxOf_193 rfl 5 rfl ?_
                refine j_geta X gf_UD_30_33 dUD_taxOf_194 ?_
                show bz_J _ _ 197 _ _ _
                refine j_iload X dUD_taxOf_197 2 rfl ?_
                refine j_iald X sh_40 dUD_taxOf_199 hf (fun x15 hf => ?_)
                refine j_i2l X rfl dUD_taxOf_200 ?_
                refine j_ladd X dUD_taxOf_201 ?_
                refine j_lt (g := bz_l) hf (fun l6 hf => ?_)
                refine j_lstore X (lv' := [(6, bz_l l6), (4, bz_l l4), (10, bz_l v12), (9, bz_i x2), (8, bz_i l8), (0, bz_rf E 33), (1, bz_rf E 45), (2, bz_i l2), (3, bz_rf E 42)]) dUD_taxOf_202 (by decide) rfl ?_
                refine j_iinc X (y := l8 + 1) (lv' := [(8, bz_i (l8 + 1)), (6, bz_l l6), (4, bz_l l4), (10, bz_l v12), (9, bz_i x2), (0, bz_rf E 33), (1, bz_rf E 45), (2, bz_i l2), (3, bz_rf E 42)]) dUD_taxOf_204 4 rfl rfl (by decide) rfl ?_
                refine j_goto X (tgt := 20) dUD_taxOf_207 (by decide) ?_
                exact j_sub [0, 1, 2, 5, 6, 7, 8] rfl (ih _ _ _ hf)
              · refine j_lconst X (v := 0) dUD_taxOf_142 rfl ?_
                refine j_aload_n X dUD_taxOf_143 rfl 8 rfl ?_
                refine j_iload_n X dUD_taxOf_144 rfl 7 rfl ?_
                refine j_lald X sh_42 dUD_taxOf_145 hf (fun x16 hf => ?_)
                refine j_lload X dUD_taxOf_146 0 rfl ?_
                refine j_lsub X dUD_taxOf_148 ?_
                refine j_cs X (st := []) (cJM_max1 E) gyJM_max1 wd_837 rfl (by decide) (by decide) wd_1014 rfl (Nat.le_of_ble_eq_true rfl) dUD_taxOf_149 ?_
                show bz_J _ _ 152 _ _ _
                refine j_lt (g := bz_l) hf (fun l12 hf => ?_)
                refine j_lstore X (lv' := [(12, bz_l l12), (10, bz_l v12), (9, bz_i x2), (8, bz_i l8), (6, bz_l l6), (4, bz_l l4), (0, bz_rf E 33), (1, bz_rf E 45), (2, bz_i l2), (3, bz_rf E 42)]) dUD_taxOf_152 (by decide) rfl ?_
                refine j_lload X dUD_taxOf_154 0 rfl ?_
                refine j_aload_n X dUD_taxOf_156 rfl 7 rfl ?_
                refine j_aload_n X dUD_taxOf_157 rfl 6 rfl ?_
                refine j_geta X gf_UD_24_33 dUD_taxOf_158 ?_
                refine j_iload_n X dUD_taxOf_161 rfl 8 rfl ?_
                refine j_iald X sh_38 dUD_taxOf_162 hf (fun x17 hf => ?_)
                refine j_aload_n X dUD_taxOf_163 rfl 6 rfl ?_
                show bz_J _ _ 164 _ _ _
                refine j_geta X gf_UD_16_33 dUD_taxOf_164 ?_
                refine j_geta X gf_UD_70_34 dUD_taxOf_167 ?_
                refine j_iload_n X dUD_taxOf_170 rfl 8 rfl ?_
                refine j_iald X sh_35 dUD_taxOf_171 hf (fun x18 hf => ?_)
                refine j_bipush X dUD_taxOf_172 rfl ?_
                obtain ⟨x19, hzx19, hf⟩ := q_cl hf
                refine j_cv X (st := [bz_l l12]) (cUL_value E F hzx19) gyUL_value gv_UL_value_45 rfl (by decide) (by decide) wd_1015 rfl (Nat.le_of_ble_eq_true rfl) dUD_taxOf_174 ?_
                refine j_i2l X rfl dUD_taxOf_177 ?_
                refine j_lmul X dUD_taxOf_178 ?_
                show bz_J _ _ 179 _ _ _
                refine j_ldc2 X (v := 100) wd_882 dUD_taxOf_179 ?_
                refine j_ldl X (w64_lit rfl) (by decide) dUD_taxOf_182 ?_
                exact j_lret X dUD_taxOf_183 (kr _ hf).1 (kr _ hf).2
            clear hf
            have hf := hf0
            clear hf0
            refine j_if_ge X (tgt := 133) rfl dUD_taxOf_105 (by decide) hf (fun hf => ?_) (fun hf => ?_)
            · refine j_lconst X (v := 0) dUD_taxOf_133 rfl ?_
              exact J11 _ hf
            · refine j_lload X dUD_taxOf_108 2 rfl ?_
              refine j_lconst X (v := 0) dUD_taxOf_110 rfl ?_
              refine j_lcmp_le X (tgt := 133) rfl (w64_lit rfl) dUD_taxOf_111 dUD_taxOf_112 (by decide) hf (fun hf => ?_) (fun hf => ?_)
              · refine j_lconst X (v := 0) dUD_taxOf_133 rfl ?_
                exact J11 _ hf
              · refine j_lload X dUD_taxOf_115 3 rfl ?_
                refine j_aload_n X dUD_taxOf_117 rfl 4 rfl ?_
                refine j_geta X gf_UD_30_33 dUD_taxOf_118 ?_
                refine j_iload X dUD_taxOf_121 0 rfl ?_
                refine j_iald X sh_40 dUD_taxOf_123 hf (fun x13 hf => ?_)
                refine j_ineg X dUD_taxOf_124 ?_
                refine j_i2l X rfl dUD_taxOf_125 ?_
                show bz_J _ _ 126 _ _ _
                refine j_lmul X dUD_taxOf_126 ?_
                refine j_lload X dUD_taxOf_127 2 rfl ?_
                refine j_ldiv X dUD_taxOf_129 hf (fun x14 hf => ?_)
                refine j_goto X (tgt := 134) dUD_taxOf_130 (by decide) ?_
                exact J11 _ hf
          clear hf
          have hf := hf0
          clear hf0
          refine j_if_le X (tgt := 98) rfl dUD_taxOf_86 (by decide) hf (fun hf => ?_) (fun hf => ?_)
          · exact J8 _ hf
          · refine j_lload X dUD_taxOf_89 3 rfl ?_
            refine j_aload_n X dUD_taxOf_91 rfl 7 rfl ?_
            refine j_iload X dUD_taxOf_92 0 rfl ?_
            refine j_lald X sh_42 dUD_taxOf_94 hf (fun x9 hf => ?_)
            refine j_ladd X dUD_taxOf_95 ?_
            refine j_lt (g := bz_l) hf (fun l4 hf => ?_)
            refine j_lstore X (lv' := [(4, bz_l l4), (9, bz_i x2), (8, bz_i l8), (6, bz_l l6), (0, bz_rf E 33), (1, bz_rf E 45), (2, bz_i l2), (3, bz_rf E 42)]) dUD_taxOf_96 (by decide) rfl ?_
            exact j_sub [1, 2, 3, 0, 4, 5, 6, 7] rfl (J8 _ hf)
        · refine j_goto X (tgt := 204) dUD_taxOf_76 (by decide) ?_
          refine j_iinc X (y := l8 + 1) (lv' := [(8, bz_i (l8 + 1)), (9, bz_i x2), (6, bz_l l6), (4, bz_l l4), (0, bz_rf E 33), (1, bz_rf E 45), (2, bz_i l2), (3, bz_rf E 42)]) dUD_taxOf_204 1 rfl rfl (by decide) rfl ?_
          refine j_goto X (tgt := 20) dUD_taxOf_207 (by decide) ?_
          exact j_sub [0, 2, 3, 4, 5, 6, 7] rfl (ih _ _ _ hf)
def fUD_taxOf_42 (F : Nat) (M : bz_Mm) (a2 : Int) : Option (Int) :=
  rd_ M 40 a2 200 fun x1 =>
  if w32 x1 < 0 then
  (cs1_ (UD_taxOf_42_L20 F F M a2 0 0 0) (fun b => some b) fun _u =>
  some 0)
  else
  (some 0)
set_option maxHeartbeats 4000000 in
set_option maxRecDepth 20000 in
theorem cUD_taxOf_42 (E : bz_E) (F : Nat)  {M : bz_Mm} {a2 : Int} {x0 : Int} (hf : fUD_taxOf_42 F M a2 = some x0) : bz_Ct E yUD_taxOf (.code yUD_taxOf prog_6_method_5_code 14 (some .long)) 1 24 [bz_rf E 33, bz_rf E 45, bz_i a2, bz_rf E 42] M (some (bz_l x0)) M := by
  refine bz_met (by decide +kernel) (Nat.le_of_ble_eq_true rfl) (fun K X => ?_)
  have X : bz_X K E prog_6_method_5_code 14 "UnitsWrong$Deals" (some .long) 1 24 _ _ := X
  unfold fUD_taxOf_42 at hf
  show bz_J K 14 0 [(0, bz_rf E 33), (1, bz_rf E 45), (2, bz_i a2), (3, bz_rf E 42)] [] M
  refine j_aload_n X dUD_taxOf_0 rfl 0 rfl ?_
  refine j_geta X gf_UD_30_33 dUD_taxOf_1 ?_
  refine j_iload_n X dUD_taxOf_4 rfl 2 rfl ?_
  refine j_iald X sh_40 dUD_taxOf_5 hf (fun x1 hf => ?_)
  refine j_if_lt X (tgt := 11) rfl dUD_taxOf_6 (by decide) hf (fun hf => ?_) (fun hf => ?_)
  · refine j_lconst X (v := 0) dUD_taxOf_11 rfl ?_
    refine j_lstore X (lv' := [(4, bz_l 0), (0, bz_rf E 33), (1, bz_rf E 45), (2, bz_i a2), (3, bz_rf E 42)]) dUD_taxOf_12 (by decide) rfl ?_
    refine j_lconst X (v := 0) dUD_taxOf_14 rfl ?_
    refine j_lstore X (lv' := [(6, bz_l 0), (4, bz_l 0), (0, bz_rf E 33), (1, bz_rf E 45), (2, bz_i a2), (3, bz_rf E 42)]) dUD_taxOf_15 (by decide) rfl ?_
    refine j_iconst X dUD_taxOf_17 ?_
    refine j_istore X (lv' := [(8, bz_i 0), (6, bz_l 0), (4, bz_l 0), (0, bz_rf E 33), (1, bz_rf E 45), (2, bz_i a2), (3, bz_rf E 42)]) dUD_taxOf_18 (by decide) rfl ?_
    obtain ⟨res20, hz20, hk20, hr20⟩ := q_s1 hf
    clear hf
    refine lUD_taxOf_42_L20 E F X (fun _u he => ?_) (fun b he => ?_) F 0 0 0 hz20
    · have hf := hk20 _ he
      refine j_lconst X (v := 0) dUD_taxOf_210 rfl ?_
      cases hf
      exact j_lret X dUD_taxOf_211 rfl rfl
    · have hf := hr20 _ he
      cases hf
      exact ⟨rfl, rfl⟩
  · refine j_lconst X (v := 0) dUD_taxOf_9 rfl ?_
    cases hf
    exact j_lret X dUD_taxOf_10 rfl rfl
def fU_dealt (F : Nat) (M : bz_Mm) (a1 : Int) (a2 : Int) : Option (Int × bz_Mm) :=
  if w32 a1 < 0 then
  (some (((-2147483648), M)))
  else
  (if w32 a1 < w32 (M 34 2) then
  (if w32 a2 = 0 then
  (rd_ M 37 a1 200 fun x1 =>
  some ((x1, M)))
  else if w32 a2 = 1 then
  (rd_ M 38 a1 200 fun x2 =>
  some ((x2, M)))
  else if w32 a2 = 2 then
  (rd_ M 35 a1 200 fun x3 =>
  some ((x3, M)))
  else if w32 a2 = 3 then
  (rd_ M 40 a1 200 fun x4 =>
  some ((x4, M)))
  else if w32 a2 = 4 then
  (rd_ M 41 a1 200 fun x5 =>
  some ((fU_told x5, M)))
  else if w32 a2 = 5 then
  (cl_ (fUC_walkTo F M (fUS_latestKnown M)) fun m6 =>
  rd_ m6 42 a1 200 fun x7 =>
  some ((fU_told x7, m6)))
  else if w32 a2 = 6 then
  (cl_ (fUD_taxOf_41 F M a1) fun x8 =>
  some ((fU_told x8, M)))
  else if w32 a2 = 7 then
  (cl_ (fUC_walkTo F M (fUS_latestKnown M)) fun m9 =>
  cl_ (fUD_taxOf_42 F m9 a1) fun x10 =>
  some ((fU_told x10, m9)))
  else (some (((-2147483648), M))))
  else
  (some (((-2147483648), M))))
set_option maxHeartbeats 4000000 in
set_option maxRecDepth 20000 in
theorem cU_dealt (E : bz_E) (F : Nat)  {M : bz_Mm} {a1 : Int} {a2 : Int} {x0 : Int × bz_Mm} (hf : fU_dealt F M a1 a2 = some x0) : bz_Ct E yU_dealt (.code yU_dealt prog_1_method_27_code 4 (some .int)) 6 145 [bz_rf E 0, bz_i a1, bz_i a2] M (some (bz_i x0.1)) x0.2 := by
  refine bz_met (by decide +kernel) (Nat.le_of_ble_eq_true rfl) (fun K X => ?_)
  have X : bz_X K E prog_1_method_27_code 4 "UnitsWrong" (some .int) 6 145 _ _ := X
  unfold fU_dealt at hf
  show bz_J K 4 0 [(0, bz_rf E 0), (1, bz_i a1), (2, bz_i a2)] [] M
  refine j_aload_n X dU_dealt_0 rfl 0 rfl ?_
  refine j_geta X gf_U_10_0 dU_dealt_1 ?_
  refine j_geta X gf_U_155_1 dU_dealt_4 ?_
  refine j_astore_n X (lv' := [(3, bz_rf E 33), (0, bz_rf E 0), (1, bz_i a1), (2, bz_i a2)]) dU_dealt_7 rfl (by decide) rfl ?_
  refine j_iload_n X dU_dealt_8 rfl 2 rfl ?_
  refine j_if_lt X (tgt := 23) rfl dU_dealt_9 (by decide) hf (fun hf => ?_) (fun hf => ?_)
  · refine j_ldc X (v := -2147483648) wd_571 dU_dealt_23 ?_
    cases hf
    exact j_iret X dU_dealt_25 rfl rfl
  · refine j_iload_n X dU_dealt_12 rfl 2 rfl ?_
    refine j_aload_n X dU_dealt_13 rfl 0 rfl ?_
    refine j_geta X gf_U_267_33 dU_dealt_14 ?_
    refine j_geti X gf_U_105_34 dU_dealt_17 ?_
    refine j_icmp_lt X (tgt := 26) rfl rfl dU_dealt_20 (by decide) hf (fun hf => ?_) (fun hf => ?_)
    · refine j_iload_n X dU_dealt_26 rfl 3 rfl ?_
      rcases q_ite hf with ⟨hc0, hf⟩ | ⟨hc0, hf⟩
      · refine j_tabIn X (tgt := 72) (v := 0) hc0 dU_dealt_27 (by decide) (by decide) rfl (by decide) ?_
        refine j_aload_n X dU_dealt_72 rfl 0 rfl ?_
        refine j_geta X gf_U_268_33 dU_dealt_73 ?_
        refine j_iload_n X dU_dealt_76 rfl 2 rfl ?_
        refine j_iald X sh_37 dU_dealt_77 hf (fun x1 hf => ?_)
        cases hf
        exact j_iret X dU_dealt_78 rfl rfl
      rcases q_ite hf with ⟨hc1, hf⟩ | ⟨hc1, hf⟩
      · refine j_tabIn X (tgt := 79) (v := 1) hc1 dU_dealt_27 (by decide) (by decide) rfl (by decide) ?_
        refine j_aload_n X dU_dealt_79 rfl 0 rfl ?_
        refine j_geta X gf_U_271_33 dU_dealt_80 ?_
        refine j_iload_n X dU_dealt_83 rfl 2 rfl ?_
        refine j_iald X sh_38 dU_dealt_84 hf (fun x2 hf => ?_)
        cases hf
        exact j_iret X dU_dealt_85 rfl rfl
      rcases q_ite hf with ⟨hc2, hf⟩ | ⟨hc2, hf⟩
      · refine j_tabIn X (tgt := 86) (v := 2) hc2 dU_dealt_27 (by decide) (by decide) rfl (by decide) ?_
        refine j_aload_n X dU_dealt_86 rfl 0 rfl ?_
        refine j_geta X gf_U_267_33 dU_dealt_87 ?_
        refine j_geta X gf_U_125_34 dU_dealt_90 ?_
        refine j_iload_n X dU_dealt_93 rfl 2 rfl ?_
        refine j_iald X sh_35 dU_dealt_94 hf (fun x3 hf => ?_)
        cases hf
        exact j_iret X dU_dealt_95 rfl rfl
      rcases q_ite hf with ⟨hc3, hf⟩ | ⟨hc3, hf⟩
      · refine j_tabIn X (tgt := 96) (v := 3) hc3 dU_dealt_27 (by decide) (by decide) rfl (by decide) ?_
        refine j_aload_n X dU_dealt_96 rfl 0 rfl ?_
        refine j_geta X gf_U_274_33 dU_dealt_97 ?_
        refine j_iload_n X dU_dealt_100 rfl 2 rfl ?_
        refine j_iald X sh_40 dU_dealt_101 hf (fun x4 hf => ?_)
        cases hf
        exact j_iret X dU_dealt_102 rfl rfl
      rcases q_ite hf with ⟨hc4, hf⟩ | ⟨hc4, hf⟩
      · refine j_tabIn X (tgt := 103) (v := 4) hc4 dU_dealt_27 (by decide) (by decide) rfl (by decide) ?_
        refine j_aload_n X dU_dealt_103 rfl 0 rfl ?_
        refine j_geta X gf_U_277_33 dU_dealt_104 ?_
        refine j_iload_n X dU_dealt_107 rfl 2 rfl ?_
        refine j_lald X sh_41 dU_dealt_108 hf (fun x5 hf => ?_)
        refine j_cs X (st := []) (cU_told E) gyU_told wd_921 rfl (by decide) (by decide) wd_920 rfl (Nat.le_of_ble_eq_true rfl) dU_dealt_109 ?_
        cases hf
        exact j_iret X dU_dealt_112 rfl rfl
      rcases q_ite hf with ⟨hc5, hf⟩ | ⟨hc5, hf⟩
      · refine j_tabIn X (tgt := 113) (v := 5) hc5 dU_dealt_27 (by decide) (by decide) rfl (by decide) ?_
        refine j_aload_n X dU_dealt_113 rfl 1 rfl ?_
        refine j_geta X gf_U_26_0 dU_dealt_114 ?_
        refine j_aload_n X dU_dealt_117 rfl 1 rfl ?_
        refine j_geta X gf_U_10_0 dU_dealt_118 ?_
        refine j_aload_n X dU_dealt_121 rfl 1 rfl ?_
        refine j_geta X gf_U_10_0 dU_dealt_122 ?_
        refine j_cv X (st := [bz_rf E 1, bz_rf E 53]) (cUS_latestKnown E) gyUS_latestKnown gv_US_latestKnown_1 rfl (by decide) (by decide) wd_911 rfl (Nat.le_of_ble_eq_true rfl) dU_dealt_125 ?_
        show bz_J _ _ 128 _ _ _
        obtain ⟨m6, hz, hf⟩ := q_cl hf
        refine j_cv X (st := []) (cUC_walkTo E F hz) gyUC_walkTo gv_UC_walkTo_53 rfl (by decide) (by decide) wd_915 rfl (Nat.le_of_ble_eq_true rfl) dU_dealt_128 ?_
        clear hz
        refine j_aload_n X dU_dealt_131 rfl 0 rfl ?_
        refine j_geta X gf_U_280_33 dU_dealt_132 ?_
        refine j_iload_n X dU_dealt_135 rfl 2 rfl ?_
        refine j_lald X sh_42 dU_dealt_136 hf (fun x7 hf => ?_)
        refine j_cs X (st := []) (cU_told E) gyU_told wd_921 rfl (by decide) (by decide) wd_920 rfl (Nat.le_of_ble_eq_true rfl) dU_dealt_137 ?_
        cases hf
        exact j_iret X dU_dealt_140 rfl rfl
      rcases q_ite hf with ⟨hc6, hf⟩ | ⟨hc6, hf⟩
      · refine j_tabIn X (tgt := 141) (v := 6) hc6 dU_dealt_27 (by decide) (by decide) rfl (by decide) ?_
        refine j_aload_n X dU_dealt_141 rfl 0 rfl ?_
        refine j_aload_n X dU_dealt_142 rfl 1 rfl ?_
        refine j_geta X gf_U_10_0 dU_dealt_143 ?_
        refine j_geta X gf_U_173_1 dU_dealt_146 ?_
        refine j_iload_n X dU_dealt_149 rfl 2 rfl ?_
        refine j_aload_n X dU_dealt_150 rfl 0 rfl ?_
        refine j_geta X gf_U_277_33 dU_dealt_151 ?_
        show bz_J _ _ 154 _ _ _
        obtain ⟨x8, hzx8, hf⟩ := q_cl hf
        refine j_cv X (st := []) (cUD_taxOf_41 E F hzx8) gyUD_taxOf gv_UD_taxOf_33 rfl (by decide) (by decide) wd_1010 rfl (Nat.le_of_ble_eq_true rfl) dU_dealt_154 ?_
        refine j_cs X (st := []) (cU_told E) gyU_told wd_921 rfl (by decide) (by decide) wd_920 rfl (Nat.le_of_ble_eq_true rfl) dU_dealt_157 ?_
        cases hf
        exact j_iret X dU_dealt_160 rfl rfl
      rcases q_ite hf with ⟨hc7, hf⟩ | ⟨hc7, hf⟩
      · refine j_tabIn X (tgt := 161) (v := 7) hc7 dU_dealt_27 (by decide) (by decide) rfl (by decide) ?_
        refine j_aload_n X dU_dealt_161 rfl 1 rfl ?_
        refine j_geta X gf_U_26_0 dU_dealt_162 ?_
        refine j_aload_n X dU_dealt_165 rfl 1 rfl ?_
        refine j_geta X gf_U_10_0 dU_dealt_166 ?_
        refine j_aload_n X dU_dealt_169 rfl 1 rfl ?_
        refine j_geta X gf_U_10_0 dU_dealt_170 ?_
        refine j_cv X (st := [bz_rf E 1, bz_rf E 53]) (cUS_latestKnown E) gyUS_latestKnown gv_US_latestKnown_1 rfl (by decide) (by decide) wd_911 rfl (Nat.le_of_ble_eq_true rfl) dU_dealt_173 ?_
        show bz_J _ _ 176 _ _ _
        obtain ⟨m9, hz, hf⟩ := q_cl hf
        refine j_cv X (st := []) (cUC_walkTo E F hz) gyUC_walkTo gv_UC_walkTo_53 rfl (by decide) (by decide) wd_915 rfl (Nat.le_of_ble_eq_true rfl) dU_dealt_176 ?_
        clear hz
        refine j_aload_n X dU_dealt_179 rfl 0 rfl ?_
        refine j_aload_n X dU_dealt_180 rfl 1 rfl ?_
        refine j_geta X gf_U_10_0 dU_dealt_181 ?_
        refine j_geta X gf_U_173_1 dU_dealt_184 ?_
        refine j_iload_n X dU_dealt_187 rfl 2 rfl ?_
        refine j_aload_n X dU_dealt_188 rfl 0 rfl ?_
        refine j_geta X gf_U_280_33 dU_dealt_189 ?_
        show bz_J _ _ 192 _ _ _
        obtain ⟨x10, hzx10, hf⟩ := q_cl hf
        refine j_cv X (st := []) (cUD_taxOf_42 E F hzx10) gyUD_taxOf gv_UD_taxOf_33 rfl (by decide) (by decide) wd_1010 rfl (Nat.le_of_ble_eq_true rfl) dU_dealt_192 ?_
        refine j_cs X (st := []) (cU_told E) gyU_told wd_921 rfl (by decide) (by decide) wd_920 rfl (Nat.le_of_ble_eq_true rfl) dU_dealt_195 ?_
        cases hf
        exact j_iret X dU_dealt_198 rfl rfl
      refine j_tabOut X (tgt := 199) (by omega) dU_dealt_27 (by decide) ?_
      refine j_ldc X (v := -2147483648) wd_571 dU_dealt_199 ?_
      cases hf
      exact j_iret X dU_dealt_201 rfl rfl
    · refine j_ldc X (v := -2147483648) wd_571 dU_dealt_23 ?_
      cases hf
      exact j_iret X dU_dealt_25 rfl rfl
def fU_gone (F : Nat) (M : bz_Mm) (a1 : Int) : Option (Int × bz_Mm) :=
  if w32 (fUS_isHolder M a1) = 0 then
  (some ((0, M)))
  else
  (rd_ M 5 a1 16 fun x1 =>
  if w32 x1 = (-1) then
  (wa_ M 5 a1 16 (M 1 13) fun m2 =>
  some ((1, m2)))
  else
  (some ((0, M))))
set_option maxHeartbeats 4000000 in
set_option maxRecDepth 20000 in
theorem cU_gone (E : bz_E) (F : Nat)  {M : bz_Mm} {a1 : Int} {x0 : Int × bz_Mm} (hf : fU_gone F M a1 = some x0) : bz_Ct E yU_gone (.code yU_gone prog_1_method_28_code 2 (some .boolean)) 1 21 [bz_rf E 0, bz_i a1] M (some (bz_i x0.1)) x0.2 := by
  refine bz_met (by decide +kernel) (Nat.le_of_ble_eq_true rfl) (fun K X => ?_)
  have X : bz_X K E prog_1_method_28_code 2 "UnitsWrong" (some .boolean) 1 21 _ _ := X
  unfold fU_gone at hf
  show bz_J K 2 0 [(0, bz_rf E 0), (1, bz_i a1)] [] M
  refine j_aload_n X dU_gone_0 rfl 0 rfl ?_
  refine j_geta X gf_U_10_0 dU_gone_1 ?_
  refine j_iload_n X dU_gone_4 rfl 1 rfl ?_
  refine j_cv X (st := []) (cUS_isHolder E) gyUS_isHolder gv_US_isHolder_1 rfl (by decide) (by decide) wd_1020 rfl (Nat.le_of_ble_eq_true rfl) dU_gone_5 ?_
  refine j_if_eq X (tgt := 24) rfl dU_gone_8 (by decide) hf (fun hf => ?_) (fun hf => ?_)
  · refine j_iconst X dU_gone_24 ?_
    cases hf
    exact j_zret X (by decide +kernel) dU_gone_25 rfl rfl
  · refine j_aload_n X dU_gone_11 rfl 0 rfl ?_
    refine j_geta X gf_U_10_0 dU_gone_12 ?_
    refine j_geta X gf_U_290_1 dU_gone_15 ?_
    refine j_iload_n X dU_gone_18 rfl 1 rfl ?_
    refine j_iald X sh_5 dU_gone_19 hf (fun x1 hf => ?_)
    refine j_iconst X dU_gone_20 ?_
    refine j_icmp_eq X (tgt := 26) rfl (w32_lit rfl) dU_gone_21 (by decide) hf (fun hf => ?_) (fun hf => ?_)
    · refine j_aload_n X dU_gone_26 rfl 0 rfl ?_
      refine j_geta X gf_U_10_0 dU_gone_27 ?_
      refine j_geta X gf_U_290_1 dU_gone_30 ?_
      refine j_iload_n X dU_gone_33 rfl 1 rfl ?_
      refine j_aload_n X dU_gone_34 rfl 0 rfl ?_
      refine j_geta X gf_U_10_0 dU_gone_35 ?_
      refine j_geti X gf_U_51_1 dU_gone_38 ?_
      show bz_J _ _ 41 _ _ _
      refine j_iast X sh_5 dU_gone_41 hf (fun m2 hf => ?_)
      refine j_iconst X dU_gone_42 ?_
      cases hf
      exact j_zret X (by decide +kernel) dU_gone_43 rfl rfl
    · refine j_iconst X dU_gone_24 ?_
      cases hf
      exact j_zret X (by decide +kernel) dU_gone_25 rfl rfl
def fU_found (F : Nat) (M : bz_Mm) (a1 : Int) : Option (Int × bz_Mm) :=
  if w32 (fUS_isFund M a1) = 0 then
  (some ((0, M)))
  else
  (rd_ M 3 a1 4 fun x1 =>
  if w32 x1 = (-1) then
  (if w32 (M 1 13) < 260 then
  (wa_ M 3 a1 4 (M 1 13) fun m2 =>
  some ((1, m2)))
  else
  (some ((0, M))))
  else
  (some ((0, M))))
set_option maxHeartbeats 4000000 in
set_option maxRecDepth 20000 in
theorem cU_found (E : bz_E) (F : Nat)  {M : bz_Mm} {a1 : Int} {x0 : Int × bz_Mm} (hf : fU_found F M a1 = some x0) : bz_Ct E yU_found (.code yU_found prog_1_method_29_code 2 (some .boolean)) 1 21 [bz_rf E 0, bz_i a1] M (some (bz_i x0.1)) x0.2 := by
  refine bz_met (by decide +kernel) (Nat.le_of_ble_eq_true rfl) (fun K X => ?_)
  have X : bz_X K E prog_1_method_29_code 2 "UnitsWrong" (some .boolean) 1 21 _ _ := X
  unfold fU_found at hf
  show bz_J K 2 0 [(0, bz_rf E 0), (1, bz_i a1)] [] M
  refine j_aload_n X dU_found_0 rfl 0 rfl ?_
  refine j_geta X gf_U_10_0 dU_found_1 ?_
  refine j_iload_n X dU_found_4 rfl 1 rfl ?_
  refine j_cv X (st := []) (cUS_isFund E) gyUS_isFund gv_US_isFund_1 rfl (by decide) (by decide) wd_584 rfl (Nat.le_of_ble_eq_true rfl) dU_found_5 ?_
  refine j_if_eq X (tgt := 37) rfl dU_found_8 (by decide) hf (fun hf => ?_) (fun hf => ?_)
  · refine j_iconst X dU_found_37 ?_
    cases hf
    exact j_zret X (by decide +kernel) dU_found_38 rfl rfl
  · refine j_aload_n X dU_found_11 rfl 0 rfl ?_
    refine j_geta X gf_U_10_0 dU_found_12 ?_
    refine j_geta X gf_U_293_1 dU_found_15 ?_
    refine j_iload_n X dU_found_18 rfl 1 rfl ?_
    refine j_iald X sh_3 dU_found_19 hf (fun x1 hf => ?_)
    refine j_iconst X dU_found_20 ?_
    refine j_icmp_ne X (tgt := 37) rfl (w32_lit rfl) dU_found_21 (by decide) hf (fun hf => ?_) (fun hf => ?_)
    · refine j_iconst X dU_found_37 ?_
      cases hf
      exact j_zret X (by decide +kernel) dU_found_38 rfl rfl
    · refine j_aload_n X dU_found_24 rfl 0 rfl ?_
      refine j_geta X gf_U_10_0 dU_found_25 ?_
      refine j_geti X gf_U_51_1 dU_found_28 ?_
      refine j_sipush X dU_found_31 rfl ?_
      refine j_icmp_lt X (tgt := 39) rfl (w32_lit rfl) dU_found_34 (by decide) hf (fun hf => ?_) (fun hf => ?_)
      · refine j_aload_n X dU_found_39 rfl 0 rfl ?_
        refine j_geta X gf_U_10_0 dU_found_40 ?_
        refine j_geta X gf_U_293_1 dU_found_43 ?_
        refine j_iload_n X dU_found_46 rfl 1 rfl ?_
        refine j_aload_n X dU_found_47 rfl 0 rfl ?_
        refine j_geta X gf_U_10_0 dU_found_48 ?_
        refine j_geti X gf_U_51_1 dU_found_51 ?_
        show bz_J _ _ 54 _ _ _
        refine j_iast X sh_3 dU_found_54 hf (fun m2 hf => ?_)
        refine j_iconst X dU_found_55 ?_
        cases hf
        exact j_zret X (by decide +kernel) dU_found_56 rfl rfl
      · refine j_iconst X dU_found_37 ?_
        cases hf
        exact j_zret X (by decide +kernel) dU_found_38 rfl rfl
def U_due_L54 (F : Nat) : Nat → bz_Mm → Int → Int → Option (Int)
  | 0, _, _, _ => none
  | n + 1, M, l4, l2 =>
    if 0 < w32 l4 then
    (if w32 l2 = (-1) then
    (some l2)
    else
    (cl_ (fUS_openBehind F M l2) fun x4 =>
    U_due_L54 F n M (l4 + (-1)) x4))
    else
    (some l2)
theorem lU_due_L54 (E : bz_E) (F : Nat) {K : bz_K} {rv : Option Value} {M1 : bz_Mm} (X : bz_X K E prog_1_method_30_code 5 "UnitsWrong" (some .int) 3 63 rv M1) {M : bz_Mm} {res : (Int)}
    (kx : ∀ (l2 : Int), some l2 = some res → bz_J K 5 79 [(2, bz_i l2)] [] M) :
    ∀ (n : Nat) (l4 : Int) (l2 : Int), U_due_L54 F n M l4 l2 = some res → bz_J K 5 54 [(4, bz_i l4), (2, bz_i l2), (0, bz_rf E 0)] [] M := by
  intro n
  induction n with
  | zero => intro l4 l2 hf; cases hf
  | succ n ih =>
    intro l4 l2 hf
    rw [U_due_L54] at hf
    refine j_iload X dU_due_54 0 rfl ?_
    refine j_if_le X (tgt := 79) rfl dU_due_56 (by decide) hf (fun hf => ?_) (fun hf => ?_)
    · exact j_sub [1] rfl (kx _ hf)
    · refine j_iload_n X dU_due_59 rfl 1 rfl ?_
      refine j_iconst X dU_due_60 ?_
      refine j_icmp_eq X (tgt := 79) rfl (w32_lit rfl) dU_due_61 (by decide) hf (fun hf => ?_) (fun hf => ?_)
      · exact j_sub [1] rfl (kx _ hf)
      · refine j_aload_n X dU_due_64 rfl 2 rfl ?_
        refine j_geta X gf_U_10_0 dU_due_65 ?_
        refine j_iload_n X dU_due_68 rfl 1 rfl ?_
        obtain ⟨x4, hzx4, hf⟩ := q_cl hf
        refine j_cv X (st := []) (cUS_openBehind E F hzx4) gyUS_openBehind gv_US_openBehind_1 rfl (by decide) (by decide) wd_1029 rfl (Nat.le_of_ble_eq_true rfl) dU_due_69 ?_
        refine j_istore_n X (lv' := [(2, bz_i x4), (4, bz_i l4), (0, bz_rf E 0)]) dU_due_72 rfl (by decide) rfl ?_
        refine j_iinc X (y := l4 + (-1)) (lv' := [(4, bz_i (l4 + (-1))), (2, bz_i x4), (0, bz_rf E 0)]) dU_due_73 1 rfl rfl (by decide) rfl ?_
        refine j_goto X (tgt := 54) dU_due_76 (by decide) ?_
        exact ih _ _ hf
def fU_due (F : Nat) (M : bz_Mm) (a1 : Int) : Option (Int) :=
  if w32 (fUS_isFund M a1) = 0 then
  (some ((-1)))
  else
  (rd_ M 3 a1 4 fun x1 =>
  if w32 x1 = (-1) then
  (some ((-1)))
  else
  (rd_ M 3 a1 4 fun x2 =>
  cl_ (fUL_value F M a1 x2 11) fun x3 =>
  cl1_ (U_due_L54 F F M x3 x2) fun l2 =>
  some l2))
set_option maxHeartbeats 4000000 in
set_option maxRecDepth 20000 in
theorem cU_due (E : bz_E) (F : Nat)  {M : bz_Mm} {a1 : Int} {x0 : Int} (hf : fU_due F M a1 = some x0) : bz_Ct E yU_due (.code yU_due prog_1_method_30_code 5 (some .int)) 3 63 [bz_rf E 0, bz_i a1] M (some (bz_i x0)) M := by
  refine bz_met (by decide +kernel) (Nat.le_of_ble_eq_true rfl) (fun K X => ?_)
  have X : bz_X K E prog_1_method_30_code 5 "UnitsWrong" (some .int) 3 63 _ _ := X
  unfold fU_due at hf
  show bz_J K 5 0 [(0, bz_rf E 0), (1, bz_i a1)] [] M
  refine j_aload_n X dU_due_0 rfl 0 rfl ?_
  refine j_geta X gf_U_10_0 dU_due_1 ?_
  refine j_iload_n X dU_due_4 rfl 1 rfl ?_
  refine j_cv X (st := []) (cUS_isFund E) gyUS_isFund gv_US_isFund_1 rfl (by decide) (by decide) wd_584 rfl (Nat.le_of_ble_eq_true rfl) dU_due_5 ?_
  refine j_if_eq X (tgt := 24) rfl dU_due_8 (by decide) hf (fun hf => ?_) (fun hf => ?_)
  · refine j_iconst X dU_due_24 ?_
    cases hf
    exact j_iret X dU_due_25 rfl rfl
  · refine j_aload_n X dU_due_11 rfl 0 rfl ?_
    refine j_geta X gf_U_10_0 dU_due_12 ?_
    refine j_geta X gf_U_293_1 dU_due_15 ?_
    refine j_iload_n X dU_due_18 rfl 1 rfl ?_
    refine j_iald X sh_3 dU_due_19 hf (fun x1 hf => ?_)
    refine j_iconst X dU_due_20 ?_
    refine j_icmp_ne X (tgt := 26) rfl (w32_lit rfl) dU_due_21 (by decide) hf (fun hf => ?_) (fun hf => ?_)
    · refine j_aload_n X dU_due_26 rfl 0 rfl ?_
      refine j_geta X gf_U_10_0 dU_due_27 ?_
      refine j_geta X gf_U_293_1 dU_due_30 ?_
      refine j_iload_n X dU_due_33 rfl 1 rfl ?_
      refine j_iald X sh_3 dU_due_34 hf (fun x2 hf => ?_)
      refine j_istore_n X (lv' := [(2, bz_i x2), (0, bz_rf E 0), (1, bz_i a1)]) dU_due_35 rfl (by decide) rfl ?_
      refine j_aload_n X dU_due_36 rfl 1 rfl ?_
      show bz_J _ _ 37 _ _ _
      refine j_geta X gf_U_10_0 dU_due_37 ?_
      refine j_geta X gf_U_173_1 dU_due_40 ?_
      refine j_iload_n X dU_due_43 rfl 2 rfl ?_
      refine j_iload_n X dU_due_44 rfl 0 rfl ?_
      refine j_bipush X dU_due_45 rfl ?_
      obtain ⟨x3, hzx3, hf⟩ := q_cl hf
      refine j_cv X (st := []) (cUL_value E F hzx3) gyUL_value gv_UL_value_45 rfl (by decide) (by decide) wd_776 rfl (Nat.le_of_ble_eq_true rfl) dU_due_47 ?_
      refine j_istore_n X (lv' := [(3, bz_i x3), (2, bz_i x2), (0, bz_rf E 0), (1, bz_i a1)]) dU_due_50 rfl (by decide) rfl ?_
      refine j_iload_n X dU_due_51 rfl 0 rfl ?_
      show bz_J _ _ 52 _ _ _
      refine j_istore X (lv' := [(4, bz_i x3), (3, bz_i x3), (2, bz_i x2), (0, bz_rf E 0), (1, bz_i a1)]) dU_due_52 (by decide) rfl ?_
      obtain ⟨res5, hz5, hk5⟩ := q_l1 hf
      clear hf
      refine j_sub [0, 2, 3] rfl ?_
      refine lU_due_L54 E F X (fun l2 he => ?_) F x3 x2 hz5
      have hf := hk5 _ he
      refine j_iload_n X dU_due_79 rfl 0 rfl ?_
      cases hf
      exact j_iret X dU_due_80 rfl rfl
    · refine j_iconst X dU_due_24 ?_
      cases hf
      exact j_iret X dU_due_25 rfl rfl
def fUA_add (F : Nat) (M : bz_Mm) (a1 : Int) (a2 : Int) (a3 : Int) : Option (Int × bz_Mm) :=
  if w32 (M 77 3) < 8 then
  (wa_ M 78 (M 77 3) 8 a1 fun m1 =>
  wa_ m1 79 (m1 77 3) 8 a2 fun m2 =>
  wa_ m2 80 (m2 77 3) 8 a3 fun m3 =>
  wf_ m3 77 3 ((m3 77 3) + 1) fun m4 =>
  wf_ m4 77 4 0 fun m5 =>
  some ((m5 77 3, m5)))
  else
  (some (((-1), M)))
set_option maxHeartbeats 4000000 in
set_option maxRecDepth 20000 in
theorem cUA_add (E : bz_E) (F : Nat)  {M : bz_Mm} {a1 : Int} {a2 : Int} {a3 : Int} {x0 : Int × bz_Mm} (hf : fUA_add F M a1 a2 a3 = some x0) : bz_Ct E yUA_add (.code yUA_add prog_2_method_2_code 4 (some .int)) 0 0 [bz_rf E 77, bz_i a1, bz_i a2, bz_i a3] M (some (bz_i x0.1)) x0.2 := by
  refine bz_met (by decide +kernel) (Nat.le_of_ble_eq_true rfl) (fun K X => ?_)
  have X : bz_X K E prog_2_method_2_code 4 "UnitsWrong$Audits" (some .int) 0 0 _ _ := X
  unfold fUA_add at hf
  show bz_J K 4 0 [(0, bz_rf E 77), (1, bz_i a1), (2, bz_i a2), (3, bz_i a3)] [] M
  refine j_aload_n X dUA_add_0 rfl 0 rfl ?_
  refine j_geti X gf_UA_21_77 dUA_add_1 ?_
  refine j_bipush X dUA_add_4 rfl ?_
  refine j_icmp_lt X (tgt := 11) rfl (w32_lit rfl) dUA_add_6 (by decide) hf (fun hf => ?_) (fun hf => ?_)
  · refine j_aload_n X dUA_add_11 rfl 0 rfl ?_
    refine j_geta X gf_UA_11_77 dUA_add_12 ?_
    refine j_aload_n X dUA_add_15 rfl 0 rfl ?_
    refine j_geti X gf_UA_21_77 dUA_add_16 ?_
    refine j_iload_n X dUA_add_19 rfl 1 rfl ?_
    refine j_iast X sh_78 dUA_add_20 hf (fun m1 hf => ?_)
    refine j_aload_n X dUA_add_21 rfl 0 rfl ?_
    show bz_J _ _ 22 _ _ _
    refine j_geta X gf_UA_15_77 dUA_add_22 ?_
    refine j_aload_n X dUA_add_25 rfl 0 rfl ?_
    refine j_geti X gf_UA_21_77 dUA_add_26 ?_
    refine j_iload_n X dUA_add_29 rfl 2 rfl ?_
    refine j_iast X sh_79 dUA_add_30 hf (fun m2 hf => ?_)
    refine j_aload_n X dUA_add_31 rfl 0 rfl ?_
    refine j_geta X gf_UA_18_77 dUA_add_32 ?_
    refine j_aload_n X dUA_add_35 rfl 0 rfl ?_
    show bz_J _ _ 36 _ _ _
    refine j_geti X gf_UA_21_77 dUA_add_36 ?_
    refine j_iload_n X dUA_add_39 rfl 3 rfl ?_
    refine j_iast X sh_80 dUA_add_40 hf (fun m3 hf => ?_)
    refine j_aload_n X dUA_add_41 rfl 0 rfl ?_
    refine j_dup X dUA_add_42 rfl ?_
    refine j_geti X gf_UA_21_77 dUA_add_43 ?_
    refine j_iconst X dUA_add_46 ?_
    refine j_iadd X dUA_add_47 ?_
    show bz_J _ _ 48 _ _ _
    refine j_puti X pf_UA_21_77 dUA_add_48 hf (fun m4 hf => ?_)
    refine j_aload_n X dUA_add_51 rfl 0 rfl ?_
    refine j_iconst X dUA_add_52 ?_
    refine j_putz X pf_UA_25_77 (by decide +kernel) (by decide +kernel) dUA_add_53 hf (fun m5 hf => ?_)
    refine j_aload_n X dUA_add_56 rfl 0 rfl ?_
    refine j_geti X gf_UA_21_77 dUA_add_57 ?_
    cases hf
    exact j_iret X dUA_add_60 rfl rfl
  · refine j_iconst X dUA_add_9 ?_
    cases hf
    exact j_iret X dUA_add_10 rfl rfl
def fU_audit (F : Nat) (M : bz_Mm) (a1 : Int) (a2 : Int) (a3 : Int) : Option (Int × bz_Mm) :=
  cl_ (fU_isBooked F M a1 a2) fun x1 =>
  if w32 x1 = 0 then
  (some (((-1), M)))
  else
  (if w32 a3 < 0 then
  (some (((-1), M)))
  else
  (if 10000000 < w32 a3 then
  (some (((-1), M)))
  else
  (cl2_ (fUA_add F M a1 a2 a3) fun x3 m2 =>
  some ((x3, m2)))))
set_option maxHeartbeats 4000000 in
set_option maxRecDepth 20000 in
theorem cU_audit (E : bz_E) (F : Nat)  {M : bz_Mm} {a1 : Int} {a2 : Int} {a3 : Int} {x0 : Int × bz_Mm} (hf : fU_audit F M a1 a2 a3 = some x0) : bz_Ct E yU_audit (.code yU_audit prog_1_method_31_code 4 (some .int)) 3 63 [bz_rf E 0, bz_i a1, bz_i a2, bz_i a3] M (some (bz_i x0.1)) x0.2 := by
  refine bz_met (by decide +kernel) (Nat.le_of_ble_eq_true rfl) (fun K X => ?_)
  have X : bz_X K E prog_1_method_31_code 4 "UnitsWrong" (some .int) 3 63 _ _ := X
  unfold fU_audit at hf
  show bz_J K 4 0 [(0, bz_rf E 0), (1, bz_i a1), (2, bz_i a2), (3, bz_i a3)] [] M
  refine j_aload_n X dU_audit_0 rfl 0 rfl ?_
  refine j_iload_n X dU_audit_1 rfl 1 rfl ?_
  refine j_iload_n X dU_audit_2 rfl 2 rfl ?_
  obtain ⟨x1, hzx1, hf⟩ := q_cl hf
  refine j_cv X (st := []) (cU_isBooked E F hzx1) gyU_isBooked gv_U_isBooked_0 rfl (by decide) (by decide) wd_902 rfl (Nat.le_of_ble_eq_true rfl) dU_audit_3 ?_
  refine j_if_eq X (tgt := 20) rfl dU_audit_6 (by decide) hf (fun hf => ?_) (fun hf => ?_)
  · refine j_iconst X dU_audit_20 ?_
    cases hf
    exact j_iret X dU_audit_21 rfl rfl
  · refine j_iload_n X dU_audit_9 rfl 3 rfl ?_
    refine j_if_lt X (tgt := 20) rfl dU_audit_10 (by decide) hf (fun hf => ?_) (fun hf => ?_)
    · refine j_iconst X dU_audit_20 ?_
      cases hf
      exact j_iret X dU_audit_21 rfl rfl
    · refine j_iload_n X dU_audit_13 rfl 3 rfl ?_
      refine j_ldcw X (v := 10000000) wd_1034 dU_audit_14 ?_
      refine j_icmp_le X (tgt := 22) rfl (w32_lit rfl) dU_audit_17 (by decide) hf (fun hf => ?_) (fun hf => ?_)
      · refine j_aload_n X dU_audit_22 rfl 0 rfl ?_
        refine j_geta X gf_U_47_0 dU_audit_23 ?_
        refine j_iload_n X dU_audit_26 rfl 1 rfl ?_
        refine j_iload_n X dU_audit_27 rfl 2 rfl ?_
        refine j_iload_n X dU_audit_28 rfl 3 rfl ?_
        obtain ⟨x3, m2, hz, hf⟩ := q_cl2 hf
        refine j_cv X (st := []) (cUA_add E F hz) gyUA_add gv_UA_add_77 rfl (by decide) (by decide) wd_1035 rfl (Nat.le_of_ble_eq_true rfl) dU_audit_29 ?_
        clear hz
        cases hf
        exact j_iret X dU_audit_32 rfl rfl
      · refine j_iconst X dU_audit_20 ?_
        cases hf
        exact j_iret X dU_audit_21 rfl rfl
def UB_add_17_L21 (F : Nat) : Nat → Int → Int → Int → bz_Mm → Option (Int × bz_Mm)
  | 0, _, _, _, _ => none
  | n + 1, l2, l1, l3, M =>
    if 0 < w32 l3 then
    (rd_ M 19 (l3 - 1) 7 fun x1 =>
    rd_ M 18 x1 7 fun x2 =>
    if w32 l1 < w32 x2 then
    (rd_ M 19 (l3 - 1) 7 fun x3 =>
    wa_ M 19 l3 7 x3 fun m4 =>
    UB_add_17_L21 F n l2 l1 (l3 + (-1)) m4)
    else
    (some (l3, M)))
    else
    (some (l3, M))
theorem lUB_add_17_L21 (E : bz_E) (F : Nat) {K : bz_K} {rv : Option Value} {M1 : bz_Mm} (X : bz_X K E prog_3_method_2_code 4 "UnitsWrong$ByDay" (some .int) 0 0 rv M1) {l2 : Int} {l1 : Int} {res : (Int × bz_Mm)}
    (kx : ∀ (l3 : Int) (M : bz_Mm), some (l3, M) = some res → bz_J K 4 62 [(3, bz_i l3), (2, bz_i l2), (0, bz_rf E 17), (1, bz_i l1)] [] M) :
    ∀ (n : Nat) (l3 : Int) (M : bz_Mm), UB_add_17_L21 F n l2 l1 l3 M = some res → bz_J K 4 21 [(3, bz_i l3), (2, bz_i l2), (0, bz_rf E 17), (1, bz_i l1)] [] M := by
  intro n
  induction n with
  | zero => intro l3 M hf; cases hf
  | succ n ih =>
    intro l3 M hf
    rw [UB_add_17_L21] at hf
    refine j_iload_n X dUB_add_21 rfl 0 rfl ?_
    refine j_if_le X (tgt := 62) rfl dUB_add_22 (by decide) hf (fun hf => ?_) (fun hf => ?_)
    · exact kx _ _ hf
    · refine j_aload_n X dUB_add_25 rfl 2 rfl ?_
      refine j_geta X gf_UB_9_17 dUB_add_26 ?_
      refine j_aload_n X dUB_add_29 rfl 2 rfl ?_
      refine j_geta X gf_UB_15_17 dUB_add_30 ?_
      refine j_iload_n X dUB_add_33 rfl 0 rfl ?_
      refine j_iconst X dUB_add_34 ?_
      refine j_isub X dUB_add_35 ?_
      show bz_J _ _ 36 _ _ _
      refine j_iald X sh_19 dUB_add_36 hf (fun x1 hf => ?_)
      refine j_iald X sh_18 dUB_add_37 hf (fun x2 hf => ?_)
      refine j_iload_n X dUB_add_38 rfl 3 rfl ?_
      refine j_icmp_le X (tgt := 62) rfl rfl dUB_add_39 (by decide) hf (fun hf => ?_) (fun hf => ?_)
      · exact kx _ _ hf
      · refine j_aload_n X dUB_add_42 rfl 2 rfl ?_
        refine j_geta X gf_UB_15_17 dUB_add_43 ?_
        refine j_iload_n X dUB_add_46 rfl 0 rfl ?_
        refine j_aload_n X dUB_add_47 rfl 2 rfl ?_
        refine j_geta X gf_UB_15_17 dUB_add_48 ?_
        refine j_iload_n X dUB_add_51 rfl 0 rfl ?_
        refine j_iconst X dUB_add_52 ?_
        show bz_J _ _ 53 _ _ _
        refine j_isub X dUB_add_53 ?_
        refine j_iald X sh_19 dUB_add_54 hf (fun x3 hf => ?_)
        refine j_iast X sh_19 dUB_add_55 hf (fun m4 hf => ?_)
        refine j_iinc X (y := l3 + (-1)) (lv' := [(3, bz_i (l3 + (-1))), (2, bz_i l2), (0, bz_rf E 17), (1, bz_i l1)]) dUB_add_56 0 rfl rfl (by decide) rfl ?_
        refine j_goto X (tgt := 21) dUB_add_59 (by decide) ?_
        exact ih _ _ hf
def fUB_add_17 (F : Nat) (M : bz_Mm) (a1 : Int) : Option (Int × bz_Mm) :=
  if w32 (M 17 2) < 7 then
  (lt_ (M 17 2) fun l2 =>
  cl2_ (UB_add_17_L21 F F l2 a1 l2 M) fun l3 m5 =>
  wa_ m5 19 l3 7 l2 fun m6 =>
  wa_ m6 18 l2 7 a1 fun m7 =>
  wf_ m7 17 2 (l2 + 1) fun m8 =>
  some ((l2, m8)))
  else
  (some (((-1), M)))
set_option maxHeartbeats 4000000 in
set_option maxRecDepth 20000 in
theorem cUB_add_17 (E : bz_E) (F : Nat)  {M : bz_Mm} {a1 : Int} {x0 : Int × bz_Mm} (hf : fUB_add_17 F M a1 = some x0) : bz_Ct E yUB_add (.code yUB_add prog_3_method_2_code 4 (some .int)) 0 0 [bz_rf E 17, bz_i a1] M (some (bz_i x0.1)) x0.2 := by
  refine bz_met (by decide +kernel) (Nat.le_of_ble_eq_true rfl) (fun K X => ?_)
  have X : bz_X K E prog_3_method_2_code 4 "UnitsWrong$ByDay" (some .int) 0 0 _ _ := X
  unfold fUB_add_17 at hf
  show bz_J K 4 0 [(0, bz_rf E 17), (1, bz_i a1)] [] M
  refine j_aload_n X dUB_add_0 rfl 0 rfl ?_
  refine j_geti X gf_UB_18_17 dUB_add_1 ?_
  refine j_aload_n X dUB_add_4 rfl 0 rfl ?_
  refine j_geta X gf_UB_9_17 dUB_add_5 ?_
  refine j_alen X sh_18 (by decide) dUB_add_8 ?_
  refine j_icmp_lt X (tgt := 14) rfl (w32_lit rfl) dUB_add_9 (by decide) hf (fun hf => ?_) (fun hf => ?_)
  · refine j_aload_n X dUB_add_14 rfl 0 rfl ?_
    refine j_geti X gf_UB_18_17 dUB_add_15 ?_
    refine j_lt (g := bz_i) hf (fun l2 hf => ?_)
    refine j_istore_n X (lv' := [(2, bz_i l2), (0, bz_rf E 17), (1, bz_i a1)]) dUB_add_18 rfl (by decide) rfl ?_
    refine j_iload_n X dUB_add_19 rfl 0 rfl ?_
    refine j_istore_n X (lv' := [(3, bz_i l2), (2, bz_i l2), (0, bz_rf E 17), (1, bz_i a1)]) dUB_add_20 rfl (by decide) rfl ?_
    obtain ⟨res9, hz9, hk9⟩ := q_l2 hf
    clear hf
    refine lUB_add_17_L21 E F X (fun l3 m5 he => ?_) F l2 M hz9
    have hf := hk9 _ _ he
    refine j_aload_n X dUB_add_62 rfl 2 rfl ?_
    refine j_geta X gf_UB_15_17 dUB_add_63 ?_
    refine j_iload_n X dUB_add_66 rfl 0 rfl ?_
    refine j_iload_n X dUB_add_67 rfl 1 rfl ?_
    refine j_iast X sh_19 dUB_add_68 hf (fun m6 hf => ?_)
    refine j_aload_n X dUB_add_69 rfl 2 rfl ?_
    refine j_geta X gf_UB_9_17 dUB_add_70 ?_
    show bz_J _ _ 73 _ _ _
    refine j_iload_n X dUB_add_73 rfl 1 rfl ?_
    refine j_iload_n X dUB_add_74 rfl 3 rfl ?_
    refine j_iast X sh_18 dUB_add_75 hf (fun m7 hf => ?_)
    refine j_aload_n X dUB_add_76 rfl 2 rfl ?_
    refine j_iload_n X dUB_add_77 rfl 1 rfl ?_
    refine j_iconst X dUB_add_78 ?_
    refine j_iadd X dUB_add_79 ?_
    refine j_puti X pf_UB_18_17 dUB_add_80 hf (fun m8 hf => ?_)
    show bz_J _ _ 83 _ _ _
    refine j_iload_n X dUB_add_83 rfl 1 rfl ?_
    cases hf
    exact j_iret X dUB_add_84 rfl rfl
  · refine j_iconst X dUB_add_12 ?_
    cases hf
    exact j_iret X dUB_add_13 rfl rfl
def fUTe_add_16 (F : Nat) (M : bz_Mm) (a1 : Int) (a2 : Int) (a3 : Int) (a4 : Int) (a5 : Int) : Option (Int × bz_Mm) :=
  cl2_ (fUB_add_17 F M a3) fun x2 m1 =>
  if w32 x2 = (-1) then
  (some ((x2, m1)))
  else
  (wa_ m1 20 x2 7 a1 fun m3 =>
  wa_ m3 21 x2 7 a2 fun m4 =>
  wa_ m4 22 x2 7 a4 fun m5 =>
  wa_ m5 23 x2 7 a5 fun m6 =>
  some ((x2, m6)))
set_option maxHeartbeats 4000000 in
set_option maxRecDepth 20000 in
theorem cUTe_add_16 (E : bz_E) (F : Nat)  {M : bz_Mm} {a1 : Int} {a2 : Int} {a3 : Int} {a4 : Int} {a5 : Int} {x0 : Int × bz_Mm} (hf : fUTe_add_16 F M a1 a2 a3 a4 a5 = some x0) : bz_Ct E yUTe_add (.code yUTe_add prog_10_method_2_code 7 (some .int)) 1 23 [bz_rf E 16, bz_i a1, bz_i a2, bz_i a3, bz_i a4, bz_i a5] M (some (bz_i x0.1)) x0.2 := by
  refine bz_met (by decide +kernel) (Nat.le_of_ble_eq_true rfl) (fun K X => ?_)
  have X : bz_X K E prog_10_method_2_code 7 "UnitsWrong$Tellings" (some .int) 1 23 _ _ := X
  unfold fUTe_add_16 at hf
  show bz_J K 7 0 [(0, bz_rf E 16), (1, bz_i a1), (2, bz_i a2), (3, bz_i a3), (4, bz_i a4), (5, bz_i a5)] [] M
  refine j_aload_n X dUTe_add_0 rfl 0 rfl ?_
  refine j_geta X gf_UTe_14_16 dUTe_add_1 ?_
  refine j_iload_n X dUTe_add_4 rfl 3 rfl ?_
  obtain ⟨x2, m1, hz, hf⟩ := q_cl2 hf
  refine j_cv X (st := []) (cUB_add_17 E F hz) gyUB_add gv_UB_add_17 rfl (by decide) (by decide) wd_563 rfl (Nat.le_of_ble_eq_true rfl) dUTe_add_5 ?_
  clear hz
  refine j_istore X (lv' := [(6, bz_i x2), (0, bz_rf E 16), (1, bz_i a1), (2, bz_i a2), (3, bz_i a3), (4, bz_i a4), (5, bz_i a5)]) dUTe_add_8 (by decide) rfl ?_
  refine j_iload X dUTe_add_10 0 rfl ?_
  refine j_iconst X dUTe_add_12 ?_
  show bz_J _ _ 13 _ _ _
  refine j_icmp_eq X (tgt := 50) rfl (w32_lit rfl) dUTe_add_13 (by decide) hf (fun hf => ?_) (fun hf => ?_)
  · refine j_iload X dUTe_add_50 0 rfl ?_
    cases hf
    exact j_iret X dUTe_add_52 rfl rfl
  · refine j_aload_n X dUTe_add_16 rfl 1 rfl ?_
    refine j_geta X gf_UTe_20_16 dUTe_add_17 ?_
    refine j_iload X dUTe_add_20 0 rfl ?_
    refine j_iload_n X dUTe_add_22 rfl 2 rfl ?_
    refine j_iast X sh_20 dUTe_add_23 hf (fun m3 hf => ?_)
    refine j_aload_n X dUTe_add_24 rfl 1 rfl ?_
    refine j_geta X gf_UTe_24_16 dUTe_add_25 ?_
    show bz_J _ _ 28 _ _ _
    refine j_iload X dUTe_add_28 0 rfl ?_
    refine j_iload_n X dUTe_add_30 rfl 3 rfl ?_
    refine j_iast X sh_21 dUTe_add_31 hf (fun m4 hf => ?_)
    refine j_aload_n X dUTe_add_32 rfl 1 rfl ?_
    refine j_geta X gf_UTe_27_16 dUTe_add_33 ?_
    refine j_iload X dUTe_add_36 0 rfl ?_
    refine j_iload X dUTe_add_38 5 rfl ?_
    refine j_iast X sh_22 dUTe_add_40 hf (fun m5 hf => ?_)
    show bz_J _ _ 41 _ _ _
    refine j_aload_n X dUTe_add_41 rfl 1 rfl ?_
    refine j_geta X gf_UTe_30_16 dUTe_add_42 ?_
    refine j_iload X dUTe_add_45 0 rfl ?_
    refine j_iload X dUTe_add_47 6 rfl ?_
    refine j_iast X sh_23 dUTe_add_49 hf (fun m6 hf => ?_)
    refine j_iload X dUTe_add_50 0 rfl ?_
    cases hf
    exact j_iret X dUTe_add_52 rfl rfl
def fU_suspect (F : Nat) (M : bz_Mm) (a1 : Int) (a2 : Int) (a3 : Int) (a4 : Int) : Option (Int × bz_Mm) :=
  if w32 (fU_canBeTold a1 a2 a3 a4) = 0 then
  (some (((-1), M)))
  else
  (wf_ M 77 4 0 fun m1 =>
  cl2_ (fUTe_add_16 F m1 a1 a2 a3 a4 (m1 1 13)) fun x3 m2 =>
  some ((x3, m2)))
set_option maxHeartbeats 4000000 in
set_option maxRecDepth 20000 in
theorem cU_suspect (E : bz_E) (F : Nat)  {M : bz_Mm} {a1 : Int} {a2 : Int} {a3 : Int} {a4 : Int} {x0 : Int × bz_Mm} (hf : fU_suspect F M a1 a2 a3 a4 = some x0) : bz_Ct E yU_suspect (.code yU_suspect prog_1_method_32_code 5 (some .int)) 2 49 [bz_rf E 0, bz_i a1, bz_i a2, bz_i a3, bz_i a4] M (some (bz_i x0.1)) x0.2 := by
  refine bz_met (by decide +kernel) (Nat.le_of_ble_eq_true rfl) (fun K X => ?_)
  have X : bz_X K E prog_1_method_32_code 5 "UnitsWrong" (some .int) 2 49 _ _ := X
  unfold fU_suspect at hf
  show bz_J K 5 0 [(0, bz_rf E 0), (1, bz_i a1), (2, bz_i a2), (3, bz_i a3), (4, bz_i a4)] [] M
  refine j_iload_n X dU_suspect_0 rfl 1 rfl ?_
  refine j_iload_n X dU_suspect_1 rfl 2 rfl ?_
  refine j_iload_n X dU_suspect_2 rfl 3 rfl ?_
  refine j_iload X dU_suspect_3 4 rfl ?_
  refine j_cs X (st := []) (cU_canBeTold E) gyU_canBeTold wd_553 rfl (by decide) (by decide) wd_552 rfl (Nat.le_of_ble_eq_true rfl) dU_suspect_5 ?_
  refine j_if_ne X (tgt := 13) rfl dU_suspect_8 (by decide) hf (fun hf => ?_) (fun hf => ?_)
  · refine j_aload_n X dU_suspect_13 rfl 0 rfl ?_
    refine j_geta X gf_U_47_0 dU_suspect_14 ?_
    refine j_iconst X dU_suspect_17 ?_
    refine j_putz X pf_U_302_77 (by decide +kernel) (by decide +kernel) dU_suspect_18 hf (fun m1 hf => ?_)
    refine j_aload_n X dU_suspect_21 rfl 0 rfl ?_
    refine j_geta X gf_U_10_0 dU_suspect_22 ?_
    refine j_geta X gf_U_306_1 dU_suspect_25 ?_
    show bz_J _ _ 28 _ _ _
    refine j_iload_n X dU_suspect_28 rfl 1 rfl ?_
    refine j_iload_n X dU_suspect_29 rfl 2 rfl ?_
    refine j_iload_n X dU_suspect_30 rfl 3 rfl ?_
    refine j_iload X dU_suspect_31 4 rfl ?_
    refine j_aload_n X dU_suspect_33 rfl 0 rfl ?_
    refine j_geta X gf_U_10_0 dU_suspect_34 ?_
    refine j_geti X gf_U_51_1 dU_suspect_37 ?_
    obtain ⟨x3, m2, hz, hf⟩ := q_cl2 hf
    refine j_cv X (st := []) (cUTe_add_16 E F hz) gyUTe_add gv_UTe_add_16 rfl (by decide) (by decide) wd_559 rfl (Nat.le_of_ble_eq_true rfl) dU_suspect_40 ?_
    clear hz
    show bz_J _ _ 43 _ _ _
    cases hf
    exact j_iret X dU_suspect_43 rfl rfl
  · refine j_iconst X dU_suspect_11 ?_
    cases hf
    exact j_iret X dU_suspect_12 rfl rfl
def fU_forget (F : Nat) (M : bz_Mm) : Option (Int × bz_Mm) :=
  lt_ ((M 77 3) + (M 17 2)) fun l1 =>
  wf_ M 77 3 0 fun m1 =>
  wf_ m1 77 4 0 fun m2 =>
  wf_ m2 17 2 0 fun m3 =>
  some ((l1, m3))
set_option maxHeartbeats 4000000 in
set_option maxRecDepth 20000 in
theorem cU_forget (E : bz_E) (F : Nat)  {M : bz_Mm} {x0 : Int × bz_Mm} (hf : fU_forget F M = some x0) : bz_Ct E yU_forget (.code yU_forget prog_1_method_33_code 2 (some .int)) 0 0 [bz_rf E 0] M (some (bz_i x0.1)) x0.2 := by
  refine bz_met (by decide +kernel) (Nat.le_of_ble_eq_true rfl) (fun K X => ?_)
  have X : bz_X K E prog_1_method_33_code 2 "UnitsWrong" (some .int) 0 0 _ _ := X
  unfold fU_forget at hf
  show bz_J K 2 0 [(0, bz_rf E 0)] [] M
  refine j_aload_n X dU_forget_0 rfl 0 rfl ?_
  refine j_geta X gf_U_47_0 dU_forget_1 ?_
  refine j_geti X gf_U_309_77 dU_forget_4 ?_
  refine j_aload_n X dU_forget_7 rfl 0 rfl ?_
  refine j_geta X gf_U_10_0 dU_forget_8 ?_
  refine j_geta X gf_U_306_1 dU_forget_11 ?_
  refine j_geta X gf_U_101_16 dU_forget_14 ?_
  show bz_J _ _ 17 _ _ _
  refine j_geti X gf_U_105_17 dU_forget_17 ?_
  refine j_iadd X dU_forget_20 ?_
  refine j_lt (g := bz_i) hf (fun l1 hf => ?_)
  refine j_istore_n X (lv' := [(1, bz_i l1), (0, bz_rf E 0)]) dU_forget_21 rfl (by decide) rfl ?_
  refine j_aload_n X dU_forget_22 rfl 1 rfl ?_
  refine j_geta X gf_U_47_0 dU_forget_23 ?_
  refine j_iconst X dU_forget_26 ?_
  refine j_puti X pf_U_309_77 dU_forget_27 hf (fun m1 hf => ?_)
  refine j_aload_n X dU_forget_30 rfl 1 rfl ?_
  show bz_J _ _ 31 _ _ _
  refine j_geta X gf_U_47_0 dU_forget_31 ?_
  refine j_iconst X dU_forget_34 ?_
  refine j_putz X pf_U_302_77 (by decide +kernel) (by decide +kernel) dU_forget_35 hf (fun m2 hf => ?_)
  refine j_aload_n X dU_forget_38 rfl 1 rfl ?_
  refine j_geta X gf_U_10_0 dU_forget_39 ?_
  refine j_geta X gf_U_306_1 dU_forget_42 ?_
  refine j_geta X gf_U_101_16 dU_forget_45 ?_
  refine j_iconst X dU_forget_48 ?_
  show bz_J _ _ 49 _ _ _
  refine j_puti X pf_U_105_17 dU_forget_49 hf (fun m3 hf => ?_)
  refine j_iload_n X dU_forget_52 rfl 0 rfl ?_
  cases hf
  exact j_iret X dU_forget_53 rfl rfl
def gJI_bitCount (a0 : Int) : Option Int :=
  some (ia_ (((ia_ (((ia_ (a0 - (ia_ (us_ a0 1) 1431655765)) 858993459) + (ia_ (us_ (a0 - (ia_ (us_ a0 1) 1431655765)) 2) 858993459)) + (us_ ((ia_ (a0 - (ia_ (us_ a0 1) 1431655765)) 858993459) + (ia_ (us_ (a0 - (ia_ (us_ a0 1) 1431655765)) 2) 858993459)) 4)) 252645135) + (us_ (ia_ (((ia_ (a0 - (ia_ (us_ a0 1) 1431655765)) 858993459) + (ia_ (us_ (a0 - (ia_ (us_ a0 1) 1431655765)) 2) 858993459)) + (us_ ((ia_ (a0 - (ia_ (us_ a0 1) 1431655765)) 858993459) + (ia_ (us_ (a0 - (ia_ (us_ a0 1) 1431655765)) 2) 858993459)) 4)) 252645135) 8)) + (us_ ((ia_ (((ia_ (a0 - (ia_ (us_ a0 1) 1431655765)) 858993459) + (ia_ (us_ (a0 - (ia_ (us_ a0 1) 1431655765)) 2) 858993459)) + (us_ ((ia_ (a0 - (ia_ (us_ a0 1) 1431655765)) 858993459) + (ia_ (us_ (a0 - (ia_ (us_ a0 1) 1431655765)) 2) 858993459)) 4)) 252645135) + (us_ (ia_ (((ia_ (a0 - (ia_ (us_ a0 1) 1431655765)) 858993459) + (ia_ (us_ (a0 - (ia_ (us_ a0 1) 1431655765)) 2) 858993459)) + (us_ ((ia_ (a0 - (ia_ (us_ a0 1) 1431655765)) 858993459) + (ia_ (us_ (a0 - (ia_ (us_ a0 1) 1431655765)) 2) 858993459)) 4)) 252645135) 8)) 16)) 63)
def fJI_bitCount (a0 : Int) : Int :=
  (ia_ (((ia_ (((ia_ (a0 - (ia_ (us_ a0 1) 1431655765)) 858993459) + (ia_ (us_ (a0 - (ia_ (us_ a0 1) 1431655765)) 2) 858993459)) + (us_ ((ia_ (a0 - (ia_ (us_ a0 1) 1431655765)) 858993459) + (ia_ (us_ (a0 - (ia_ (us_ a0 1) 1431655765)) 2) 858993459)) 4)) 252645135) + (us_ (ia_ (((ia_ (a0 - (ia_ (us_ a0 1) 1431655765)) 858993459) + (ia_ (us_ (a0 - (ia_ (us_ a0 1) 1431655765)) 2) 858993459)) + (us_ ((ia_ (a0 - (ia_ (us_ a0 1) 1431655765)) 858993459) + (ia_ (us_ (a0 - (ia_ (us_ a0 1) 1431655765)) 2) 858993459)) 4)) 252645135) 8)) + (us_ ((ia_ (((ia_ (a0 - (ia_ (us_ a0 1) 1431655765)) 858993459) + (ia_ (us_ (a0 - (ia_ (us_ a0 1) 1431655765)) 2) 858993459)) + (us_ ((ia_ (a0 - (ia_ (us_ a0 1) 1431655765)) 858993459) + (ia_ (us_ (a0 - (ia_ (us_ a0 1) 1431655765)) 2) 858993459)) 4)) 252645135) + (us_ (ia_ (((ia_ (a0 - (ia_ (us_ a0 1) 1431655765)) 858993459) + (ia_ (us_ (a0 - (ia_ (us_ a0 1) 1431655765)) 2) 858993459)) + (us_ ((ia_ (a0 - (ia_ (us_ a0 1) 1431655765)) 858993459) + (ia_ (us_ (a0 - (ia_ (us_ a0 1) 1431655765)) 2) 858993459)) 4)) 252645135) 8)) 16)) 63)
theorem tJI_bitCount (a0 : Int) : gJI_bitCount a0 = some (fJI_bitCount a0) := by
  unfold gJI_bitCount fJI_bitCount
  (repeat' (first | rfl | split))
set_option maxHeartbeats 4000000 in
set_option maxRecDepth 20000 in
theorem cJI_bitCount (E : bz_E) {M : bz_Mm} {a0 : Int} : bz_Ct E yJI_bitCount (.code yJI_bitCount prog_15_method_49_code 1 (some .int)) 0 0 [bz_i a0] M (some (bz_i (fJI_bitCount a0))) M := by
  have hf := tJI_bitCount a0
  refine bz_metF (by decide +kernel) (Nat.le_of_ble_eq_true rfl) (fun K X => ?_)
  have X : bz_X K E prog_15_method_49_code 1 "java/lang/Integer" (some .int) 0 0 _ _ := X
  unfold gJI_bitCount at hf
  generalize fJI_bitCount a0 = rr at hf X
  show bz_J K 1 0 [(0, bz_i a0)] [] M
  refine j_iload_n X dJI_bitCount_0 rfl 0 rfl ?_
  refine j_iload_n X dJI_bitCount_1 rfl 0 rfl ?_
  refine j_iconst X dJI_bitCount_2 ?_
  refine j_iushr X dJI_bitCount_3 ?_
  refine j_ldcw X (v := 1431655765) wd_1058 dJI_bitCount_4 ?_
  refine j_iand X dJI_bitCount_7 ?_
  refine j_isub X dJI_bitCount_8 ?_
  show bz_J _ _ 9 _ _ _
  refine j_istore_n X (lv' := [(0, bz_i (a0 - (ia_ (us_ a0 1) 1431655765)))]) dJI_bitCount_9 rfl (by decide) rfl ?_
  refine j_iload_n X dJI_bitCount_10 rfl 0 rfl ?_
  refine j_ldcw X (v := 858993459) wd_1059 dJI_bitCount_11 ?_
  refine j_iand X dJI_bitCount_14 ?_
  refine j_iload_n X dJI_bitCount_15 rfl 0 rfl ?_
  refine j_iconst X dJI_bitCount_16 ?_
  refine j_iushr X dJI_bitCount_17 ?_
  refine j_ldcw X (v := 858993459) wd_1059 dJI_bitCount_18 ?_
  show bz_J _ _ 21 _ _ _
  refine j_iand X dJI_bitCount_21 ?_
  refine j_iadd X dJI_bitCount_22 ?_
  refine j_istore_n X (lv' := [(0, bz_i ((ia_ (a0 - (ia_ (us_ a0 1) 1431655765)) 858993459) + (ia_ (us_ (a0 - (ia_ (us_ a0 1) 1431655765)) 2) 858993459)))]) dJI_bitCount_23 rfl (by decide) rfl ?_
  refine j_iload_n X dJI_bitCount_24 rfl 0 rfl ?_
  refine j_iload_n X dJI_bitCount_25 rfl 0 rfl ?_
  refine j_iconst X dJI_bitCount_26 ?_
  refine j_iushr X dJI_bitCount_27 ?_
  refine j_iadd X dJI_bitCount_28 ?_
  show bz_J _ _ 29 _ _ _
  refine j_ldcw X (v := 252645135) wd_1060 dJI_bitCount_29 ?_
  refine j_iand X dJI_bitCount_32 ?_
  refine j_istore_n X (lv' := [(0, bz_i (ia_ (((ia_ (a0 - (ia_ (us_ a0 1) 1431655765)) 858993459) + (ia_ (us_ (a0 - (ia_ (us_ a0 1) 1431655765)) 2) 858993459)) + (us_ ((ia_ (a0 - (ia_ (us_ a0 1) 1431655765)) 858993459) + (ia_ (us_ (a0 - (ia_ (us_ a0 1) 1431655765)) 2) 858993459)) 4)) 252645135))]) dJI_bitCount_33 rfl (by decide) rfl ?_
  refine j_iload_n X dJI_bitCount_34 rfl 0 rfl ?_
  refine j_iload_n X dJI_bitCount_35 rfl 0 rfl ?_
  refine j_bipush X dJI_bitCount_36 rfl ?_
  refine j_iushr X dJI_bitCount_38 ?_
  refine j_iadd X dJI_bitCount_39 ?_
  show bz_J _ _ 40 _ _ _
  refine j_istore_n X (lv' := [(0, bz_i ((ia_ (((ia_ (a0 - (ia_ (us_ a0 1) 1431655765)) 858993459) + (ia_ (us_ (a0 - (ia_ (us_ a0 1) 1431655765)) 2) 858993459)) + (us_ ((ia_ (a0 - (ia_ (us_ a0 1) 1431655765)) 858993459) + (ia_ (us_ (a0 - (ia_ (us_ a0 1) 1431655765)) 2) 858993459)) 4)) 252645135) + (us_ (ia_ (((ia_ (a0 - (ia_ (us_ a0 1) 1431655765)) 858993459) + (ia_ (us_ (a0 - (ia_ (us_ a0 1) 1431655765)) 2) 858993459)) + (us_ ((ia_ (a0 - (ia_ (us_ a0 1) 1431655765)) 858993459) + (ia_ (us_ (a0 - (ia_ (us_ a0 1) 1431655765)) 2) 858993459)) 4)) 252645135) 8)))]) dJI_bitCount_40 rfl (by decide) rfl ?_
  refine j_iload_n X dJI_bitCount_41 rfl 0 rfl ?_
  refine j_iload_n X dJI_bitCount_42 rfl 0 rfl ?_
  refine j_bipush X dJI_bitCount_43 rfl ?_
  refine j_iushr X dJI_bitCount_45 ?_
  refine j_iadd X dJI_bitCount_46 ?_
  refine j_istore_n X (lv' := [(0, bz_i (((ia_ (((ia_ (a0 - (ia_ (us_ a0 1) 1431655765)) 858993459) + (ia_ (us_ (a0 - (ia_ (us_ a0 1) 1431655765)) 2) 858993459)) + (us_ ((ia_ (a0 - (ia_ (us_ a0 1) 1431655765)) 858993459) + (ia_ (us_ (a0 - (ia_ (us_ a0 1) 1431655765)) 2) 858993459)) 4)) 252645135) + (us_ (ia_ (((ia_ (a0 - (ia_ (us_ a0 1) 1431655765)) 858993459) + (ia_ (us_ (a0 - (ia_ (us_ a0 1) 1431655765)) 2) 858993459)) + (us_ ((ia_ (a0 - (ia_ (us_ a0 1) 1431655765)) 858993459) + (ia_ (us_ (a0 - (ia_ (us_ a0 1) 1431655765)) 2) 858993459)) 4)) 252645135) 8)) + (us_ ((ia_ (((ia_ (a0 - (ia_ (us_ a0 1) 1431655765)) 858993459) + (ia_ (us_ (a0 - (ia_ (us_ a0 1) 1431655765)) 2) 858993459)) + (us_ ((ia_ (a0 - (ia_ (us_ a0 1) 1431655765)) 858993459) + (ia_ (us_ (a0 - (ia_ (us_ a0 1) 1431655765)) 2) 858993459)) 4)) 252645135) + (us_ (ia_ (((ia_ (a0 - (ia_ (us_ a0 1) 1431655765)) 858993459) + (ia_ (us_ (a0 - (ia_ (us_ a0 1) 1431655765)) 2) 858993459)) + (us_ ((ia_ (a0 - (ia_ (us_ a0 1) 1431655765)) 858993459) + (ia_ (us_ (a0 - (ia_ (us_ a0 1) 1431655765)) 2) 858993459)) 4)) 252645135) 8)) 16)))]) dJI_bitCount_47 rfl (by decide) rfl ?_
  refine j_iload_n X dJI_bitCount_48 rfl 0 rfl ?_
  show bz_J _ _ 49 _ _ _
  refine j_bipush X dJI_bitCount_49 rfl ?_
  refine j_iand X dJI_bitCount_51 ?_
  cases hf
  exact j_iret X dJI_bitCount_52 rfl rfl
