def UA_agrees_L2 (F : Nat) : Nat → bz_Mm → Int → Int → Option (Int ⊕ (Int))
  | 0, _, _, _ => none
  | n + 1, M, l2, l3 =>
    if w32 l3 < w32 (M 77 3) then
    (rd_ M 79 l3 8 fun x1 =>
    if w32 x1 = w32 l2 then
    (rd_ M 78 l3 8 fun x2 =>
    rd_ M 56 (fU_slot x2 l2) 1040 fun x3 =>
    rd_ M 80 l3 8 fun x4 =>
    if w32 x3 = w32 x4 then
    (UA_agrees_L2 F n M l2 (l3 + 1))
    else
    (some (.inl 0)))
    else
    (UA_agrees_L2 F n M l2 (l3 + 1)))
    else
    (some (.inr 0))
theorem lUA_agrees_L2 (E : bz_E) (F : Nat) {K : bz_K} {rv : Option Value} {M1 : bz_Mm} (X : bz_X K E prog_2_method_5_code 4 "UnitsWrong$Audits" (some .boolean) 1 21 rv M1) {M : bz_Mm} {l2 : Int} {res : (Int ⊕ (Int))}
    (kx : ∀ (_u : Int), some (.inr _u) = some res → bz_J K 4 52 [] [] M) (kr : ∀ b : Int, some (.inl b) = some res → some (bz_i b) = rv ∧ M = M1) :
    ∀ (n : Nat) (l3 : Int), UA_agrees_L2 F n M l2 l3 = some res → bz_J K 4 2 [(3, bz_i l3), (0, bz_rf E 77), (1, bz_rf E 53), (2, bz_i l2)] [] M := by
  intro n
  induction n with
  | zero => intro l3 hf; cases hf
  | succ n ih =>
    intro l3 hf
    rw [UA_agrees_L2] at hf
    refine j_iload_n X dUA_agrees_2 rfl 0 rfl ?_
    refine j_aload_n X dUA_agrees_3 rfl 1 rfl ?_
    refine j_geti X gf_UA_21_77 dUA_agrees_4 ?_
    refine j_icmp_ge X (tgt := 52) rfl rfl dUA_agrees_7 (by decide) hf (fun hf => ?_) (fun hf => ?_)
    · exact j_sub [] rfl (kx _ hf)
    · refine j_aload_n X dUA_agrees_10 rfl 1 rfl ?_
      refine j_geta X gf_UA_15_77 dUA_agrees_11 ?_
      refine j_iload_n X dUA_agrees_14 rfl 0 rfl ?_
      refine j_iald X sh_79 dUA_agrees_15 hf (fun x1 hf => ?_)
      refine j_iload_n X dUA_agrees_16 rfl 3 rfl ?_
      refine j_icmp_ne X (tgt := 46) rfl rfl dUA_agrees_17 (by decide) hf (fun hf => ?_) (fun hf => ?_)
      · refine j_iinc X (y := l3 + 1) (lv' := [(3, bz_i (l3 + 1)), (0, bz_rf E 77), (1, bz_rf E 53), (2, bz_i l2)]) dUA_agrees_46 0 rfl rfl (by decide) rfl ?_
        refine j_goto X (tgt := 2) dUA_agrees_49 (by decide) ?_
        exact ih _ hf
      · refine j_aload_n X dUA_agrees_20 rfl 2 rfl ?_
        refine j_geta X gf_UA_90_53 dUA_agrees_21 ?_
        refine j_aload_n X dUA_agrees_24 rfl 1 rfl ?_
        refine j_geta X gf_UA_11_77 dUA_agrees_25 ?_
        refine j_iload_n X dUA_agrees_28 rfl 0 rfl ?_
        refine j_iald X sh_78 dUA_agrees_29 hf (fun x2 hf => ?_)
        refine j_iload_n X dUA_agrees_30 rfl 3 rfl ?_
        show bz_J _ _ 31 _ _ _
        refine j_cn X (st := [bz_rf E 56]) (cU_slot E) gyU_slot wd_853 rfl (by decide) (by decide) nl_1073 rfl (Nat.le_of_ble_eq_true rfl) dUA_agrees_31 ?_
        refine j_iald X sh_56 dUA_agrees_34 hf (fun x3 hf => ?_)
        refine j_aload_n X dUA_agrees_35 rfl 1 rfl ?_
        refine j_geta X gf_UA_18_77 dUA_agrees_36 ?_
        refine j_iload_n X dUA_agrees_39 rfl 0 rfl ?_
        refine j_iald X sh_80 dUA_agrees_40 hf (fun x4 hf => ?_)
        refine j_icmp_eq X (tgt := 46) rfl rfl dUA_agrees_41 (by decide) hf (fun hf => ?_) (fun hf => ?_)
        · refine j_iinc X (y := l3 + 1) (lv' := [(3, bz_i (l3 + 1)), (0, bz_rf E 77), (1, bz_rf E 53), (2, bz_i l2)]) dUA_agrees_46 0 rfl rfl (by decide) rfl ?_
          refine j_goto X (tgt := 2) dUA_agrees_49 (by decide) ?_
          exact ih _ hf
        · refine j_iconst X dUA_agrees_44 ?_
          exact j_zret X (by decide +kernel) dUA_agrees_45 (kr _ hf).1 (kr _ hf).2
def fUA_agrees (F : Nat) (M : bz_Mm) (a2 : Int) : Option (Int) :=
  cs1_ (UA_agrees_L2 F F M a2 0) (fun b => some b) fun _u =>
  some 1
set_option maxHeartbeats 4000000 in
set_option maxRecDepth 20000 in
theorem cUA_agrees (E : bz_E) (F : Nat)  {M : bz_Mm} {a2 : Int} {x0 : Int} (hf : fUA_agrees F M a2 = some x0) : bz_Ct E yUA_agrees (.code yUA_agrees prog_2_method_5_code 4 (some .boolean)) 1 21 [bz_rf E 77, bz_rf E 53, bz_i a2] M (some (bz_i x0)) M := by
  refine bz_met (by decide +kernel) (Nat.le_of_ble_eq_true rfl) (fun K X => ?_)
  have X : bz_X K E prog_2_method_5_code 4 "UnitsWrong$Audits" (some .boolean) 1 21 _ _ := X
  unfold fUA_agrees at hf
  show bz_J K 4 0 [(0, bz_rf E 77), (1, bz_rf E 53), (2, bz_i a2)] [] M
  refine j_iconst X dUA_agrees_0 ?_
  refine j_istore_n X (lv' := [(3, bz_i 0), (0, bz_rf E 77), (1, bz_rf E 53), (2, bz_i a2)]) dUA_agrees_1 rfl (by decide) rfl ?_
  obtain ⟨res5, hz5, hk5, hr5⟩ := q_s1 hf
  clear hf
  refine lUA_agrees_L2 E F X (fun _u he => ?_) (fun b he => ?_) F 0 hz5
  · have hf := hk5 _ he
    refine j_iconst X dUA_agrees_52 ?_
    cases hf
    exact j_zret X (by decide +kernel) dUA_agrees_53 rfl rfl
  · have hf := hr5 _ he
    cases hf
    exact ⟨rfl, rfl⟩
def UA_explains_L6 (F : Nat) : Nat → bz_Mm → Int → Int → Int → Option (Int)
  | 0, _, _, _, _ => none
  | n + 1, M, l3, l5, l4 =>
    if w32 l5 < w32 (M 77 3) then
    (rd_ M 79 l5 8 fun x1 =>
    lt_ (fJM_max0 l4 x1) fun l4 =>
    UA_explains_L6 F n M l3 (l5 + 1) l4)
    else
    (some l4)
def UA_explains_L43 (F : Nat) : Nat → Int → Int → Int → bz_Mm → Option ((Int × bz_Mm) ⊕ (bz_Mm))
  | 0, _, _, _, _ => none
  | n + 1, l4, l3, l5, M =>
    if w32 l4 < w32 l5 then
    (some (.inr M))
    else
    (cl_ (fUC_passDay F M l5 (fUS_latestKnown M) l3) fun m3 =>
    cl_ (fUA_agrees F m3 l5) fun x4 =>
    if w32 x4 = 0 then
    (some (.inl ((0, m3))))
    else
    (UA_explains_L43 F n l4 l3 (l5 + 1) m3))
theorem lUA_explains_L6 (E : bz_E) (F : Nat) {K : bz_K} {rv : Option Value} {M1 : bz_Mm} (X : bz_X K E prog_2_method_4_code 6 "UnitsWrong$Audits" (some .boolean) 5 121 rv M1) {M : bz_Mm} {l3 : Int} {res : (Int)}
    (kx : ∀ (l4 : Int), some l4 = some res → bz_J K 6 35 [(4, bz_i l4), (0, bz_rf E 77), (1, bz_rf E 1), (2, bz_rf E 53), (3, bz_i l3)] [] M) :
    ∀ (n : Nat) (l5 : Int) (l4 : Int), UA_explains_L6 F n M l3 l5 l4 = some res → bz_J K 6 6 [(5, bz_i l5), (4, bz_i l4), (0, bz_rf E 77), (1, bz_rf E 1), (2, bz_rf E 53), (3, bz_i l3)] [] M := by
  intro n
  induction n with
  | zero => intro l5 l4 hf; cases hf
  | succ n ih =>
    intro l5 l4 hf
    rw [UA_explains_L6] at hf
    refine j_iload X dUA_explains_6 0 rfl ?_
    refine j_aload_n X dUA_explains_8 rfl 2 rfl ?_
    refine j_geti X gf_UA_21_77 dUA_explains_9 ?_
    refine j_icmp_ge X (tgt := 35) rfl rfl dUA_explains_12 (by decide) hf (fun hf => ?_) (fun hf => ?_)
    · exact j_sub [1, 2, 3, 4, 5] rfl (kx _ hf)
    · refine j_iload X dUA_explains_15 1 rfl ?_
      refine j_aload_n X dUA_explains_17 rfl 2 rfl ?_
      refine j_geta X gf_UA_15_77 dUA_explains_18 ?_
      refine j_iload X dUA_explains_21 0 rfl ?_
      refine j_iald X sh_79 dUA_explains_23 hf (fun x1 hf => ?_)
      refine j_cs X (st := []) (cJM_max0 E) gyJM_max0 wd_896 rfl (by decide) (by decide) wd_1065 rfl (Nat.le_of_ble_eq_true rfl) dUA_explains_24 ?_
      refine j_lt (g := bz_i) hf (fun l4 hf => ?_)
      refine j_istore X (lv' := [(4, bz_i l4), (5, bz_i l5), (0, bz_rf E 77), (1, bz_rf E 1), (2, bz_rf E 53), (3, bz_i l3)]) dUA_explains_27 (by decide) rfl ?_
      show bz_J _ _ 29 _ _ _
      refine j_iinc X (y := l5 + 1) (lv' := [(5, bz_i (l5 + 1)), (4, bz_i l4), (0, bz_rf E 77), (1, bz_rf E 1), (2, bz_rf E 53), (3, bz_i l3)]) dUA_explains_29 1 rfl rfl (by decide) rfl ?_
      refine j_goto X (tgt := 6) dUA_explains_32 (by decide) ?_
      exact ih _ _ hf
theorem lUA_explains_L43 (E : bz_E) (F : Nat) {K : bz_K} {rv : Option Value} {M1 : bz_Mm} (X : bz_X K E prog_2_method_4_code 6 "UnitsWrong$Audits" (some .boolean) 5 121 rv M1) {l4 : Int} {l3 : Int} {res : ((Int × bz_Mm) ⊕ (bz_Mm))}
    (kx : ∀ (M : bz_Mm), some (.inr M) = some res → bz_J K 6 80 [] [] M) (kr : ∀ b : Int × bz_Mm, some (.inl b) = some res → some (bz_i b.1) = rv ∧ b.2 = M1) :
    ∀ (n : Nat) (l5 : Int) (M : bz_Mm), UA_explains_L43 F n l4 l3 l5 M = some res → bz_J K 6 43 [(5, bz_i l5), (4, bz_i l4), (0, bz_rf E 77), (1, bz_rf E 1), (2, bz_rf E 53), (3, bz_i l3)] [] M := by
  intro n
  induction n with
  | zero => intro l5 M hf; cases hf
  | succ n ih =>
    intro l5 M hf
    rw [UA_explains_L43] at hf
    refine j_iload X dUA_explains_43 0 rfl ?_
    refine j_iload X dUA_explains_45 1 rfl ?_
    refine j_icmp_gt X (tgt := 80) rfl rfl dUA_explains_47 (by decide) hf (fun hf => ?_) (fun hf => ?_)
    · exact j_sub [] rfl (kx _ hf)
    · refine j_aload_n X dUA_explains_50 rfl 4 rfl ?_
      refine j_aload_n X dUA_explains_51 rfl 3 rfl ?_
      refine j_iload X dUA_explains_52 0 rfl ?_
      refine j_aload_n X dUA_explains_54 rfl 3 rfl ?_
      refine j_cv X (st := [bz_i l5, bz_rf E 1, bz_rf E 53]) (cUS_latestKnown E) gyUS_latestKnown gv_US_latestKnown_1 rfl (by decide) (by decide) wd_1067 rfl (Nat.le_of_ble_eq_true rfl) dUA_explains_55 ?_
      refine j_iload_n X dUA_explains_58 rfl 5 rfl ?_
      obtain ⟨m3, hz, hf⟩ := q_cl hf
      refine j_cv X (st := []) (cUC_passDay E F hz) gyUC_passDay gv_UC_passDay_53 rfl (by decide) (by decide) wd_1068 rfl (Nat.le_of_ble_eq_true rfl) dUA_explains_59 ?_
      clear hz
      show bz_J _ _ 62 _ _ _
      refine j_aload_n X dUA_explains_62 rfl 2 rfl ?_
      refine j_aload_n X dUA_explains_63 rfl 4 rfl ?_
      refine j_iload X dUA_explains_64 0 rfl ?_
      obtain ⟨x4, hzx4, hf⟩ := q_cl hf
      refine j_cv X (st := []) (cUA_agrees E F hzx4) gyUA_agrees gv_UA_agrees_77 rfl (by decide) (by decide) wd_1069 rfl (Nat.le_of_ble_eq_true rfl) dUA_explains_66 ?_
      refine j_if_ne X (tgt := 74) rfl dUA_explains_69 (by decide) hf (fun hf => ?_) (fun hf => ?_)
      · refine j_iinc X (y := l5 + 1) (lv' := [(5, bz_i (l5 + 1)), (4, bz_i l4), (0, bz_rf E 77), (1, bz_rf E 1), (2, bz_rf E 53), (3, bz_i l3)]) dUA_explains_74 0 rfl rfl (by decide) rfl ?_
        refine j_goto X (tgt := 43) dUA_explains_77 (by decide) ?_
        exact ih _ _ hf
      · refine j_iconst X dUA_explains_72 ?_
        exact j_zret X (by decide +kernel) dUA_explains_73 (kr _ hf).1 (kr _ hf).2
def fUA_explains (F : Nat) (M : bz_Mm) (a3 : Int) : Option (Int × bz_Mm) :=
  cl1_ (UA_explains_L6 F F M a3 0 ((-1))) fun l4 =>
  cl_ (fUC_start F M) fun m2 =>
  cs1_ (UA_explains_L43 F F l4 a3 0 m2) (fun b => some b) fun m5 =>
  some ((1, m5))
set_option maxHeartbeats 4000000 in
set_option maxRecDepth 20000 in
theorem cUA_explains (E : bz_E) (F : Nat)  {M : bz_Mm} {a3 : Int} {x0 : Int × bz_Mm} (hf : fUA_explains F M a3 = some x0) : bz_Ct E yUA_explains (.code yUA_explains prog_2_method_4_code 6 (some .boolean)) 5 121 [bz_rf E 77, bz_rf E 1, bz_rf E 53, bz_i a3] M (some (bz_i x0.1)) x0.2 := by
  refine bz_met (by decide +kernel) (Nat.le_of_ble_eq_true rfl) (fun K X => ?_)
  have X : bz_X K E prog_2_method_4_code 6 "UnitsWrong$Audits" (some .boolean) 5 121 _ _ := X
  unfold fUA_explains at hf
  show bz_J K 6 0 [(0, bz_rf E 77), (1, bz_rf E 1), (2, bz_rf E 53), (3, bz_i a3)] [] M
  refine j_iconst X dUA_explains_0 ?_
  refine j_istore X (lv' := [(4, bz_i ((-1))), (0, bz_rf E 77), (1, bz_rf E 1), (2, bz_rf E 53), (3, bz_i a3)]) dUA_explains_1 (by decide) rfl ?_
  refine j_iconst X dUA_explains_3 ?_
  refine j_istore X (lv' := [(5, bz_i 0), (4, bz_i ((-1))), (0, bz_rf E 77), (1, bz_rf E 1), (2, bz_rf E 53), (3, bz_i a3)]) dUA_explains_4 (by decide) rfl ?_
  obtain ⟨res7, hz7, hk7⟩ := q_l1 hf
  clear hf
  refine lUA_explains_L6 E F X (fun l4 he => ?_) F 0 ((-1)) hz7
  have hf := hk7 _ he
  refine j_aload_n X dUA_explains_35 rfl 3 rfl ?_
  refine j_aload_n X dUA_explains_36 rfl 2 rfl ?_
  obtain ⟨m2, hz, hf⟩ := q_cl hf
  refine j_cv X (st := []) (cUC_start E F hz) gyUC_start gv_UC_start_53 rfl (by decide) (by decide) wd_1066 rfl (Nat.le_of_ble_eq_true rfl) dUA_explains_37 ?_
  clear hz
  refine j_iconst X dUA_explains_40 ?_
  refine j_istore X (lv' := [(5, bz_i 0), (4, bz_i l4), (0, bz_rf E 77), (1, bz_rf E 1), (2, bz_rf E 53), (3, bz_i a3)]) dUA_explains_41 (by decide) rfl ?_
  obtain ⟨res6, hz6, hk6, hr6⟩ := q_s1 hf
  clear hf
  refine lUA_explains_L43 E F X (fun m5 he => ?_) (fun b he => ?_) F 0 m2 hz6
  · have hf := hk6 _ he
    refine j_iconst X dUA_explains_80 ?_
    cases hf
    exact j_zret X (by decide +kernel) dUA_explains_81 rfl rfl
  · have hf := hr6 _ he
    cases hf
    exact ⟨rfl, rfl⟩
def UA_search_L60 (F : Nat) : Nat → Int → Int → Int → bz_Mm → Option (bz_Mm)
  | 0, _, _, _, _ => none
  | n + 1, l4, l3, l5, M =>
    if w32 l5 < w32 (sl_ 1 l3) then
    (if w32 (fJI_bitCount l5) = w32 l4 then
    (cl2_ (fUA_explains F M l5) fun x4 m3 =>
    if w32 x4 = 0 then
    (UA_search_L60 F n l4 l3 (l5 + 1) m3)
    else
    (cl1_ (if w32 (m3 77 5) = (-1) then
    (some (l5))
    else
    (some (m3 77 5))) fun v6 =>
    wf_ m3 77 5 v6 fun m7 =>
    wf_ m7 77 6 ((m7 77 6) + 1) fun m8 =>
    UA_search_L60 F n l4 l3 (l5 + 1) m8))
    else
    (UA_search_L60 F n l4 l3 (l5 + 1) M))
    else
    (some M)
def UA_search_L43 (F : Nat) : Nat → Int → Int → bz_Mm → Option (bz_Mm)
  | 0, _, _, _ => none
  | n + 1, l3, l4, M =>
    if w32 l3 < w32 l4 then
    (some M)
    else
    (if w32 (M 77 5) = (-1) then
    (cl1_ (UA_search_L60 F F l4 l3 0 M) fun m9 =>
    UA_search_L43 F n l3 (l4 + 1) m9)
    else
    (some M))
def UA_search_L60a (F : Nat) : Nat → Int → Int → Int → bz_Mm → Option (bz_Mm)
  | 0, _, _, _, _ => none
  | n + 1, l4, l3, l5, M =>
    if w32 l5 < w32 (sl_ 1 l3) then
    (if w32 (fJI_bitCount l5) = w32 l4 then
    (cl2_ (fUA_explains F M l5) fun x18 m17 =>
    if w32 x18 = 0 then
    (UA_search_L60a F n l4 l3 (l5 + 1) m17)
    else
    (cl1_ (if w32 (m17 77 5) = (-1) then
    (some (l5))
    else
    (some (m17 77 5))) fun v20 =>
    wf_ m17 77 5 v20 fun m21 =>
    wf_ m21 77 6 ((m21 77 6) + 1) fun m22 =>
    UA_search_L60a F n l4 l3 (l5 + 1) m22))
    else
    (UA_search_L60a F n l4 l3 (l5 + 1) M))
    else
    (some M)
def UA_search_L43a (F : Nat) : Nat → Int → Int → bz_Mm → Option (bz_Mm)
  | 0, _, _, _ => none
  | n + 1, l3, l4, M =>
    if w32 l3 < w32 l4 then
    (some M)
    else
    (if w32 (M 77 5) = (-1) then
    (cl1_ (UA_search_L60a F F l4 l3 0 M) fun m23 =>
    UA_search_L43a F n l3 (l4 + 1) m23)
    else
    (some M))
theorem lUA_search_L60 (E : bz_E) (F : Nat) {K : bz_K} {rv : Option Value} {M1 : bz_Mm} (X : bz_X K E prog_2_method_3_code 6 "UnitsWrong$Audits" none 6 146 rv M1) {l4 : Int} {l3 : Int} {res : (bz_Mm)}
    (kx : ∀ (M : bz_Mm), some M = some res → bz_J K 6 126 [(4, bz_i l4), (3, bz_i l3), (0, bz_rf E 77), (1, bz_rf E 1), (2, bz_rf E 53)] [] M) :
    ∀ (n : Nat) (l5 : Int) (M : bz_Mm), UA_search_L60 F n l4 l3 l5 M = some res → bz_J K 6 60 [(5, bz_i l5), (4, bz_i l4), (3, bz_i l3), (0, bz_rf E 77), (1, bz_rf E 1), (2, bz_rf E 53)] [] M := by
  intro n
  induction n with
  | zero => intro l5 M hf; cases hf
  | succ n ih =>
    intro l5 M hf
    rw [UA_search_L60] at hf
    refine j_iload X dUA_search_60 0 rfl ?_
    refine j_iconst X dUA_search_62 ?_
    refine j_iload_n X dUA_search_63 rfl 2 rfl ?_
    refine j_ishl X dUA_search_64 ?_
    refine j_icmp_ge X (tgt := 126) rfl rfl dUA_search_65 (by decide) hf (fun hf => ?_) (fun hf => ?_)
    · exact j_sub [1, 2, 3, 4, 5] rfl (kx _ hf)
    · refine j_iload X dUA_search_68 0 rfl ?_
      refine j_cs X (st := []) (cJI_bitCount E) gyJI_bitCount wd_1056 rfl (by decide) (by decide) wd_1055 rfl (Nat.le_of_ble_eq_true rfl) dUA_search_70 ?_
      refine j_iload X dUA_search_73 1 rfl ?_
      refine j_icmp_ne X (tgt := 120) rfl rfl dUA_search_75 (by decide) hf (fun hf => ?_) (fun hf => ?_)
      · refine j_iinc X (y := l5 + 1) (lv' := [(5, bz_i (l5 + 1)), (4, bz_i l4), (3, bz_i l3), (0, bz_rf E 77), (1, bz_rf E 1), (2, bz_rf E 53)]) dUA_search_120 0 rfl rfl (by decide) rfl ?_
        refine j_goto X (tgt := 60) dUA_search_123 (by decide) ?_
        exact ih _ _ hf
      · refine j_aload_n X dUA_search_78 rfl 3 rfl ?_
        refine j_aload_n X dUA_search_79 rfl 4 rfl ?_
        refine j_aload_n X dUA_search_80 rfl 5 rfl ?_
        refine j_iload X dUA_search_81 0 rfl ?_
        obtain ⟨x4, m3, hz, hf⟩ := q_cl2 hf
        refine j_cv X (st := []) (cUA_explains E F hz) gyUA_explains gv_UA_explains_77 rfl (by decide) (by decide) wd_1061 rfl (Nat.le_of_ble_eq_true rfl) dUA_search_83 ?_
        clear hz
        refine j_if_eq X (tgt := 120) rfl dUA_search_86 (by decide) hf (fun hf => ?_) (fun hf => ?_)
        · refine j_iinc X (y := l5 + 1) (lv' := [(5, bz_i (l5 + 1)), (4, bz_i l4), (3, bz_i l3), (0, bz_rf E 77), (1, bz_rf E 1), (2, bz_rf E 53)]) dUA_search_120 0 rfl rfl (by decide) rfl ?_
          refine j_goto X (tgt := 60) dUA_search_123 (by decide) ?_
          exact ih _ _ hf
        · refine j_aload_n X dUA_search_89 rfl 3 rfl ?_
          refine j_aload_n X dUA_search_90 rfl 3 rfl ?_
          refine j_geti X gf_UA_37_77 dUA_search_91 ?_
          refine j_iconst X dUA_search_94 ?_
          obtain ⟨resJ5, hf0, hkJ5⟩ := q_l1 hf
          have J5 : ∀ (v6 : Int), some v6 = some resJ5 → bz_J K 6 107 [(5, bz_i l5), (4, bz_i l4), (3, bz_i l3), (0, bz_rf E 77), (1, bz_rf E 1), (2, bz_rf E 53)] [bz_i v6, bz_rf E 77] m3 := by
            intro v6 he
            have hf := hkJ5 _ he
            refine j_puti X pf_UA_37_77 dUA_search_107 hf (fun m7 hf => ?_)
            refine j_aload_n X dUA_search_110 rfl 3 rfl ?_
            refine j_dup X dUA_search_111 rfl ?_
            refine j_geti X gf_UA_40_77 dUA_search_112 ?_
            refine j_iconst X dUA_search_115 ?_
            refine j_iadd X dUA_search_116 ?_
            refine j_puti X pf_UA_40_77 dUA_search_117 hf (fun m8 hf => ?_)
            show bz_J _ _ 120 _ _ _
            refine j_iinc X (y := l5 + 1) (lv' := [(5, bz_i (l5 + 1)), (4, bz_i l4), (3, bz_i l3), (0, bz_rf E 77), (1, bz_rf E 1), (2, bz_rf E 53)]) dUA_search_120 0 rfl rfl (by decide) rfl ?_
            refine j_goto X (tgt := 60) dUA_search_123 (by decide) ?_
            exact ih _ _ hf
          clear hf
          have hf := hf0
          clear hf0
          refine j_icmp_ne X (tgt := 103) rfl (w32_lit rfl) dUA_search_95 (by decide) hf (fun hf => ?_) (fun hf => ?_)
          · refine j_aload_n X dUA_search_103 rfl 3 rfl ?_
            refine j_geti X gf_UA_37_77 dUA_search_104 ?_
            exact J5 _ hf
          · refine j_iload X dUA_search_98 0 rfl ?_
            refine j_goto X (tgt := 107) dUA_search_100 (by decide) ?_
            exact J5 _ hf
theorem lUA_search_L43 (E : bz_E) (F : Nat) {K : bz_K} {rv : Option Value} {M1 : bz_Mm} (X : bz_X K E prog_2_method_3_code 6 "UnitsWrong$Audits" none 6 146 rv M1) {l3 : Int} {res : (bz_Mm)}
    (kx : ∀ (M : bz_Mm), some M = some res → bz_J K 6 132 [(0, bz_rf E 77), (1, bz_rf E 1)] [] M) :
    ∀ (n : Nat) (l4 : Int) (M : bz_Mm), UA_search_L43 F n l3 l4 M = some res → bz_J K 6 43 [(4, bz_i l4), (3, bz_i l3), (0, bz_rf E 77), (1, bz_rf E 1), (2, bz_rf E 53)] [] M := by
  intro n
  induction n with
  | zero => intro l4 M hf; cases hf
  | succ n ih =>
    intro l4 M hf
    rw [UA_search_L43] at hf
    refine j_iload X dUA_search_43 0 rfl ?_
    refine j_iload_n X dUA_search_45 rfl 1 rfl ?_
    refine j_icmp_gt X (tgt := 132) rfl rfl dUA_search_46 (by decide) hf (fun hf => ?_) (fun hf => ?_)
    · exact j_sub [2, 3] rfl (kx _ hf)
    · refine j_aload_n X dUA_search_49 rfl 2 rfl ?_
      refine j_geti X gf_UA_37_77 dUA_search_50 ?_
      refine j_iconst X dUA_search_53 ?_
      refine j_icmp_ne X (tgt := 132) rfl (w32_lit rfl) dUA_search_54 (by decide) hf (fun hf => ?_) (fun hf => ?_)
      · exact j_sub [2, 3] rfl (kx _ hf)
      · refine j_iconst X dUA_search_57 ?_
        refine j_istore X (lv' := [(5, bz_i 0), (4, bz_i l4), (3, bz_i l3), (0, bz_rf E 77), (1, bz_rf E 1), (2, bz_rf E 53)]) dUA_search_58 (by decide) rfl ?_
        obtain ⟨res10, hz10, hk10⟩ := q_l1 hf
        clear hf
        refine lUA_search_L60 E F X (fun m9 he => ?_) F 0 M hz10
        have hf := hk10 _ he
        refine j_iinc X (y := l4 + 1) (lv' := [(4, bz_i (l4 + 1)), (3, bz_i l3), (0, bz_rf E 77), (1, bz_rf E 1), (2, bz_rf E 53)]) dUA_search_126 0 rfl rfl (by decide) rfl ?_
        refine j_goto X (tgt := 43) dUA_search_129 (by decide) ?_
        exact ih _ _ hf
theorem lUA_search_L60a (E : bz_E) (F : Nat) {K : bz_K} {rv : Option Value} {M1 : bz_Mm} (X : bz_X K E prog_2_method_3_code 6 "UnitsWrong$Audits" none 6 146 rv M1) {l4 : Int} {l3 : Int} {res : (bz_Mm)}
    (kx : ∀ (M : bz_Mm), some M = some res → bz_J K 6 126 [(4, bz_i l4), (3, bz_i l3), (0, bz_rf E 77), (1, bz_rf E 1), (2, bz_rf E 53)] [] M) :
    ∀ (n : Nat) (l5 : Int) (M : bz_Mm), UA_search_L60a F n l4 l3 l5 M = some res → bz_J K 6 60 [(5, bz_i l5), (4, bz_i l4), (3, bz_i l3), (0, bz_rf E 77), (1, bz_rf E 1), (2, bz_rf E 53)] [] M := by
  intro n
  induction n with
  | zero => intro l5 M hf; cases hf
  | succ n ih =>
    intro l5 M hf
    rw [UA_search_L60a] at hf
    refine j_iload X dUA_search_60 0 rfl ?_
    refine j_iconst X dUA_search_62 ?_
    refine j_iload_n X dUA_search_63 rfl 2 rfl ?_
    refine j_ishl X dUA_search_64 ?_
    refine j_icmp_ge X (tgt := 126) rfl rfl dUA_search_65 (by decide) hf (fun hf => ?_) (fun hf => ?_)
    · exact j_sub [1, 2, 3, 4, 5] rfl (kx _ hf)
    · refine j_iload X dUA_search_68 0 rfl ?_
      refine j_cs X (st := []) (cJI_bitCount E) gyJI_bitCount wd_1056 rfl (by decide) (by decide) wd_1055 rfl (Nat.le_of_ble_eq_true rfl) dUA_search_70 ?_
      refine j_iload X dUA_search_73 1 rfl ?_
      refine j_icmp_ne X (tgt := 120) rfl rfl dUA_search_75 (by decide) hf (fun hf => ?_) (fun hf => ?_)
      · refine j_iinc X (y := l5 + 1) (lv' := [(5, bz_i (l5 + 1)), (4, bz_i l4), (3, bz_i l3), (0, bz_rf E 77), (1, bz_rf E 1), (2, bz_rf E 53)]) dUA_search_120 0 rfl rfl (by decide) rfl ?_
        refine j_goto X (tgt := 60) dUA_search_123 (by decide) ?_
        exact ih _ _ hf
      · refine j_aload_n X dUA_search_78 rfl 3 rfl ?_
        refine j_aload_n X dUA_search_79 rfl 4 rfl ?_
        refine j_aload_n X dUA_search_80 rfl 5 rfl ?_
        refine j_iload X dUA_search_81 0 rfl ?_
        obtain ⟨x18, m17, hz, hf⟩ := q_cl2 hf
        refine j_cv X (st := []) (cUA_explains E F hz) gyUA_explains gv_UA_explains_77 rfl (by decide) (by decide) wd_1061 rfl (Nat.le_of_ble_eq_true rfl) dUA_search_83 ?_
        clear hz
        refine j_if_eq X (tgt := 120) rfl dUA_search_86 (by decide) hf (fun hf => ?_) (fun hf => ?_)
        · refine j_iinc X (y := l5 + 1) (lv' := [(5, bz_i (l5 + 1)), (4, bz_i l4), (3, bz_i l3), (0, bz_rf E 77), (1, bz_rf E 1), (2, bz_rf E 53)]) dUA_search_120 0 rfl rfl (by decide) rfl ?_
          refine j_goto X (tgt := 60) dUA_search_123 (by decide) ?_
          exact ih _ _ hf
        · refine j_aload_n X dUA_search_89 rfl 3 rfl ?_
          refine j_aload_n X dUA_search_90 rfl 3 rfl ?_
          refine j_geti X gf_UA_37_77 dUA_search_91 ?_
          refine j_iconst X dUA_search_94 ?_
          obtain ⟨resJ19, hf0, hkJ19⟩ := q_l1 hf
          have J19 : ∀ (v20 : Int), some v20 = some resJ19 → bz_J K 6 107 [(5, bz_i l5), (4, bz_i l4), (3, bz_i l3), (0, bz_rf E 77), (1, bz_rf E 1), (2, bz_rf E 53)] [bz_i v20, bz_rf E 77] m17 := by
            intro v20 he
            have hf := hkJ19 _ he
            refine j_puti X pf_UA_37_77 dUA_search_107 hf (fun m21 hf => ?_)
            refine j_aload_n X dUA_search_110 rfl 3 rfl ?_
            refine j_dup X dUA_search_111 rfl ?_
            refine j_geti X gf_UA_40_77 dUA_search_112 ?_
            refine j_iconst X dUA_search_115 ?_
            refine j_iadd X dUA_search_116 ?_
            refine j_puti X pf_UA_40_77 dUA_search_117 hf (fun m22 hf => ?_)
            show bz_J _ _ 120 _ _ _
            refine j_iinc X (y := l5 + 1) (lv' := [(5, bz_i (l5 + 1)), (4, bz_i l4), (3, bz_i l3), (0, bz_rf E 77), (1, bz_rf E 1), (2, bz_rf E 53)]) dUA_search_120 0 rfl rfl (by decide) rfl ?_
            refine j_goto X (tgt := 60) dUA_search_123 (by decide) ?_
            exact ih _ _ hf
          clear hf
          have hf := hf0
          clear hf0
          refine j_icmp_ne X (tgt := 103) rfl (w32_lit rfl) dUA_search_95 (by decide) hf (fun hf => ?_) (fun hf => ?_)
          · refine j_aload_n X dUA_search_103 rfl 3 rfl ?_
            refine j_geti X gf_UA_37_77 dUA_search_104 ?_
            exact J19 _ hf
          · refine j_iload X dUA_search_98 0 rfl ?_
            refine j_goto X (tgt := 107) dUA_search_100 (by decide) ?_
            exact J19 _ hf
theorem lUA_search_L43a (E : bz_E) (F : Nat) {K : bz_K} {rv : Option Value} {M1 : bz_Mm} (X : bz_X K E prog_2_method_3_code 6 "UnitsWrong$Audits" none 6 146 rv M1) {l3 : Int} {res : (bz_Mm)}
    (kx : ∀ (M : bz_Mm), some M = some res → bz_J K 6 132 [(0, bz_rf E 77), (1, bz_rf E 1)] [] M) :
    ∀ (n : Nat) (l4 : Int) (M : bz_Mm), UA_search_L43a F n l3 l4 M = some res → bz_J K 6 43 [(4, bz_i l4), (3, bz_i l3), (0, bz_rf E 77), (1, bz_rf E 1), (2, bz_rf E 53)] [] M := by
  intro n
  induction n with
  | zero => intro l4 M hf; cases hf
  | succ n ih =>
    intro l4 M hf
    rw [UA_search_L43a] at hf
    refine j_iload X dUA_search_43 0 rfl ?_
    refine j_iload_n X dUA_search_45 rfl 1 rfl ?_
    refine j_icmp_gt X (tgt := 132) rfl rfl dUA_search_46 (by decide) hf (fun hf => ?_) (fun hf => ?_)
    · exact j_sub [2, 3] rfl (kx _ hf)
    · refine j_aload_n X dUA_search_49 rfl 2 rfl ?_
      refine j_geti X gf_UA_37_77 dUA_search_50 ?_
      refine j_iconst X dUA_search_53 ?_
      refine j_icmp_ne X (tgt := 132) rfl (w32_lit rfl) dUA_search_54 (by decide) hf (fun hf => ?_) (fun hf => ?_)
      · exact j_sub [2, 3] rfl (kx _ hf)
      · refine j_iconst X dUA_search_57 ?_
        refine j_istore X (lv' := [(5, bz_i 0), (4, bz_i l4), (3, bz_i l3), (0, bz_rf E 77), (1, bz_rf E 1), (2, bz_rf E 53)]) dUA_search_58 (by decide) rfl ?_
        obtain ⟨res24, hz24, hk24⟩ := q_l1 hf
        clear hf
        refine lUA_search_L60a E F X (fun m23 he => ?_) F 0 M hz24
        have hf := hk24 _ he
        refine j_iinc X (y := l4 + 1) (lv' := [(4, bz_i (l4 + 1)), (3, bz_i l3), (0, bz_rf E 77), (1, bz_rf E 1), (2, bz_rf E 53)]) dUA_search_126 0 rfl rfl (by decide) rfl ?_
        refine j_goto X (tgt := 43) dUA_search_129 (by decide) ?_
        exact ih _ _ hf
def fUA_search (F : Nat) (M : bz_Mm) : Option (bz_Mm) :=
  if w32 (M 77 4) = 0 then
  (wf_ M 77 5 ((-1)) fun m1 =>
  wf_ m1 77 6 ((-1)) fun m2 =>
  lt_ (m2 17 2) fun l3 =>
  cl1_ (UA_search_L43 F F l3 0 m2) fun m11 =>
  wf_ m11 77 4 1 fun m12 =>
  wf_ m12 77 7 (m12 1 17) fun m13 =>
  some m13)
  else
  (if w32 (M 77 7) = w32 (M 1 17) then
  (some M)
  else
  (wf_ M 77 5 ((-1)) fun m15 =>
  wf_ m15 77 6 ((-1)) fun m16 =>
  lt_ (m16 17 2) fun l3 =>
  cl1_ (UA_search_L43a F F l3 0 m16) fun m25 =>
  wf_ m25 77 4 1 fun m26 =>
  wf_ m26 77 7 (m26 1 17) fun m27 =>
  some m27))
set_option maxHeartbeats 4000000 in
set_option maxRecDepth 20000 in
theorem cUA_search (E : bz_E) (F : Nat)  {M : bz_Mm} {x0 : bz_Mm} (hf : fUA_search F M = some x0) : bz_Ct E yUA_search (.code yUA_search prog_2_method_3_code 6 none) 6 146 [bz_rf E 77, bz_rf E 1, bz_rf E 53] M (none) x0 := by
  refine bz_met (by decide +kernel) (Nat.le_of_ble_eq_true rfl) (fun K X => ?_)
  have X : bz_X K E prog_2_method_3_code 6 "UnitsWrong$Audits" none 6 146 _ _ := X
  unfold fUA_search at hf
  show bz_J K 6 0 [(0, bz_rf E 77), (1, bz_rf E 1), (2, bz_rf E 53)] [] M
  refine j_aload_n X dUA_search_0 rfl 0 rfl ?_
  refine j_getz X gf_UA_25_77 dUA_search_1 ?_
  refine j_if_eq X (tgt := 19) rfl dUA_search_4 (by decide) hf (fun hf => ?_) (fun hf => ?_)
  · refine j_aload_n X dUA_search_19 rfl 0 rfl ?_
    refine j_iconst X dUA_search_20 ?_
    refine j_puti X pf_UA_37_77 dUA_search_21 hf (fun m1 hf => ?_)
    refine j_aload_n X dUA_search_24 rfl 0 rfl ?_
    refine j_iconst X dUA_search_25 ?_
    refine j_puti X pf_UA_40_77 dUA_search_26 hf (fun m2 hf => ?_)
    refine j_aload_n X dUA_search_29 rfl 1 rfl ?_
    show bz_J _ _ 30 _ _ _
    refine j_geta X gf_UA_43_1 dUA_search_30 ?_
    refine j_geta X gf_UA_47_16 dUA_search_33 ?_
    refine j_geti X gf_UA_53_17 dUA_search_36 ?_
    refine j_lt (g := bz_i) hf (fun l3 hf => ?_)
    refine j_istore_n X (lv' := [(3, bz_i l3), (0, bz_rf E 77), (1, bz_rf E 1), (2, bz_rf E 53)]) dUA_search_39 rfl (by decide) rfl ?_
    refine j_iconst X dUA_search_40 ?_
    refine j_istore X (lv' := [(4, bz_i 0), (3, bz_i l3), (0, bz_rf E 77), (1, bz_rf E 1), (2, bz_rf E 53)]) dUA_search_41 (by decide) rfl ?_
    obtain ⟨res14, hz14, hk14⟩ := q_l1 hf
    clear hf
    refine lUA_search_L43 E F X (fun m11 he => ?_) F 0 m2 hz14
    have hf := hk14 _ he
    refine j_aload_n X dUA_search_132 rfl 0 rfl ?_
    refine j_iconst X dUA_search_133 ?_
    refine j_putz X pf_UA_25_77 (by decide +kernel) (by decide +kernel) dUA_search_134 hf (fun m12 hf => ?_)
    refine j_aload_n X dUA_search_137 rfl 0 rfl ?_
    refine j_aload_n X dUA_search_138 rfl 1 rfl ?_
    refine j_geti X gf_UA_32_1 dUA_search_139 ?_
    refine j_puti X pf_UA_29_77 dUA_search_142 hf (fun m13 hf => ?_)
    show bz_J _ _ 145 _ _ _
    cases hf
    exact j_vret X dUA_search_145 rfl rfl
  · refine j_aload_n X dUA_search_7 rfl 0 rfl ?_
    refine j_geti X gf_UA_29_77 dUA_search_8 ?_
    refine j_aload_n X dUA_search_11 rfl 1 rfl ?_
    refine j_geti X gf_UA_32_1 dUA_search_12 ?_
    refine j_icmp_ne X (tgt := 19) rfl rfl dUA_search_15 (by decide) hf (fun hf => ?_) (fun hf => ?_)
    · refine j_aload_n X dUA_search_19 rfl 0 rfl ?_
      refine j_iconst X dUA_search_20 ?_
      refine j_puti X pf_UA_37_77 dUA_search_21 hf (fun m15 hf => ?_)
      refine j_aload_n X dUA_search_24 rfl 0 rfl ?_
      refine j_iconst X dUA_search_25 ?_
      refine j_puti X pf_UA_40_77 dUA_search_26 hf (fun m16 hf => ?_)
      refine j_aload_n X dUA_search_29 rfl 1 rfl ?_
      show bz_J _ _ 30 _ _ _
      refine j_geta X gf_UA_43_1 dUA_search_30 ?_
      refine j_geta X gf_UA_47_16 dUA_search_33 ?_
      refine j_geti X gf_UA_53_17 dUA_search_36 ?_
      refine j_lt (g := bz_i) hf (fun l3 hf => ?_)
      refine j_istore_n X (lv' := [(3, bz_i l3), (0, bz_rf E 77), (1, bz_rf E 1), (2, bz_rf E 53)]) dUA_search_39 rfl (by decide) rfl ?_
      refine j_iconst X dUA_search_40 ?_
      refine j_istore X (lv' := [(4, bz_i 0), (3, bz_i l3), (0, bz_rf E 77), (1, bz_rf E 1), (2, bz_rf E 53)]) dUA_search_41 (by decide) rfl ?_
      obtain ⟨res28, hz28, hk28⟩ := q_l1 hf
      clear hf
      refine lUA_search_L43a E F X (fun m25 he => ?_) F 0 m16 hz28
      have hf := hk28 _ he
      refine j_aload_n X dUA_search_132 rfl 0 rfl ?_
      refine j_iconst X dUA_search_133 ?_
      refine j_putz X pf_UA_25_77 (by decide +kernel) (by decide +kernel) dUA_search_134 hf (fun m26 hf => ?_)
      refine j_aload_n X dUA_search_137 rfl 0 rfl ?_
      refine j_aload_n X dUA_search_138 rfl 1 rfl ?_
      refine j_geti X gf_UA_32_1 dUA_search_139 ?_
      refine j_puti X pf_UA_29_77 dUA_search_142 hf (fun m27 hf => ?_)
      show bz_J _ _ 145 _ _ _
      cases hf
      exact j_vret X dUA_search_145 rfl rfl
    · cases hf
      exact j_vret X dUA_search_18 rfl rfl
def fU_explain (F : Nat) (M : bz_Mm) : Option (Int × bz_Mm) :=
  cl_ (fUA_search F M) fun m1 =>
  some ((m1 77 5, m1))
set_option maxHeartbeats 4000000 in
set_option maxRecDepth 20000 in
theorem cU_explain (E : bz_E) (F : Nat)  {M : bz_Mm} {x0 : Int × bz_Mm} (hf : fU_explain F M = some x0) : bz_Ct E yU_explain (.code yU_explain prog_1_method_34_code 1 (some .int)) 7 171 [bz_rf E 0] M (some (bz_i x0.1)) x0.2 := by
  refine bz_met (by decide +kernel) (Nat.le_of_ble_eq_true rfl) (fun K X => ?_)
  have X : bz_X K E prog_1_method_34_code 1 "UnitsWrong" (some .int) 7 171 _ _ := X
  unfold fU_explain at hf
  show bz_J K 1 0 [(0, bz_rf E 0)] [] M
  refine j_aload_n X dU_explain_0 rfl 0 rfl ?_
  refine j_geta X gf_U_47_0 dU_explain_1 ?_
  refine j_aload_n X dU_explain_4 rfl 0 rfl ?_
  refine j_geta X gf_U_10_0 dU_explain_5 ?_
  refine j_aload_n X dU_explain_8 rfl 0 rfl ?_
  refine j_geta X gf_U_26_0 dU_explain_9 ?_
  obtain ⟨m1, hz, hf⟩ := q_cl hf
  refine j_cv X (st := []) (cUA_search E F hz) gyUA_search gv_UA_search_77 rfl (by decide) (by decide) wd_1051 rfl (Nat.le_of_ble_eq_true rfl) dU_explain_12 ?_
  clear hz
  show bz_J _ _ 15 _ _ _
  refine j_aload_n X dU_explain_15 rfl 0 rfl ?_
  refine j_geta X gf_U_47_0 dU_explain_16 ?_
  refine j_geti X gf_U_314_77 dU_explain_19 ?_
  cases hf
  exact j_iret X dU_explain_22 rfl rfl
def fU_rivals (F : Nat) (M : bz_Mm) : Option (Int × bz_Mm) :=
  cl_ (fUA_search F M) fun m1 =>
  some ((m1 77 6, m1))
set_option maxHeartbeats 4000000 in
set_option maxRecDepth 20000 in
theorem cU_rivals (E : bz_E) (F : Nat)  {M : bz_Mm} {x0 : Int × bz_Mm} (hf : fU_rivals F M = some x0) : bz_Ct E yU_rivals (.code yU_rivals prog_1_method_35_code 1 (some .int)) 7 171 [bz_rf E 0] M (some (bz_i x0.1)) x0.2 := by
  refine bz_met (by decide +kernel) (Nat.le_of_ble_eq_true rfl) (fun K X => ?_)
  have X : bz_X K E prog_1_method_35_code 1 "UnitsWrong" (some .int) 7 171 _ _ := X
  unfold fU_rivals at hf
  show bz_J K 1 0 [(0, bz_rf E 0)] [] M
  refine j_aload_n X dU_rivals_0 rfl 0 rfl ?_
  refine j_geta X gf_U_47_0 dU_rivals_1 ?_
  refine j_aload_n X dU_rivals_4 rfl 0 rfl ?_
  refine j_geta X gf_U_10_0 dU_rivals_5 ?_
  refine j_aload_n X dU_rivals_8 rfl 0 rfl ?_
  refine j_geta X gf_U_26_0 dU_rivals_9 ?_
  obtain ⟨m1, hz, hf⟩ := q_cl hf
  refine j_cv X (st := []) (cUA_search E F hz) gyUA_search gv_UA_search_77 rfl (by decide) (by decide) wd_1051 rfl (Nat.le_of_ble_eq_true rfl) dU_rivals_12 ?_
  clear hz
  show bz_J _ _ 15 _ _ _
  refine j_aload_n X dU_rivals_15 rfl 0 rfl ?_
  refine j_geta X gf_U_47_0 dU_rivals_16 ?_
  refine j_geti X gf_U_317_77 dU_rivals_19 ?_
  cases hf
  exact j_iret X dU_rivals_22 rfl rfl
def U_alarm_L29 (F : Nat) : Nat → bz_Mm → Int → Int → Int → Int → Option (Int ⊕ (Int))
  | 0, _, _, _, _, _ => none
  | n + 1, M, l1, l2, l4, l3 =>
    if w32 l4 < w32 (M 1 13) then
    (if w32 l4 < 260 then
    (cl_ (fUS_isOpen F M l4) fun x1 =>
    if w32 x1 = 0 then
    (U_alarm_L29 F n M l1 l2 (l4 + 1) l3)
    else
    (rd_ M 48 (fU_slot l1 l4) 1040 fun x2 =>
    if w32 l3 = (-1) then
    (U_alarm_L29 F n M l1 l2 (l4 + 1) x2)
    else
    (if w64 ((w32 l2) * (w32 l3)) < w64 (10000 * (w32 (fJM_abs0 (x2 - l3)))) then
    (some (.inl l4))
    else
    (U_alarm_L29 F n M l1 l2 (l4 + 1) x2))))
    else
    (some (.inr 0)))
    else
    (some (.inr 0))
theorem lU_alarm_L29 (E : bz_E) (F : Nat) {K : bz_K} {rv : Option Value} {M1 : bz_Mm} (X : bz_X K E prog_1_method_36_code 6 "UnitsWrong" (some .int) 2 41 rv M1) {M : bz_Mm} {l1 : Int} {l2 : Int} {res : (Int ⊕ (Int))}
    (kx : ∀ (_u : Int), some (.inr _u) = some res → bz_J K 6 118 [] [] M) (kr : ∀ b : Int, some (.inl b) = some res → some (bz_i b) = rv ∧ M = M1) :
    ∀ (n : Nat) (l4 : Int) (l3 : Int), U_alarm_L29 F n M l1 l2 l4 l3 = some res → bz_J K 6 29 [(4, bz_i l4), (3, bz_i l3), (0, bz_rf E 0), (1, bz_i l1), (2, bz_i l2)] [] M := by
  intro n
  induction n with
  | zero => intro l4 l3 hf; cases hf
  | succ n ih =>
    intro l4 l3 hf
    rw [U_alarm_L29] at hf
    refine j_iload X dU_alarm_29 0 rfl ?_
    refine j_aload_n X dU_alarm_31 rfl 2 rfl ?_
    refine j_geta X gf_U_10_0 dU_alarm_32 ?_
    refine j_geti X gf_U_51_1 dU_alarm_35 ?_
    refine j_icmp_ge X (tgt := 118) rfl rfl dU_alarm_38 (by decide) hf (fun hf => ?_) (fun hf => ?_)
    · exact j_sub [] rfl (kx _ hf)
    · refine j_iload X dU_alarm_41 0 rfl ?_
      refine j_sipush X dU_alarm_43 rfl ?_
      refine j_icmp_ge X (tgt := 118) rfl (w32_lit rfl) dU_alarm_46 (by decide) hf (fun hf => ?_) (fun hf => ?_)
      · exact j_sub [] rfl (kx _ hf)
      · refine j_aload_n X dU_alarm_49 rfl 2 rfl ?_
        refine j_geta X gf_U_10_0 dU_alarm_50 ?_
        refine j_iload X dU_alarm_53 0 rfl ?_
        obtain ⟨x1, hzx1, hf⟩ := q_cl hf
        refine j_cv X (st := []) (cUS_isOpen E F hzx1) gyUS_isOpen gv_US_isOpen_1 rfl (by decide) (by decide) wd_541 rfl (Nat.le_of_ble_eq_true rfl) dU_alarm_55 ?_
        refine j_if_ne X (tgt := 64) rfl dU_alarm_58 (by decide) hf (fun hf => ?_) (fun hf => ?_)
        · refine j_aload_n X dU_alarm_64 rfl 2 rfl ?_
          refine j_geta X gf_U_10_0 dU_alarm_65 ?_
          refine j_geta X gf_U_201_1 dU_alarm_68 ?_
          refine j_iload_n X dU_alarm_71 rfl 3 rfl ?_
          refine j_iload X dU_alarm_72 0 rfl ?_
          refine j_cs X (st := [bz_rf E 48]) (cU_slot E) gyU_slot wd_853 rfl (by decide) (by decide) wd_906 rfl (Nat.le_of_ble_eq_true rfl) dU_alarm_74 ?_
          refine j_iald X sh_48 dU_alarm_77 hf (fun x2 hf => ?_)
          show bz_J _ _ 78 _ _ _
          refine j_istore X (lv' := [(5, bz_i x2), (4, bz_i l4), (3, bz_i l3), (0, bz_rf E 0), (1, bz_i l1), (2, bz_i l2)]) dU_alarm_78 (by decide) rfl ?_
          refine j_iload_n X dU_alarm_80 rfl 2 rfl ?_
          refine j_iconst X dU_alarm_81 ?_
          refine j_icmp_eq X (tgt := 109) rfl (w32_lit rfl) dU_alarm_82 (by decide) hf (fun hf => ?_) (fun hf => ?_)
          · refine j_iload X dU_alarm_109 0 rfl ?_
            refine j_istore_n X (lv' := [(3, bz_i x2), (5, bz_i x2), (4, bz_i l4), (0, bz_rf E 0), (1, bz_i l1), (2, bz_i l2)]) dU_alarm_111 rfl (by decide) rfl ?_
            refine j_iinc X (y := l4 + 1) (lv' := [(4, bz_i (l4 + 1)), (3, bz_i x2), (5, bz_i x2), (0, bz_rf E 0), (1, bz_i l1), (2, bz_i l2)]) dU_alarm_112 2 rfl rfl (by decide) rfl ?_
            refine j_goto X (tgt := 29) dU_alarm_115 (by decide) ?_
            exact j_sub [0, 1, 3, 4, 5] rfl (ih _ _ hf)
          · refine j_ldc2 X (v := 10000) wd_1082 dU_alarm_85 ?_
            refine j_iload X dU_alarm_88 0 rfl ?_
            refine j_iload_n X dU_alarm_90 rfl 2 rfl ?_
            refine j_isub X dU_alarm_91 ?_
            refine j_cs X (st := [bz_l 10000]) (cJM_abs0 E) gyJM_abs0 wd_946 rfl (by decide) (by decide) wd_1083 rfl (Nat.le_of_ble_eq_true rfl) dU_alarm_92 ?_
            refine j_i2l X rfl dU_alarm_95 ?_
            refine j_lmul X dU_alarm_96 ?_
            show bz_J _ _ 97 _ _ _
            refine j_iload_n X dU_alarm_97 rfl 5 rfl ?_
            refine j_i2l X rfl dU_alarm_98 ?_
            refine j_iload_n X dU_alarm_99 rfl 2 rfl ?_
            refine j_i2l X rfl dU_alarm_100 ?_
            refine j_lmul X dU_alarm_101 ?_
            refine j_lcmp_le X (tgt := 109) rfl rfl dU_alarm_102 dU_alarm_103 (by decide) hf (fun hf => ?_) (fun hf => ?_)
            · refine j_iload X dU_alarm_109 0 rfl ?_
              refine j_istore_n X (lv' := [(3, bz_i x2), (5, bz_i x2), (4, bz_i l4), (0, bz_rf E 0), (1, bz_i l1), (2, bz_i l2)]) dU_alarm_111 rfl (by decide) rfl ?_
              refine j_iinc X (y := l4 + 1) (lv' := [(4, bz_i (l4 + 1)), (3, bz_i x2), (5, bz_i x2), (0, bz_rf E 0), (1, bz_i l1), (2, bz_i l2)]) dU_alarm_112 2 rfl rfl (by decide) rfl ?_
              refine j_goto X (tgt := 29) dU_alarm_115 (by decide) ?_
              exact j_sub [0, 1, 3, 4, 5] rfl (ih _ _ hf)
            · refine j_iload X dU_alarm_106 1 rfl ?_
              exact j_iret X dU_alarm_108 (kr _ hf).1 (kr _ hf).2
        · refine j_goto X (tgt := 112) dU_alarm_61 (by decide) ?_
          refine j_iinc X (y := l4 + 1) (lv' := [(4, bz_i (l4 + 1)), (3, bz_i l3), (0, bz_rf E 0), (1, bz_i l1), (2, bz_i l2)]) dU_alarm_112 0 rfl rfl (by decide) rfl ?_
          refine j_goto X (tgt := 29) dU_alarm_115 (by decide) ?_
          exact ih _ _ hf
def fU_alarm (F : Nat) (M : bz_Mm) (a1 : Int) (a2 : Int) : Option (Int) :=
  if w32 (fUS_isFund M a1) = 0 then
  (some ((-1)))
  else
  (if w32 a2 < 0 then
  (some ((-1)))
  else
  (if 10000 < w32 a2 then
  (some ((-1)))
  else
  (cs1_ (U_alarm_L29 F F M a1 a2 0 ((-1))) (fun b => some b) fun _u =>
  some ((-1)))))
set_option maxHeartbeats 4000000 in
set_option maxRecDepth 20000 in
theorem cU_alarm (E : bz_E) (F : Nat)  {M : bz_Mm} {a1 : Int} {a2 : Int} {x0 : Int} (hf : fU_alarm F M a1 a2 = some x0) : bz_Ct E yU_alarm (.code yU_alarm prog_1_method_36_code 6 (some .int)) 2 41 [bz_rf E 0, bz_i a1, bz_i a2] M (some (bz_i x0)) M := by
  refine bz_met (by decide +kernel) (Nat.le_of_ble_eq_true rfl) (fun K X => ?_)
  have X : bz_X K E prog_1_method_36_code 6 "UnitsWrong" (some .int) 2 41 _ _ := X
  unfold fU_alarm at hf
  show bz_J K 6 0 [(0, bz_rf E 0), (1, bz_i a1), (2, bz_i a2)] [] M
  refine j_aload_n X dU_alarm_0 rfl 0 rfl ?_
  refine j_geta X gf_U_10_0 dU_alarm_1 ?_
  refine j_iload_n X dU_alarm_4 rfl 1 rfl ?_
  refine j_cv X (st := []) (cUS_isFund E) gyUS_isFund gv_US_isFund_1 rfl (by decide) (by decide) wd_584 rfl (Nat.le_of_ble_eq_true rfl) dU_alarm_5 ?_
  refine j_if_eq X (tgt := 22) rfl dU_alarm_8 (by decide) hf (fun hf => ?_) (fun hf => ?_)
  · refine j_iconst X dU_alarm_22 ?_
    cases hf
    exact j_iret X dU_alarm_23 rfl rfl
  · refine j_iload_n X dU_alarm_11 rfl 2 rfl ?_
    refine j_if_lt X (tgt := 22) rfl dU_alarm_12 (by decide) hf (fun hf => ?_) (fun hf => ?_)
    · refine j_iconst X dU_alarm_22 ?_
      cases hf
      exact j_iret X dU_alarm_23 rfl rfl
    · refine j_iload_n X dU_alarm_15 rfl 2 rfl ?_
      refine j_sipush X dU_alarm_16 rfl ?_
      refine j_icmp_le X (tgt := 24) rfl (w32_lit rfl) dU_alarm_19 (by decide) hf (fun hf => ?_) (fun hf => ?_)
      · refine j_iconst X dU_alarm_24 ?_
        refine j_istore_n X (lv' := [(3, bz_i ((-1))), (0, bz_rf E 0), (1, bz_i a1), (2, bz_i a2)]) dU_alarm_25 rfl (by decide) rfl ?_
        refine j_iconst X dU_alarm_26 ?_
        refine j_istore X (lv' := [(4, bz_i 0), (3, bz_i ((-1))), (0, bz_rf E 0), (1, bz_i a1), (2, bz_i a2)]) dU_alarm_27 (by decide) rfl ?_
        obtain ⟨res3, hz3, hk3, hr3⟩ := q_s1 hf
        clear hf
        refine lU_alarm_L29 E F X (fun _u he => ?_) (fun b he => ?_) F 0 ((-1)) hz3
        · have hf := hk3 _ he
          refine j_iconst X dU_alarm_118 ?_
          cases hf
          exact j_iret X dU_alarm_119 rfl rfl
        · have hf := hr3 _ he
          cases hf
          exact ⟨rfl, rfl⟩
      · refine j_iconst X dU_alarm_22 ?_
        cases hf
        exact j_iret X dU_alarm_23 rfl rfl
def UQ_sumAboveZero_L5 (F : Nat) : Nat → bz_Mm → Int → Int → Option (Int)
  | 0, _, _, _ => none
  | n + 1, M, l4, l2 =>
    if w32 l4 < 24 then
    (cl_ (fUQ_sumOf F M l4) fun x1 =>
    lt_ (l2 + (fJM_max1 0 x1)) fun l2 =>
    UQ_sumAboveZero_L5 F n M (l4 + 1) l2)
    else
    (some l2)
theorem lUQ_sumAboveZero_L5 (E : bz_E) (F : Nat) {K : bz_K} {rv : Option Value} {M1 : bz_Mm} (X : bz_X K E prog_4_method_8_code 5 "UnitsWrong$Claims" (some .long) 2 49 rv M1) {M : bz_Mm} {res : (Int)}
    (kx : ∀ (l2 : Int), some l2 = some res → bz_J K 5 32 [(2, bz_l l2)] [] M) :
    ∀ (n : Nat) (l4 : Int) (l2 : Int), UQ_sumAboveZero_L5 F n M l4 l2 = some res → bz_J K 5 5 [(4, bz_i l4), (2, bz_l l2), (0, bz_rf E 65), (1, bz_rf E 1)] [] M := by
  intro n
  induction n with
  | zero => intro l4 l2 hf; cases hf
  | succ n ih =>
    intro l4 l2 hf
    rw [UQ_sumAboveZero_L5] at hf
    refine j_iload X dUQ_sumAboveZero_5 0 rfl ?_
    refine j_bipush X dUQ_sumAboveZero_7 rfl ?_
    refine j_icmp_ge X (tgt := 32) rfl (w32_lit rfl) dUQ_sumAboveZero_9 (by decide) hf (fun hf => ?_) (fun hf => ?_)
    · exact j_sub [1] rfl (kx _ hf)
    · refine j_lload_n X dUQ_sumAboveZero_12 rfl 1 rfl ?_
      refine j_lconst X (v := 0) dUQ_sumAboveZero_13 rfl ?_
      refine j_aload_n X dUQ_sumAboveZero_14 rfl 2 rfl ?_
      refine j_aload_n X dUQ_sumAboveZero_15 rfl 3 rfl ?_
      refine j_iload X dUQ_sumAboveZero_16 0 rfl ?_
      obtain ⟨x1, hzx1, hf⟩ := q_cl hf
      refine j_cv X (st := [bz_l 0, bz_l l2]) (cUQ_sumOf E F hzx1) gyUQ_sumOf gv_UQ_sumOf_65 rfl (by decide) (by decide) wd_984 rfl (Nat.le_of_ble_eq_true rfl) dUQ_sumAboveZero_18 ?_
      refine j_cs X (st := [bz_l l2]) (cJM_max1 E) gyJM_max1 wd_837 rfl (by decide) (by decide) wd_975 rfl (Nat.le_of_ble_eq_true rfl) dUQ_sumAboveZero_21 ?_
      show bz_J _ _ 24 _ _ _
      refine j_ladd X dUQ_sumAboveZero_24 ?_
      refine j_lt (g := bz_l) hf (fun l2 hf => ?_)
      refine j_lstore_n X (lv' := [(2, bz_l l2), (4, bz_i l4), (0, bz_rf E 65), (1, bz_rf E 1)]) dUQ_sumAboveZero_25 rfl (by decide) rfl ?_
      refine j_iinc X (y := l4 + 1) (lv' := [(4, bz_i (l4 + 1)), (2, bz_l l2), (0, bz_rf E 65), (1, bz_rf E 1)]) dUQ_sumAboveZero_26 1 rfl rfl (by decide) rfl ?_
      refine j_goto X (tgt := 5) dUQ_sumAboveZero_29 (by decide) ?_
      exact ih _ _ hf
def fUQ_sumAboveZero (F : Nat) (M : bz_Mm) : Option (Int) :=
  cl1_ (UQ_sumAboveZero_L5 F F M 0 0) fun l2 =>
  some l2
set_option maxHeartbeats 4000000 in
set_option maxRecDepth 20000 in
theorem cUQ_sumAboveZero (E : bz_E) (F : Nat)  {M : bz_Mm} {x0 : Int} (hf : fUQ_sumAboveZero F M = some x0) : bz_Ct E yUQ_sumAboveZero (.code yUQ_sumAboveZero prog_4_method_8_code 5 (some .long)) 2 49 [bz_rf E 65, bz_rf E 1] M (some (bz_l x0)) M := by
  refine bz_met (by decide +kernel) (Nat.le_of_ble_eq_true rfl) (fun K X => ?_)
  have X : bz_X K E prog_4_method_8_code 5 "UnitsWrong$Claims" (some .long) 2 49 _ _ := X
  unfold fUQ_sumAboveZero at hf
  show bz_J K 5 0 [(0, bz_rf E 65), (1, bz_rf E 1)] [] M
  refine j_lconst X (v := 0) dUQ_sumAboveZero_0 rfl ?_
  refine j_lstore_n X (lv' := [(2, bz_l 0), (0, bz_rf E 65), (1, bz_rf E 1)]) dUQ_sumAboveZero_1 rfl (by decide) rfl ?_
  refine j_iconst X dUQ_sumAboveZero_2 ?_
  refine j_istore X (lv' := [(4, bz_i 0), (2, bz_l 0), (0, bz_rf E 65), (1, bz_rf E 1)]) dUQ_sumAboveZero_3 (by decide) rfl ?_
  obtain ⟨res2, hz2, hk2⟩ := q_l1 hf
  clear hf
  refine lUQ_sumAboveZero_L5 E F X (fun l2 he => ?_) F 0 0 hz2
  have hf := hk2 _ he
  refine j_lload_n X dUQ_sumAboveZero_32 rfl 0 rfl ?_
  cases hf
  exact j_lret X dUQ_sumAboveZero_33 rfl rfl
def fU_beside (F : Nat) (M : bz_Mm) (a1 : Int) (a2 : Int) : Option (Int × bz_Mm) :=
  if w32 (fUS_isFund M a1) = 0 then
  (some (((-2147483648), M)))
  else
  (if w32 a2 < 0 then
  (some (((-2147483648), M)))
  else
  (if 5000 < w32 a2 then
  (some (((-2147483648), M)))
  else
  (lt_ (fUS_latestKnown M) fun l3 =>
  cl_ (fUC_walkTo F M l3) fun m1 =>
  cl_ (fUQ_gatherBeyond F m1 a1 l3 a2) fun m2 =>
  cl_ (fUQ_sumAboveZero F m2) fun x3 =>
  some ((fU_told x3, m2)))))
set_option maxHeartbeats 4000000 in
set_option maxRecDepth 20000 in
theorem cU_beside (E : bz_E) (F : Nat)  {M : bz_Mm} {a1 : Int} {a2 : Int} {x0 : Int × bz_Mm} (hf : fU_beside F M a1 a2 = some x0) : bz_Ct E yU_beside (.code yU_beside prog_1_method_37_code 4 (some .int)) 6 145 [bz_rf E 0, bz_i a1, bz_i a2] M (some (bz_i x0.1)) x0.2 := by
  refine bz_met (by decide +kernel) (Nat.le_of_ble_eq_true rfl) (fun K X => ?_)
  have X : bz_X K E prog_1_method_37_code 4 "UnitsWrong" (some .int) 6 145 _ _ := X
  unfold fU_beside at hf
  show bz_J K 4 0 [(0, bz_rf E 0), (1, bz_i a1), (2, bz_i a2)] [] M
  refine j_aload_n X dU_beside_0 rfl 0 rfl ?_
  refine j_geta X gf_U_10_0 dU_beside_1 ?_
  refine j_iload_n X dU_beside_4 rfl 1 rfl ?_
  refine j_cv X (st := []) (cUS_isFund E) gyUS_isFund gv_US_isFund_1 rfl (by decide) (by decide) wd_584 rfl (Nat.le_of_ble_eq_true rfl) dU_beside_5 ?_
  refine j_if_eq X (tgt := 22) rfl dU_beside_8 (by decide) hf (fun hf => ?_) (fun hf => ?_)
  · refine j_ldc X (v := -2147483648) wd_571 dU_beside_22 ?_
    cases hf
    exact j_iret X dU_beside_24 rfl rfl
  · refine j_iload_n X dU_beside_11 rfl 2 rfl ?_
    refine j_if_lt X (tgt := 22) rfl dU_beside_12 (by decide) hf (fun hf => ?_) (fun hf => ?_)
    · refine j_ldc X (v := -2147483648) wd_571 dU_beside_22 ?_
      cases hf
      exact j_iret X dU_beside_24 rfl rfl
    · refine j_iload_n X dU_beside_15 rfl 2 rfl ?_
      refine j_sipush X dU_beside_16 rfl ?_
      refine j_icmp_le X (tgt := 25) rfl (w32_lit rfl) dU_beside_19 (by decide) hf (fun hf => ?_) (fun hf => ?_)
      · refine j_aload_n X dU_beside_25 rfl 0 rfl ?_
        refine j_geta X gf_U_10_0 dU_beside_26 ?_
        refine j_cv X (st := []) (cUS_latestKnown E) gyUS_latestKnown gv_US_latestKnown_1 rfl (by decide) (by decide) wd_911 rfl (Nat.le_of_ble_eq_true rfl) dU_beside_29 ?_
        refine j_lt (g := bz_i) hf (fun l3 hf => ?_)
        refine j_istore_n X (lv' := [(3, bz_i l3), (0, bz_rf E 0), (1, bz_i a1), (2, bz_i a2)]) dU_beside_32 rfl (by decide) rfl ?_
        refine j_aload_n X dU_beside_33 rfl 1 rfl ?_
        refine j_geta X gf_U_26_0 dU_beside_34 ?_
        refine j_aload_n X dU_beside_37 rfl 1 rfl ?_
        show bz_J _ _ 38 _ _ _
        refine j_geta X gf_U_10_0 dU_beside_38 ?_
        refine j_iload_n X dU_beside_41 rfl 0 rfl ?_
        obtain ⟨m1, hz, hf⟩ := q_cl hf
        refine j_cv X (st := []) (cUC_walkTo E F hz) gyUC_walkTo gv_UC_walkTo_53 rfl (by decide) (by decide) wd_915 rfl (Nat.le_of_ble_eq_true rfl) dU_beside_42 ?_
        clear hz
        refine j_aload_n X dU_beside_45 rfl 1 rfl ?_
        refine j_geta X gf_U_33_0 dU_beside_46 ?_
        refine j_aload_n X dU_beside_49 rfl 1 rfl ?_
        refine j_geta X gf_U_10_0 dU_beside_50 ?_
        refine j_aload_n X dU_beside_53 rfl 1 rfl ?_
        show bz_J _ _ 54 _ _ _
        refine j_geta X gf_U_26_0 dU_beside_54 ?_
        refine j_iload_n X dU_beside_57 rfl 2 rfl ?_
        refine j_iload_n X dU_beside_58 rfl 0 rfl ?_
        refine j_iload_n X dU_beside_59 rfl 3 rfl ?_
        obtain ⟨m2, hz, hf⟩ := q_cl hf
        refine j_cv X (st := []) (cUQ_gatherBeyond E F hz) gyUQ_gatherBeyond gv_UQ_gatherBeyond_65 rfl (by decide) (by decide) wd_1088 rfl (Nat.le_of_ble_eq_true rfl) dU_beside_60 ?_
        clear hz
        refine j_aload_n X dU_beside_63 rfl 1 rfl ?_
        refine j_geta X gf_U_33_0 dU_beside_64 ?_
        refine j_aload_n X dU_beside_67 rfl 1 rfl ?_
        show bz_J _ _ 68 _ _ _
        refine j_geta X gf_U_10_0 dU_beside_68 ?_
        obtain ⟨x3, hzx3, hf⟩ := q_cl hf
        refine j_cv X (st := []) (cUQ_sumAboveZero E F hzx3) gyUQ_sumAboveZero gv_UQ_sumAboveZero_65 rfl (by decide) (by decide) wd_1089 rfl (Nat.le_of_ble_eq_true rfl) dU_beside_71 ?_
        refine j_cs X (st := []) (cU_told E) gyU_told wd_921 rfl (by decide) (by decide) wd_920 rfl (Nat.le_of_ble_eq_true rfl) dU_beside_74 ?_
        cases hf
        exact j_iret X dU_beside_77 rfl rfl
      · refine j_ldc X (v := -2147483648) wd_571 dU_beside_22 ?_
        cases hf
        exact j_iret X dU_beside_24 rfl rfl
def gUS_isParty (M : bz_Mm) (a1 : Int) : Option Int :=
  if w32 a1 = 40 then
  (some 1)
  else
  (if w32 a1 = 41 then
  (some 1)
  else
  (if w32 (fUS_isHolder M a1) = 0 then
  (if w32 a1 < 20 then
  (some 0)
  else
  (if w32 (fUS_isFund M (a1 - 20)) = 0 then
  (some 0)
  else
  (some 1)))
  else
  (some 1)))
def fUS_isParty (M : bz_Mm) (a1 : Int) : Int :=
  if w32 a1 = 40 then
  (1)
  else
  (if w32 a1 = 41 then
  (1)
  else
  (if w32 (fUS_isHolder M a1) = 0 then
  (if w32 a1 < 20 then
  (0)
  else
  (if w32 (fUS_isFund M (a1 - 20)) = 0 then
  (0)
  else
  (1)))
  else
  (1)))
theorem tUS_isParty (M : bz_Mm) (a1 : Int) : gUS_isParty M a1 = some (fUS_isParty M a1) := by
  unfold gUS_isParty fUS_isParty
  (repeat' (first | rfl | split))
theorem zUS_isParty {M : bz_Mm} {a1 : Int} : fUS_isParty M a1 = 0 ∨ fUS_isParty M a1 = 1 := by
  unfold fUS_isParty
  (repeat' (first | exact Or.inl rfl | exact Or.inr rfl | exact zUS_isHolder | exact zUS_isFund | split))
set_option maxHeartbeats 4000000 in
set_option maxRecDepth 20000 in
theorem cUS_isParty (E : bz_E) {M : bz_Mm} {a1 : Int} : bz_Ct E yUS_isParty (.code yUS_isParty prog_9_method_5_code 2 (some .boolean)) 1 21 [bz_rf E 1, bz_i a1] M (some (bz_i (fUS_isParty M a1))) M := by
  have hf := tUS_isParty M a1
  refine bz_met (by decide +kernel) (Nat.le_of_ble_eq_true rfl) (fun K X => ?_)
  have X : bz_X K E prog_9_method_5_code 2 "UnitsWrong$State" (some .boolean) 1 21 _ _ := X
  unfold gUS_isParty at hf
  generalize fUS_isParty M a1 = rr at hf X
  show bz_J K 2 0 [(0, bz_rf E 1), (1, bz_i a1)] [] M
  refine j_iload_n X dUS_isParty_0 rfl 1 rfl ?_
  refine j_bipush X dUS_isParty_1 rfl ?_
  refine j_icmp_eq X (tgt := 20) rfl (w32_lit rfl) dUS_isParty_3 (by decide) hf (fun hf => ?_) (fun hf => ?_)
  · refine j_iconst X dUS_isParty_20 ?_
    cases hf
    exact j_zret X (by decide +kernel) dUS_isParty_21 rfl rfl
  · refine j_iload_n X dUS_isParty_6 rfl 1 rfl ?_
    refine j_bipush X dUS_isParty_7 rfl ?_
    refine j_icmp_eq X (tgt := 20) rfl (w32_lit rfl) dUS_isParty_9 (by decide) hf (fun hf => ?_) (fun hf => ?_)
    · refine j_iconst X dUS_isParty_20 ?_
      cases hf
      exact j_zret X (by decide +kernel) dUS_isParty_21 rfl rfl
    · refine j_aload_n X dUS_isParty_12 rfl 0 rfl ?_
      refine j_iload_n X dUS_isParty_13 rfl 1 rfl ?_
      refine j_cv X (st := []) (cUS_isHolder E) gyUS_isHolder gv_US_isHolder_1 rfl (by decide) (by decide) wd_605 rfl (Nat.le_of_ble_eq_true rfl) dUS_isParty_14 ?_
      refine j_if_eq X (tgt := 22) rfl dUS_isParty_17 (by decide) hf (fun hf => ?_) (fun hf => ?_)
      · refine j_iload_n X dUS_isParty_22 rfl 1 rfl ?_
        refine j_bipush X dUS_isParty_23 rfl ?_
        refine j_icmp_lt X (tgt := 43) rfl (w32_lit rfl) dUS_isParty_25 (by decide) hf (fun hf => ?_) (fun hf => ?_)
        · refine j_iconst X dUS_isParty_43 ?_
          cases hf
          exact j_zret X (by decide +kernel) dUS_isParty_44 rfl rfl
        · refine j_aload_n X dUS_isParty_28 rfl 0 rfl ?_
          refine j_iload_n X dUS_isParty_29 rfl 1 rfl ?_
          refine j_bipush X dUS_isParty_30 rfl ?_
          refine j_isub X dUS_isParty_32 ?_
          refine j_cv X (st := []) (cUS_isFund E) gyUS_isFund gv_US_isFund_1 rfl (by decide) (by decide) wd_604 rfl (Nat.le_of_ble_eq_true rfl) dUS_isParty_33 ?_
          refine j_if_eq X (tgt := 43) rfl dUS_isParty_36 (by decide) hf (fun hf => ?_) (fun hf => ?_)
          · refine j_iconst X dUS_isParty_43 ?_
            cases hf
            exact j_zret X (by decide +kernel) dUS_isParty_44 rfl rfl
          · refine j_iconst X dUS_isParty_39 ?_
            refine j_goto X (tgt := 44) dUS_isParty_40 (by decide) ?_
            cases hf
            exact j_zret X (by decide +kernel) dUS_isParty_44 rfl rfl
      · refine j_iconst X dUS_isParty_20 ?_
        cases hf
        exact j_zret X (by decide +kernel) dUS_isParty_21 rfl rfl
def fUQ_give (F : Nat) (M : bz_Mm) (a2 : Int) : Option (bz_Mm) :=
  cl_ (fUQ_sumOf F M a2) fun x1 =>
  cl_ (fUQ_wayOf F M a2) fun x2 =>
  cl_ (fUQ_getterOf F M a2 x2) fun x3 =>
  rd_ M 68 x3 42 fun x4 =>
  wa_ M 68 x3 42 (x4 + x1) fun m5 =>
  rd_ m5 68 (20 + (m5 65 3)) 42 fun x6 =>
  wa_ m5 68 (20 + (m5 65 3)) 42 (x6 - x1) fun m7 =>
  some m7
set_option maxHeartbeats 4000000 in
set_option maxRecDepth 20000 in
theorem cUQ_give (E : bz_E) (F : Nat)  {M : bz_Mm} {a2 : Int} {x0 : bz_Mm} (hf : fUQ_give F M a2 = some x0) : bz_Ct E yUQ_give (.code yUQ_give prog_4_method_11_code 6 none) 3 75 [bz_rf E 65, bz_rf E 1, bz_i a2] M (none) x0 := by
  refine bz_met (by decide +kernel) (Nat.le_of_ble_eq_true rfl) (fun K X => ?_)
  have X : bz_X K E prog_4_method_11_code 6 "UnitsWrong$Claims" none 3 75 _ _ := X
  unfold fUQ_give at hf
  show bz_J K 6 0 [(0, bz_rf E 65), (1, bz_rf E 1), (2, bz_i a2)] [] M
  refine j_aload_n X dUQ_give_0 rfl 0 rfl ?_
  refine j_aload_n X dUQ_give_1 rfl 1 rfl ?_
  refine j_iload_n X dUQ_give_2 rfl 2 rfl ?_
  obtain ⟨x1, hzx1, hf⟩ := q_cl hf
  refine j_cv X (st := []) (cUQ_sumOf E F hzx1) gyUQ_sumOf gv_UQ_sumOf_65 rfl (by decide) (by decide) wd_984 rfl (Nat.le_of_ble_eq_true rfl) dUQ_give_3 ?_
  refine j_lstore_n X (lv' := [(3, bz_l x1), (0, bz_rf E 65), (1, bz_rf E 1), (2, bz_i a2)]) dUQ_give_6 rfl (by decide) rfl ?_
  refine j_aload_n X dUQ_give_7 rfl 1 rfl ?_
  refine j_aload_n X dUQ_give_8 rfl 2 rfl ?_
  show bz_J _ _ 9 _ _ _
  refine j_iload_n X dUQ_give_9 rfl 3 rfl ?_
  refine j_aload_n X dUQ_give_10 rfl 1 rfl ?_
  refine j_aload_n X dUQ_give_11 rfl 2 rfl ?_
  refine j_iload_n X dUQ_give_12 rfl 3 rfl ?_
  obtain ⟨x2, hzx2, hf⟩ := q_cl hf
  refine j_cv X (st := [bz_i a2, bz_rf E 1, bz_rf E 65]) (cUQ_wayOf E F hzx2) gyUQ_wayOf gv_UQ_wayOf_65 rfl (by decide) (by decide) wd_997 rfl (Nat.le_of_ble_eq_true rfl) dUQ_give_13 ?_
  obtain ⟨x3, hzx3, hf⟩ := q_cl hf
  refine j_cv X (st := []) (cUQ_getterOf E F hzx3) gyUQ_getterOf gv_UQ_getterOf_65 rfl (by decide) (by decide) wd_998 rfl (Nat.le_of_ble_eq_true rfl) dUQ_give_16 ?_
  refine j_istore X (lv' := [(5, bz_i x3), (3, bz_l x1), (0, bz_rf E 65), (1, bz_rf E 1), (2, bz_i a2)]) dUQ_give_19 (by decide) rfl ?_
  refine j_aload_n X dUQ_give_21 rfl 2 rfl ?_
  show bz_J _ _ 22 _ _ _
  refine j_geta X gf_UQ_18_65 dUQ_give_22 ?_
  refine j_iload X dUQ_give_25 0 rfl ?_
  refine j_dup2 X dUQ_give_27 rfl rfl ?_
  refine j_lald X sh_68 dUQ_give_28 hf (fun x4 hf => ?_)
  refine j_lload_n X dUQ_give_29 rfl 1 rfl ?_
  refine j_ladd X dUQ_give_30 ?_
  refine j_last X sh_68 dUQ_give_31 hf (fun m5 hf => ?_)
  refine j_aload_n X dUQ_give_32 rfl 2 rfl ?_
  show bz_J _ _ 33 _ _ _
  refine j_geta X gf_UQ_18_65 dUQ_give_33 ?_
  refine j_bipush X dUQ_give_36 rfl ?_
  refine j_aload_n X dUQ_give_38 rfl 2 rfl ?_
  refine j_geti X gf_UQ_37_65 dUQ_give_39 ?_
  refine j_iadd X dUQ_give_42 ?_
  refine j_dup2 X dUQ_give_43 rfl rfl ?_
  refine j_lald X sh_68 dUQ_give_44 hf (fun x6 hf => ?_)
  refine j_lload_n X dUQ_give_45 rfl 1 rfl ?_
  show bz_J _ _ 46 _ _ _
  refine j_lsub X dUQ_give_46 ?_
  refine j_last X sh_68 dUQ_give_47 hf (fun m7 hf => ?_)
  cases hf
  exact j_vret X dUQ_give_48 rfl rfl
def UQ_weigh_L10 (F : Nat) : Nat → Int → bz_Mm → Option (bz_Mm)
  | 0, _, _ => none
  | n + 1, l3, M =>
    if w32 l3 < 24 then
    (cl_ (fUQ_give F M l3) fun m2 =>
    UQ_weigh_L10 F n (l3 + 1) m2)
    else
    (some M)
theorem lUQ_weigh_L10 (E : bz_E) (F : Nat) {K : bz_K} {rv : Option Value} {M1 : bz_Mm} (X : bz_X K E prog_4_method_10_code 5 "UnitsWrong$Claims" none 4 104 rv M1) {res : (bz_Mm)}
    (kx : ∀ (M : bz_Mm), some M = some res → bz_J K 5 28 [(0, bz_rf E 65), (1, bz_rf E 1), (2, bz_rf E 53)] [] M) :
    ∀ (n : Nat) (l3 : Int) (M : bz_Mm), UQ_weigh_L10 F n l3 M = some res → bz_J K 5 10 [(3, bz_i l3), (0, bz_rf E 65), (1, bz_rf E 1), (2, bz_rf E 53)] [] M := by
  intro n
  induction n with
  | zero => intro l3 M hf; cases hf
  | succ n ih =>
    intro l3 M hf
    rw [UQ_weigh_L10] at hf
    refine j_iload_n X dUQ_weigh_10 rfl 0 rfl ?_
    refine j_bipush X dUQ_weigh_11 rfl ?_
    refine j_icmp_ge X (tgt := 28) rfl (w32_lit rfl) dUQ_weigh_13 (by decide) hf (fun hf => ?_) (fun hf => ?_)
    · exact j_sub [1, 2, 3] rfl (kx _ hf)
    · refine j_aload_n X dUQ_weigh_16 rfl 1 rfl ?_
      refine j_aload_n X dUQ_weigh_17 rfl 2 rfl ?_
      refine j_iload_n X dUQ_weigh_18 rfl 0 rfl ?_
      obtain ⟨m2, hz, hf⟩ := q_cl hf
      refine j_cv X (st := []) (cUQ_give E F hz) gyUQ_give gv_UQ_give_65 rfl (by decide) (by decide) wd_1109 rfl (Nat.le_of_ble_eq_true rfl) dUQ_weigh_19 ?_
      clear hz
      refine j_iinc X (y := l3 + 1) (lv' := [(3, bz_i (l3 + 1)), (0, bz_rf E 65), (1, bz_rf E 1), (2, bz_rf E 53)]) dUQ_weigh_22 0 rfl rfl (by decide) rfl ?_
      refine j_goto X (tgt := 10) dUQ_weigh_25 (by decide) ?_
      exact ih _ _ hf
def fUQ_weigh (F : Nat) (M : bz_Mm) : Option (bz_Mm) :=
  cl_ (fJA_fill0 F M 68 42 0) fun m1 =>
  cl1_ (UQ_weigh_L10 F F 0 m1) fun m3 =>
  cl_ (fUQ_lacking F m3) fun x4 =>
  rd_ m3 68 40 42 fun x5 =>
  wa_ m3 68 40 42 (x5 - x4) fun m6 =>
  rd_ m6 68 (20 + (m6 65 3)) 42 fun x7 =>
  wa_ m6 68 (20 + (m6 65 3)) 42 (x7 + x4) fun m8 =>
  some m8
set_option maxHeartbeats 4000000 in
set_option maxRecDepth 20000 in
theorem cUQ_weigh (E : bz_E) (F : Nat)  {M : bz_Mm} {x0 : bz_Mm} (hf : fUQ_weigh F M = some x0) : bz_Ct E yUQ_weigh (.code yUQ_weigh prog_4_method_10_code 5 none) 4 104 [bz_rf E 65, bz_rf E 1, bz_rf E 53] M (none) x0 := by
  refine bz_met (by decide +kernel) (Nat.le_of_ble_eq_true rfl) (fun K X => ?_)
  have X : bz_X K E prog_4_method_10_code 5 "UnitsWrong$Claims" none 4 104 _ _ := X
  unfold fUQ_weigh at hf
  show bz_J K 5 0 [(0, bz_rf E 65), (1, bz_rf E 1), (2, bz_rf E 53)] [] M
  refine j_aload_n X dUQ_weigh_0 rfl 0 rfl ?_
  refine j_geta X gf_UQ_18_65 dUQ_weigh_1 ?_
  refine j_lconst X (v := 0) dUQ_weigh_4 rfl ?_
  obtain ⟨m1, hz, hf⟩ := q_cl hf
  refine j_cs X (st := []) (cJA_fill0 E F sh_68 hz) gyJA_fill0 wd_966 rfl (by decide) (by decide) wd_965 rfl (Nat.le_of_ble_eq_true rfl) dUQ_weigh_5 ?_
  clear hz
  refine j_iconst X dUQ_weigh_8 ?_
  refine j_istore_n X (lv' := [(3, bz_i 0), (0, bz_rf E 65), (1, bz_rf E 1), (2, bz_rf E 53)]) dUQ_weigh_9 rfl (by decide) rfl ?_
  obtain ⟨res9, hz9, hk9⟩ := q_l1 hf
  clear hf
  refine lUQ_weigh_L10 E F X (fun m3 he => ?_) F 0 m1 hz9
  have hf := hk9 _ he
  refine j_aload_n X dUQ_weigh_28 rfl 0 rfl ?_
  refine j_aload_n X dUQ_weigh_29 rfl 1 rfl ?_
  refine j_aload_n X dUQ_weigh_30 rfl 2 rfl ?_
  obtain ⟨x4, hzx4, hf⟩ := q_cl hf
  refine j_cv X (st := []) (cUQ_lacking E F hzx4) gyUQ_lacking gv_UQ_lacking_65 rfl (by decide) (by decide) wd_1113 rfl (Nat.le_of_ble_eq_true rfl) dUQ_weigh_31 ?_
  refine j_lstore_n X (lv' := [(3, bz_l x4), (0, bz_rf E 65), (1, bz_rf E 1), (2, bz_rf E 53)]) dUQ_weigh_34 rfl (by decide) rfl ?_
  refine j_aload_n X dUQ_weigh_35 rfl 1 rfl ?_
  refine j_geta X gf_UQ_18_65 dUQ_weigh_36 ?_
  show bz_J _ _ 39 _ _ _
  refine j_bipush X dUQ_weigh_39 rfl ?_
  refine j_dup2 X dUQ_weigh_41 rfl rfl ?_
  refine j_lald X sh_68 dUQ_weigh_42 hf (fun x5 hf => ?_)
  refine j_lload_n X dUQ_weigh_43 rfl 0 rfl ?_
  refine j_lsub X dUQ_weigh_44 ?_
  refine j_last X sh_68 dUQ_weigh_45 hf (fun m6 hf => ?_)
  refine j_aload_n X dUQ_weigh_46 rfl 1 rfl ?_
  refine j_geta X gf_UQ_18_65 dUQ_weigh_47 ?_
  show bz_J _ _ 50 _ _ _
  refine j_bipush X dUQ_weigh_50 rfl ?_
  refine j_aload_n X dUQ_weigh_52 rfl 1 rfl ?_
  refine j_geti X gf_UQ_37_65 dUQ_weigh_53 ?_
  refine j_iadd X dUQ_weigh_56 ?_
  refine j_dup2 X dUQ_weigh_57 rfl rfl ?_
  refine j_lald X sh_68 dUQ_weigh_58 hf (fun x7 hf => ?_)
  refine j_lload_n X dUQ_weigh_59 rfl 0 rfl ?_
  refine j_ladd X dUQ_weigh_60 ?_
  show bz_J _ _ 61 _ _ _
  refine j_last X sh_68 dUQ_weigh_61 hf (fun m8 hf => ?_)
  cases hf
  exact j_vret X dUQ_weigh_62 rfl rfl
def fU_settle (F : Nat) (M : bz_Mm) (a1 : Int) : Option (bz_Mm) :=
  lt_ (fUS_latestKnown M) fun l2 =>
  cl_ (fUC_walkTo F M l2) fun m1 =>
  cl_ (fUQ_gather F m1 a1 l2) fun m2 =>
  cl_ (fUQ_weigh F m2) fun m3 =>
  some m3
set_option maxHeartbeats 4000000 in
set_option maxRecDepth 20000 in
theorem cU_settle (E : bz_E) (F : Nat)  {M : bz_Mm} {a1 : Int} {x0 : bz_Mm} (hf : fU_settle F M a1 = some x0) : bz_Ct E yU_settle (.code yU_settle prog_1_method_42_code 3 none) 6 145 [bz_rf E 0, bz_i a1] M (none) x0 := by
  refine bz_met (by decide +kernel) (Nat.le_of_ble_eq_true rfl) (fun K X => ?_)
  have X : bz_X K E prog_1_method_42_code 3 "UnitsWrong" none 6 145 _ _ := X
  unfold fU_settle at hf
  show bz_J K 3 0 [(0, bz_rf E 0), (1, bz_i a1)] [] M
  refine j_aload_n X dU_settle_0 rfl 0 rfl ?_
  refine j_geta X gf_U_10_0 dU_settle_1 ?_
  refine j_cv X (st := []) (cUS_latestKnown E) gyUS_latestKnown gv_US_latestKnown_1 rfl (by decide) (by decide) wd_911 rfl (Nat.le_of_ble_eq_true rfl) dU_settle_4 ?_
  refine j_lt (g := bz_i) hf (fun l2 hf => ?_)
  refine j_istore_n X (lv' := [(2, bz_i l2), (0, bz_rf E 0), (1, bz_i a1)]) dU_settle_7 rfl (by decide) rfl ?_
  refine j_aload_n X dU_settle_8 rfl 1 rfl ?_
  refine j_geta X gf_U_26_0 dU_settle_9 ?_
  refine j_aload_n X dU_settle_12 rfl 1 rfl ?_
  show bz_J _ _ 13 _ _ _
  refine j_geta X gf_U_10_0 dU_settle_13 ?_
  refine j_iload_n X dU_settle_16 rfl 0 rfl ?_
  obtain ⟨m1, hz, hf⟩ := q_cl hf
  refine j_cv X (st := []) (cUC_walkTo E F hz) gyUC_walkTo gv_UC_walkTo_53 rfl (by decide) (by decide) wd_915 rfl (Nat.le_of_ble_eq_true rfl) dU_settle_17 ?_
  clear hz
  refine j_aload_n X dU_settle_20 rfl 1 rfl ?_
  refine j_geta X gf_U_33_0 dU_settle_21 ?_
  refine j_aload_n X dU_settle_24 rfl 1 rfl ?_
  refine j_geta X gf_U_10_0 dU_settle_25 ?_
  refine j_aload_n X dU_settle_28 rfl 1 rfl ?_
  show bz_J _ _ 29 _ _ _
  refine j_geta X gf_U_26_0 dU_settle_29 ?_
  refine j_iload_n X dU_settle_32 rfl 2 rfl ?_
  refine j_iload_n X dU_settle_33 rfl 0 rfl ?_
  obtain ⟨m2, hz, hf⟩ := q_cl hf
  refine j_cv X (st := []) (cUQ_gather E F hz) gyUQ_gather gv_UQ_gather_65 rfl (by decide) (by decide) wd_956 rfl (Nat.le_of_ble_eq_true rfl) dU_settle_34 ?_
  clear hz
  refine j_aload_n X dU_settle_37 rfl 1 rfl ?_
  refine j_geta X gf_U_33_0 dU_settle_38 ?_
  refine j_aload_n X dU_settle_41 rfl 1 rfl ?_
  refine j_geta X gf_U_10_0 dU_settle_42 ?_
  show bz_J _ _ 45 _ _ _
  refine j_aload_n X dU_settle_45 rfl 1 rfl ?_
  refine j_geta X gf_U_26_0 dU_settle_46 ?_
  obtain ⟨m3, hz, hf⟩ := q_cl hf
  refine j_cv X (st := []) (cUQ_weigh E F hz) gyUQ_weigh gv_UQ_weigh_65 rfl (by decide) (by decide) wd_1105 rfl (Nat.le_of_ble_eq_true rfl) dU_settle_49 ?_
  clear hz
  cases hf
  exact j_vret X dU_settle_52 rfl rfl
def fU_balance (F : Nat) (M : bz_Mm) (a1 : Int) (a2 : Int) : Option (Int × bz_Mm) :=
  if w32 (fUS_isFund M a1) = 0 then
  (some (((-2147483648), M)))
  else
  (if w32 (fUS_isParty M a2) = 0 then
  (some (((-2147483648), M)))
  else
  (cl_ (fU_settle F M a1) fun m1 =>
  rd_ m1 68 a2 42 fun x2 =>
  some ((fU_told x2, m1))))
set_option maxHeartbeats 4000000 in
set_option maxRecDepth 20000 in
theorem cU_balance (E : bz_E) (F : Nat)  {M : bz_Mm} {a1 : Int} {a2 : Int} {x0 : Int × bz_Mm} (hf : fU_balance F M a1 a2 = some x0) : bz_Ct E yU_balance (.code yU_balance prog_1_method_38_code 3 (some .int)) 7 167 [bz_rf E 0, bz_i a1, bz_i a2] M (some (bz_i x0.1)) x0.2 := by
  refine bz_met (by decide +kernel) (Nat.le_of_ble_eq_true rfl) (fun K X => ?_)
  have X : bz_X K E prog_1_method_38_code 3 "UnitsWrong" (some .int) 7 167 _ _ := X
  unfold fU_balance at hf
  show bz_J K 3 0 [(0, bz_rf E 0), (1, bz_i a1), (2, bz_i a2)] [] M
  refine j_aload_n X dU_balance_0 rfl 0 rfl ?_
  refine j_geta X gf_U_10_0 dU_balance_1 ?_
  refine j_iload_n X dU_balance_4 rfl 1 rfl ?_
  refine j_cv X (st := []) (cUS_isFund E) gyUS_isFund gv_US_isFund_1 rfl (by decide) (by decide) wd_584 rfl (Nat.le_of_ble_eq_true rfl) dU_balance_5 ?_
  refine j_if_eq X (tgt := 22) rfl dU_balance_8 (by decide) hf (fun hf => ?_) (fun hf => ?_)
  · refine j_ldc X (v := -2147483648) wd_571 dU_balance_22 ?_
    cases hf
    exact j_iret X dU_balance_24 rfl rfl
  · refine j_aload_n X dU_balance_11 rfl 0 rfl ?_
    refine j_geta X gf_U_10_0 dU_balance_12 ?_
    refine j_iload_n X dU_balance_15 rfl 2 rfl ?_
    refine j_cv X (st := []) (cUS_isParty E) gyUS_isParty gv_US_isParty_1 rfl (by decide) (by decide) wd_1097 rfl (Nat.le_of_ble_eq_true rfl) dU_balance_16 ?_
    refine j_if_ne X (tgt := 25) rfl dU_balance_19 (by decide) hf (fun hf => ?_) (fun hf => ?_)
    · refine j_aload_n X dU_balance_25 rfl 0 rfl ?_
      refine j_iload_n X dU_balance_26 rfl 1 rfl ?_
      obtain ⟨m1, hz, hf⟩ := q_cl hf
      refine j_cv X (st := []) (cU_settle E F hz) gyU_settle gv_U_settle_0 rfl (by decide) (by decide) wd_1101 rfl (Nat.le_of_ble_eq_true rfl) dU_balance_27 ?_
      clear hz
      refine j_aload_n X dU_balance_30 rfl 0 rfl ?_
      refine j_geta X gf_U_33_0 dU_balance_31 ?_
      refine j_geta X gf_U_339_65 dU_balance_34 ?_
      refine j_iload_n X dU_balance_37 rfl 2 rfl ?_
      show bz_J _ _ 38 _ _ _
      refine j_lald X sh_68 dU_balance_38 hf (fun x2 hf => ?_)
      refine j_cs X (st := []) (cU_told E) gyU_told wd_921 rfl (by decide) (by decide) wd_920 rfl (Nat.le_of_ble_eq_true rfl) dU_balance_39 ?_
      cases hf
      exact j_iret X dU_balance_42 rfl rfl
    · refine j_ldc X (v := -2147483648) wd_571 dU_balance_22 ?_
      cases hf
      exact j_iret X dU_balance_24 rfl rfl
def UG_findParties_68_L7 (F : Nat) : Nat → Int → bz_Mm → Option ((Int × bz_Mm) ⊕ (bz_Mm))
  | 0, _, _ => none
  | n + 1, l2, M =>
    if w32 l2 < 42 then
    (rd_ M 68 l2 42 fun x2 =>
    if w64 x2 = 0 then
    (UG_findParties_68_L7 F n (l2 + 1) M)
    else
    (if w32 (M 69 8) < 10 then
    (wa_ M 73 (M 69 8) 10 l2 fun m3 =>
    rd_ m3 68 l2 42 fun x4 =>
    wa_ m3 74 (m3 69 8) 10 x4 fun m5 =>
    wf_ m5 69 8 ((m5 69 8) + 1) fun m6 =>
    UG_findParties_68_L7 F n (l2 + 1) m6)
    else
    (some (.inl ((0, M))))))
    else
    (some (.inr M))
theorem lUG_findParties_68_L7 (E : bz_E) (F : Nat) {K : bz_K} {rv : Option Value} {M1 : bz_Mm} (X : bz_X K E prog_8_method_3_code 3 "UnitsWrong$Settlement" (some .boolean) 0 0 rv M1) {res : ((Int × bz_Mm) ⊕ (bz_Mm))}
    (kx : ∀ (M : bz_Mm), some (.inr M) = some res → bz_J K 3 73 [] [] M) (kr : ∀ b : Int × bz_Mm, some (.inl b) = some res → some (bz_i b.1) = rv ∧ b.2 = M1) :
    ∀ (n : Nat) (l2 : Int) (M : bz_Mm), UG_findParties_68_L7 F n l2 M = some res → bz_J K 3 7 [(2, bz_i l2), (0, bz_rf E 69), (1, bz_rf E 68)] [] M := by
  intro n
  induction n with
  | zero => intro l2 M hf; cases hf
  | succ n ih =>
    intro l2 M hf
    rw [UG_findParties_68_L7] at hf
    refine j_iload_n X dUG_findParties_7 rfl 0 rfl ?_
    refine j_aload_n X dUG_findParties_8 rfl 2 rfl ?_
    refine j_alen X sh_68 (by decide) dUG_findParties_9 ?_
    refine j_icmp_ge X (tgt := 73) rfl (w32_lit rfl) dUG_findParties_10 (by decide) hf (fun hf => ?_) (fun hf => ?_)
    · exact j_sub [] rfl (kx _ hf)
    · refine j_aload_n X dUG_findParties_13 rfl 2 rfl ?_
      refine j_iload_n X dUG_findParties_14 rfl 0 rfl ?_
      refine j_lald X sh_68 dUG_findParties_15 hf (fun x2 hf => ?_)
      refine j_lconst X (v := 0) dUG_findParties_16 rfl ?_
      refine j_lcmp_ne X (tgt := 24) rfl (w64_lit rfl) dUG_findParties_17 dUG_findParties_18 (by decide) hf (fun hf => ?_) (fun hf => ?_)
      · refine j_aload_n X dUG_findParties_24 rfl 1 rfl ?_
        refine j_geti X gf_UG_45_69 dUG_findParties_25 ?_
        refine j_bipush X dUG_findParties_28 rfl ?_
        refine j_icmp_lt X (tgt := 35) rfl (w32_lit rfl) dUG_findParties_30 (by decide) hf (fun hf => ?_) (fun hf => ?_)
        · refine j_aload_n X dUG_findParties_35 rfl 1 rfl ?_
          refine j_geta X gf_UG_22_69 dUG_findParties_36 ?_
          refine j_aload_n X dUG_findParties_39 rfl 1 rfl ?_
          refine j_geti X gf_UG_45_69 dUG_findParties_40 ?_
          refine j_iload_n X dUG_findParties_43 rfl 0 rfl ?_
          refine j_iast X sh_73 dUG_findParties_44 hf (fun m3 hf => ?_)
          refine j_aload_n X dUG_findParties_45 rfl 1 rfl ?_
          show bz_J _ _ 46 _ _ _
          refine j_geta X gf_UG_25_69 dUG_findParties_46 ?_
          refine j_aload_n X dUG_findParties_49 rfl 1 rfl ?_
          refine j_geti X gf_UG_45_69 dUG_findParties_50 ?_
          refine j_aload_n X dUG_findParties_53 rfl 2 rfl ?_
          refine j_iload_n X dUG_findParties_54 rfl 0 rfl ?_
          refine j_lald X sh_68 dUG_findParties_55 hf (fun x4 hf => ?_)
          refine j_last X sh_74 dUG_findParties_56 hf (fun m5 hf => ?_)
          refine j_aload_n X dUG_findParties_57 rfl 1 rfl ?_
          show bz_J _ _ 58 _ _ _
          refine j_dup X dUG_findParties_58 rfl ?_
          refine j_geti X gf_UG_45_69 dUG_findParties_59 ?_
          refine j_iconst X dUG_findParties_62 ?_
          refine j_iadd X dUG_findParties_63 ?_
          refine j_puti X pf_UG_45_69 dUG_findParties_64 hf (fun m6 hf => ?_)
          refine j_iinc X (y := l2 + 1) (lv' := [(2, bz_i (l2 + 1)), (0, bz_rf E 69), (1, bz_rf E 68)]) dUG_findParties_67 0 rfl rfl (by decide) rfl ?_
          refine j_goto X (tgt := 7) dUG_findParties_70 (by decide) ?_
          exact ih _ _ hf
        · refine j_iconst X dUG_findParties_33 ?_
          exact j_zret X (by decide +kernel) dUG_findParties_34 (kr _ hf).1 (kr _ hf).2
      · refine j_goto X (tgt := 67) dUG_findParties_21 (by decide) ?_
        refine j_iinc X (y := l2 + 1) (lv' := [(2, bz_i (l2 + 1)), (0, bz_rf E 69), (1, bz_rf E 68)]) dUG_findParties_67 0 rfl rfl (by decide) rfl ?_
        refine j_goto X (tgt := 7) dUG_findParties_70 (by decide) ?_
        exact ih _ _ hf
def fUG_findParties_68 (F : Nat) (M : bz_Mm) : Option (Int × bz_Mm) :=
  wf_ M 69 8 0 fun m1 =>
  cs1_ (UG_findParties_68_L7 F F 0 m1) (fun b => some b) fun m7 =>
  some ((1, m7))
set_option maxHeartbeats 4000000 in
set_option maxRecDepth 20000 in
theorem cUG_findParties_68 (E : bz_E) (F : Nat)  {M : bz_Mm} {x0 : Int × bz_Mm} (hf : fUG_findParties_68 F M = some x0) : bz_Ct E yUG_findParties (.code yUG_findParties prog_8_method_3_code 3 (some .boolean)) 0 0 [bz_rf E 69, bz_rf E 68] M (some (bz_i x0.1)) x0.2 := by
  refine bz_met (by decide +kernel) (Nat.le_of_ble_eq_true rfl) (fun K X => ?_)
  have X : bz_X K E prog_8_method_3_code 3 "UnitsWrong$Settlement" (some .boolean) 0 0 _ _ := X
  unfold fUG_findParties_68 at hf
  show bz_J K 3 0 [(0, bz_rf E 69), (1, bz_rf E 68)] [] M
  refine j_aload_n X dUG_findParties_0 rfl 0 rfl ?_
  refine j_iconst X dUG_findParties_1 ?_
  refine j_puti X pf_UG_45_69 dUG_findParties_2 hf (fun m1 hf => ?_)
  refine j_iconst X dUG_findParties_5 ?_
  refine j_istore_n X (lv' := [(2, bz_i 0), (0, bz_rf E 69), (1, bz_rf E 68)]) dUG_findParties_6 rfl (by decide) rfl ?_
  obtain ⟨res8, hz8, hk8, hr8⟩ := q_s1 hf
  clear hf
  refine lUG_findParties_68_L7 E F X (fun m7 he => ?_) (fun b he => ?_) F 0 m1 hz8
  · have hf := hk8 _ he
    refine j_iconst X dUG_findParties_73 ?_
    cases hf
    exact j_zret X (by decide +kernel) dUG_findParties_74 rfl rfl
  · have hf := hr8 _ he
    cases hf
    exact ⟨rfl, rfl⟩
def UG_countHeaps_L30 (F : Nat) : Nat → Int → Int → Int → bz_Mm → Option (Int × bz_Mm)
  | 0, _, _, _, _ => none
  | n + 1, l1, l3, l2, M =>
    if w32 l3 < w32 (M 69 8) then
    (if w32 (ia_ (sr_ l1 l3) 1) = 0 then
    (UG_countHeaps_L30 F n l1 (l3 + 1) l2 M)
    else
    (rd_ M 76 (ix_ l1 (sl_ 1 l3)) 1024 fun x3 =>
    lt_ (fJM_max0 l2 x3) fun l2 =>
    rd_ M 75 (ix_ l1 (sl_ 1 l3)) 1024 fun x4 =>
    rd_ M 74 l3 10 fun x5 =>
    wa_ M 75 l1 1024 (x4 + x5) fun m6 =>
    UG_countHeaps_L30 F n l1 (l3 + 1) l2 m6))
    else
    (some (l2, M))
def UG_countHeaps_L16 (F : Nat) : Nat → Int → bz_Mm → Option (bz_Mm)
  | 0, _, _ => none
  | n + 1, l1, M =>
    if w32 l1 < w32 (sl_ 1 (M 69 8)) then
    (cl2_ (UG_countHeaps_L30 F F l1 0 0 M) fun l2 m7 =>
    rd_ m7 75 l1 1024 fun x8 =>
    if w64 x8 = 0 then
    (wa_ m7 76 l1 1024 (l2 + 1) fun m10 =>
    UG_countHeaps_L16 F n (l1 + 1) m10)
    else
    (wa_ m7 76 l1 1024 l2 fun m9 =>
    UG_countHeaps_L16 F n (l1 + 1) m9))
    else
    (some M)
theorem lUG_countHeaps_L30 (E : bz_E) (F : Nat) {K : bz_K} {rv : Option Value} {M1 : bz_Mm} (X : bz_X K E prog_8_method_4_code 4 "UnitsWrong$Settlement" none 1 21 rv M1) {l1 : Int} {res : (Int × bz_Mm)}
    (kx : ∀ (l2 : Int) (M : bz_Mm), some (l2, M) = some res → bz_J K 4 90 [(2, bz_i l2), (1, bz_i l1), (0, bz_rf E 69)] [] M) :
    ∀ (n : Nat) (l3 : Int) (l2 : Int) (M : bz_Mm), UG_countHeaps_L30 F n l1 l3 l2 M = some res → bz_J K 4 30 [(3, bz_i l3), (2, bz_i l2), (1, bz_i l1), (0, bz_rf E 69)] [] M := by
  intro n
  induction n with
  | zero => intro l3 l2 M hf; cases hf
  | succ n ih =>
    intro l3 l2 M hf
    rw [UG_countHeaps_L30] at hf
    refine j_iload_n X dUG_countHeaps_30 rfl 0 rfl ?_
    refine j_aload_n X dUG_countHeaps_31 rfl 3 rfl ?_
    refine j_geti X gf_UG_45_69 dUG_countHeaps_32 ?_
    refine j_icmp_ge X (tgt := 90) rfl rfl dUG_countHeaps_35 (by decide) hf (fun hf => ?_) (fun hf => ?_)
    · exact j_sub [1, 2, 3] rfl (kx _ _ hf)
    · refine j_iload_n X dUG_countHeaps_38 rfl 2 rfl ?_
      refine j_iload_n X dUG_countHeaps_39 rfl 0 rfl ?_
      refine j_ishr X dUG_countHeaps_40 ?_
      refine j_iconst X dUG_countHeaps_41 ?_
      refine j_iand X dUG_countHeaps_42 ?_
      refine j_if_eq X (tgt := 84) rfl dUG_countHeaps_43 (by decide) hf (fun hf => ?_) (fun hf => ?_)
      · refine j_iinc X (y := l3 + 1) (lv' := [(3, bz_i (l3 + 1)), (2, bz_i l2), (1, bz_i l1), (0, bz_rf E 69)]) dUG_countHeaps_84 0 rfl rfl (by decide) rfl ?_
        refine j_goto X (tgt := 30) dUG_countHeaps_87 (by decide) ?_
        exact ih _ _ _ hf
      · refine j_iload_n X dUG_countHeaps_46 rfl 1 rfl ?_
        refine j_aload_n X dUG_countHeaps_47 rfl 3 rfl ?_
        refine j_geta X gf_UG_31_69 dUG_countHeaps_48 ?_
        refine j_iload_n X dUG_countHeaps_51 rfl 2 rfl ?_
        refine j_iconst X dUG_countHeaps_52 ?_
        refine j_iload_n X dUG_countHeaps_53 rfl 0 rfl ?_
        refine j_ishl X dUG_countHeaps_54 ?_
        show bz_J _ _ 55 _ _ _
        refine j_ixor X dUG_countHeaps_55 ?_
        refine j_iald X sh_76 dUG_countHeaps_56 hf (fun x3 hf => ?_)
        refine j_cs X (st := []) (cJM_max0 E) gyJM_max0 wd_896 rfl (by decide) (by decide) wd_1130 rfl (Nat.le_of_ble_eq_true rfl) dUG_countHeaps_57 ?_
        refine j_lt (g := bz_i) hf (fun l2 hf => ?_)
        refine j_istore_n X (lv' := [(2, bz_i l2), (3, bz_i l3), (1, bz_i l1), (0, bz_rf E 69)]) dUG_countHeaps_60 rfl (by decide) rfl ?_
        refine j_aload_n X dUG_countHeaps_61 rfl 3 rfl ?_
        refine j_geta X gf_UG_28_69 dUG_countHeaps_62 ?_
        refine j_iload_n X dUG_countHeaps_65 rfl 2 rfl ?_
        refine j_aload_n X dUG_countHeaps_66 rfl 3 rfl ?_
        show bz_J _ _ 67 _ _ _
        refine j_geta X gf_UG_28_69 dUG_countHeaps_67 ?_
        refine j_iload_n X dUG_countHeaps_70 rfl 2 rfl ?_
        refine j_iconst X dUG_countHeaps_71 ?_
        refine j_iload_n X dUG_countHeaps_72 rfl 1 rfl ?_
        refine j_ishl X dUG_countHeaps_73 ?_
        refine j_ixor X dUG_countHeaps_74 ?_
        refine j_lald X sh_75 dUG_countHeaps_75 hf (fun x4 hf => ?_)
        refine j_aload_n X dUG_countHeaps_76 rfl 3 rfl ?_
        show bz_J _ _ 77 _ _ _
        refine j_geta X gf_UG_25_69 dUG_countHeaps_77 ?_
        refine j_iload_n X dUG_countHeaps_80 rfl 1 rfl ?_
        refine j_lald X sh_74 dUG_countHeaps_81 hf (fun x5 hf => ?_)
        refine j_ladd X dUG_countHeaps_82 ?_
        refine j_last X sh_75 dUG_countHeaps_83 hf (fun m6 hf => ?_)
        refine j_iinc X (y := l3 + 1) (lv' := [(3, bz_i (l3 + 1)), (2, bz_i l2), (1, bz_i l1), (0, bz_rf E 69)]) dUG_countHeaps_84 1 rfl rfl (by decide) rfl ?_
        refine j_goto X (tgt := 30) dUG_countHeaps_87 (by decide) ?_
        exact ih _ _ _ hf
theorem lUG_countHeaps_L16 (E : bz_E) (F : Nat) {K : bz_K} {rv : Option Value} {M1 : bz_Mm} (X : bz_X K E prog_8_method_4_code 4 "UnitsWrong$Settlement" none 1 21 rv M1) {res : (bz_Mm)}
    (kx : ∀ (M : bz_Mm), some M = some res → bz_J K 4 120 [] [] M) :
    ∀ (n : Nat) (l1 : Int) (M : bz_Mm), UG_countHeaps_L16 F n l1 M = some res → bz_J K 4 16 [(1, bz_i l1), (0, bz_rf E 69)] [] M := by
  intro n
  induction n with
  | zero => intro l1 M hf; cases hf
  | succ n ih =>
    intro l1 M hf
    rw [UG_countHeaps_L16] at hf
    refine j_iload_n X dUG_countHeaps_16 rfl 0 rfl ?_
    refine j_iconst X dUG_countHeaps_17 ?_
    refine j_aload_n X dUG_countHeaps_18 rfl 1 rfl ?_
    refine j_geti X gf_UG_45_69 dUG_countHeaps_19 ?_
    refine j_ishl X dUG_countHeaps_22 ?_
    refine j_icmp_ge X (tgt := 120) rfl rfl dUG_countHeaps_23 (by decide) hf (fun hf => ?_) (fun hf => ?_)
    · exact j_sub [] rfl (kx _ hf)
    · refine j_iconst X dUG_countHeaps_26 ?_
      refine j_istore_n X (lv' := [(2, bz_i 0), (1, bz_i l1), (0, bz_rf E 69)]) dUG_countHeaps_27 rfl (by decide) rfl ?_
      refine j_iconst X dUG_countHeaps_28 ?_
      refine j_istore_n X (lv' := [(3, bz_i 0), (2, bz_i 0), (1, bz_i l1), (0, bz_rf E 69)]) dUG_countHeaps_29 rfl (by decide) rfl ?_
      obtain ⟨res11, hz11, hk11⟩ := q_l2 hf
      clear hf
      refine lUG_countHeaps_L30 E F X (fun l2 m7 he => ?_) F 0 0 M hz11
      have hf := hk11 _ _ he
      refine j_aload_n X dUG_countHeaps_90 rfl 2 rfl ?_
      refine j_geta X gf_UG_31_69 dUG_countHeaps_91 ?_
      refine j_iload_n X dUG_countHeaps_94 rfl 1 rfl ?_
      refine j_aload_n X dUG_countHeaps_95 rfl 2 rfl ?_
      refine j_geta X gf_UG_28_69 dUG_countHeaps_96 ?_
      refine j_iload_n X dUG_countHeaps_99 rfl 1 rfl ?_
      refine j_lald X sh_75 dUG_countHeaps_100 hf (fun x8 hf => ?_)
      show bz_J _ _ 101 _ _ _
      refine j_lconst X (v := 0) dUG_countHeaps_101 rfl ?_
      refine j_lcmp_ne X (tgt := 112) rfl (w64_lit rfl) dUG_countHeaps_102 dUG_countHeaps_103 (by decide) hf (fun hf => ?_) (fun hf => ?_)
      · refine j_iload_n X dUG_countHeaps_112 rfl 0 rfl ?_
        refine j_iast X sh_76 dUG_countHeaps_113 hf (fun m9 hf => ?_)
        refine j_iinc X (y := l1 + 1) (lv' := [(1, bz_i (l1 + 1)), (2, bz_i l2), (0, bz_rf E 69)]) dUG_countHeaps_114 1 rfl rfl (by decide) rfl ?_
        refine j_goto X (tgt := 16) dUG_countHeaps_117 (by decide) ?_
        exact j_sub [0, 2] rfl (ih _ _ hf)
      · refine j_iload_n X dUG_countHeaps_106 rfl 0 rfl ?_
        refine j_iconst X dUG_countHeaps_107 ?_
        refine j_iadd X dUG_countHeaps_108 ?_
        refine j_goto X (tgt := 113) dUG_countHeaps_109 (by decide) ?_
        refine j_iast X sh_76 dUG_countHeaps_113 hf (fun m10 hf => ?_)
        refine j_iinc X (y := l1 + 1) (lv' := [(1, bz_i (l1 + 1)), (2, bz_i l2), (0, bz_rf E 69)]) dUG_countHeaps_114 1 rfl rfl (by decide) rfl ?_
        refine j_goto X (tgt := 16) dUG_countHeaps_117 (by decide) ?_
        exact j_sub [0, 2] rfl (ih _ _ hf)
def fUG_countHeaps (F : Nat) (M : bz_Mm) : Option (bz_Mm) :=
  wa_ M 75 0 1024 0 fun m1 =>
  wa_ m1 76 0 1024 0 fun m2 =>
  cl1_ (UG_countHeaps_L16 F F 1 m2) fun m12 =>
  some m12
set_option maxHeartbeats 4000000 in
set_option maxRecDepth 20000 in
theorem cUG_countHeaps (E : bz_E) (F : Nat)  {M : bz_Mm} {x0 : bz_Mm} (hf : fUG_countHeaps F M = some x0) : bz_Ct E yUG_countHeaps (.code yUG_countHeaps prog_8_method_4_code 4 none) 1 21 [bz_rf E 69] M (none) x0 := by
  refine bz_met (by decide +kernel) (Nat.le_of_ble_eq_true rfl) (fun K X => ?_)
  have X : bz_X K E prog_8_method_4_code 4 "UnitsWrong$Settlement" none 1 21 _ _ := X
  unfold fUG_countHeaps at hf
  show bz_J K 4 0 [(0, bz_rf E 69)] [] M
  refine j_aload_n X dUG_countHeaps_0 rfl 0 rfl ?_
  refine j_geta X gf_UG_28_69 dUG_countHeaps_1 ?_
  refine j_iconst X dUG_countHeaps_4 ?_
  refine j_lconst X (v := 0) dUG_countHeaps_5 rfl ?_
  refine j_last X sh_75 dUG_countHeaps_6 hf (fun m1 hf => ?_)
  refine j_aload_n X dUG_countHeaps_7 rfl 0 rfl ?_
  refine j_geta X gf_UG_31_69 dUG_countHeaps_8 ?_
  show bz_J _ _ 11 _ _ _
  refine j_iconst X dUG_countHeaps_11 ?_
  refine j_iconst X dUG_countHeaps_12 ?_
  refine j_iast X sh_76 dUG_countHeaps_13 hf (fun m2 hf => ?_)
  refine j_iconst X dUG_countHeaps_14 ?_
  refine j_istore_n X (lv' := [(1, bz_i 1), (0, bz_rf E 69)]) dUG_countHeaps_15 rfl (by decide) rfl ?_
  obtain ⟨res13, hz13, hk13⟩ := q_l1 hf
  clear hf
  refine lUG_countHeaps_L16 E F X (fun m12 he => ?_) F 1 m2 hz13
  have hf := hk13 _ he
  cases hf
  exact j_vret X dUG_countHeaps_120 rfl rfl
def UG_firstHeap_L7 (F : Nat) : Nat → bz_Mm → Int → Int → Int → Option (Int ⊕ (Int))
  | 0, _, _, _, _ => none
  | n + 1, M, l2, l1, l3 =>
    if w32 l3 < w32 l1 then
    (cl1_ (if w32 (ia_ l3 l2) = 0 then
    (some (0))
    else
    (if w32 (ia_ l3 (ix_ l1 ((-1)))) = 0 then
    (some (1))
    else
    (some (0)))) fun v2 =>
    if w32 v2 = 0 then
    (UG_firstHeap_L7 F n M l2 l1 (l3 + 1))
    else
    (rd_ M 75 l3 1024 fun x3 =>
    if w64 x3 = 0 then
    (rd_ M 76 (ix_ l1 l3) 1024 fun x4 =>
    rd_ M 76 l1 1024 fun x5 =>
    if w32 (x4 + 1) = w32 x5 then
    (some (.inl l3))
    else
    (UG_firstHeap_L7 F n M l2 l1 (l3 + 1)))
    else
    (UG_firstHeap_L7 F n M l2 l1 (l3 + 1))))
    else
    (some (.inr 0))
theorem lUG_firstHeap_L7 (E : bz_E) (F : Nat) {K : bz_K} {rv : Option Value} {M1 : bz_Mm} (X : bz_X K E prog_8_method_5_code 5 "UnitsWrong$Settlement" (some .int) 0 0 rv M1) {M : bz_Mm} {l2 : Int} {l1 : Int} {res : (Int ⊕ (Int))}
    (kx : ∀ (_u : Int), some (.inr _u) = some res → bz_J K 5 76 [(1, bz_i l1)] [] M) (kr : ∀ b : Int, some (.inl b) = some res → some (bz_i b) = rv ∧ M = M1) :
    ∀ (n : Nat) (l3 : Int), UG_firstHeap_L7 F n M l2 l1 l3 = some res → bz_J K 5 7 [(3, bz_i l3), (2, bz_i l2), (0, bz_rf E 69), (1, bz_i l1)] [] M := by
  intro n
  induction n with
  | zero => intro l3 hf; cases hf
  | succ n ih =>
    intro l3 hf
    rw [UG_firstHeap_L7] at hf
    refine j_iload_n X dUG_firstHeap_7 rfl 0 rfl ?_
    refine j_iload_n X dUG_firstHeap_8 rfl 3 rfl ?_
    refine j_icmp_ge X (tgt := 76) rfl rfl dUG_firstHeap_9 (by decide) hf (fun hf => ?_) (fun hf => ?_)
    · exact j_sub [3] rfl (kx _ hf)
    · refine j_iload_n X dUG_firstHeap_12 rfl 0 rfl ?_
      refine j_iload_n X dUG_firstHeap_13 rfl 1 rfl ?_
      refine j_iand X dUG_firstHeap_14 ?_
      obtain ⟨resJ1, hf0, hkJ1⟩ := q_l1 hf
      have J1 : ∀ (v2 : Int), some v2 = some resJ1 → bz_J K 5 31 [(3, bz_i l3), (2, bz_i l2), (0, bz_rf E 69), (1, bz_i l1)] [bz_i v2] M := by
        intro v2 he
        have hf := hkJ1 _ he
        refine j_istore X (lv' := [(4, bz_i v2), (3, bz_i l3), (2, bz_i l2), (0, bz_rf E 69), (1, bz_i l1)]) dUG_firstHeap_31 (by decide) rfl ?_
        refine j_iload X dUG_firstHeap_33 0 rfl ?_
        refine j_if_eq X (tgt := 70) rfl dUG_firstHeap_35 (by decide) hf (fun hf => ?_) (fun hf => ?_)
        · refine j_iinc X (y := l3 + 1) (lv' := [(3, bz_i (l3 + 1)), (4, bz_i v2), (2, bz_i l2), (0, bz_rf E 69), (1, bz_i l1)]) dUG_firstHeap_70 1 rfl rfl (by decide) rfl ?_
          refine j_goto X (tgt := 7) dUG_firstHeap_73 (by decide) ?_
          exact j_sub [0, 2, 3, 4] rfl (ih _ hf)
        · refine j_aload_n X dUG_firstHeap_38 rfl 3 rfl ?_
          refine j_geta X gf_UG_28_69 dUG_firstHeap_39 ?_
          refine j_iload_n X dUG_firstHeap_42 rfl 1 rfl ?_
          refine j_lald X sh_75 dUG_firstHeap_43 hf (fun x3 hf => ?_)
          refine j_lconst X (v := 0) dUG_firstHeap_44 rfl ?_
          refine j_lcmp_ne X (tgt := 70) rfl (w64_lit rfl) dUG_firstHeap_45 dUG_firstHeap_46 (by decide) hf (fun hf => ?_) (fun hf => ?_)
          · refine j_iinc X (y := l3 + 1) (lv' := [(3, bz_i (l3 + 1)), (4, bz_i v2), (2, bz_i l2), (0, bz_rf E 69), (1, bz_i l1)]) dUG_firstHeap_70 1 rfl rfl (by decide) rfl ?_
            refine j_goto X (tgt := 7) dUG_firstHeap_73 (by decide) ?_
            exact j_sub [0, 2, 3, 4] rfl (ih _ hf)
          · refine j_aload_n X dUG_firstHeap_49 rfl 3 rfl ?_
            refine j_geta X gf_UG_31_69 dUG_firstHeap_50 ?_
            refine j_iload_n X dUG_firstHeap_53 rfl 4 rfl ?_
            refine j_iload_n X dUG_firstHeap_54 rfl 1 rfl ?_
            refine j_ixor X dUG_firstHeap_55 ?_
            refine j_iald X sh_76 dUG_firstHeap_56 hf (fun x4 hf => ?_)
            refine j_iconst X dUG_firstHeap_57 ?_
            show bz_J _ _ 58 _ _ _
            refine j_iadd X dUG_firstHeap_58 ?_
            refine j_aload_n X dUG_firstHeap_59 rfl 3 rfl ?_
            refine j_geta X gf_UG_31_69 dUG_firstHeap_60 ?_
            refine j_iload_n X dUG_firstHeap_63 rfl 4 rfl ?_
            refine j_iald X sh_76 dUG_firstHeap_64 hf (fun x5 hf => ?_)
            refine j_icmp_ne X (tgt := 70) rfl rfl dUG_firstHeap_65 (by decide) hf (fun hf => ?_) (fun hf => ?_)
            · refine j_iinc X (y := l3 + 1) (lv' := [(3, bz_i (l3 + 1)), (4, bz_i v2), (2, bz_i l2), (0, bz_rf E 69), (1, bz_i l1)]) dUG_firstHeap_70 1 rfl rfl (by decide) rfl ?_
              refine j_goto X (tgt := 7) dUG_firstHeap_73 (by decide) ?_
              exact j_sub [0, 2, 3, 4] rfl (ih _ hf)
            · refine j_iload_n X dUG_firstHeap_68 rfl 1 rfl ?_
              exact j_iret X dUG_firstHeap_69 (kr _ hf).1 (kr _ hf).2
      clear hf
      have hf := hf0
      clear hf0
      refine j_if_eq X (tgt := 30) rfl dUG_firstHeap_15 (by decide) hf (fun hf => ?_) (fun hf => ?_)
      · refine j_iconst X dUG_firstHeap_30 ?_
        exact J1 _ hf
      · refine j_iload_n X dUG_firstHeap_18 rfl 0 rfl ?_
        refine j_iload_n X dUG_firstHeap_19 rfl 3 rfl ?_
        refine j_iconst X dUG_firstHeap_20 ?_
        refine j_ixor X dUG_firstHeap_21 ?_
        refine j_iand X dUG_firstHeap_22 ?_
        refine j_if_ne X (tgt := 30) rfl dUG_firstHeap_23 (by decide) hf (fun hf => ?_) (fun hf => ?_)
        · refine j_iconst X dUG_firstHeap_30 ?_
          exact J1 _ hf
        · refine j_iconst X dUG_firstHeap_26 ?_
          refine j_goto X (tgt := 31) dUG_firstHeap_27 (by decide) ?_
          exact J1 _ hf
def fUG_firstHeap (F : Nat) (M : bz_Mm) (a1 : Int) : Option (Int) :=
  lt_ (ia_ a1 (-a1)) fun l2 =>
  cs1_ (UG_firstHeap_L7 F F M l2 a1 l2) (fun b => some b) fun _u =>
  some a1
set_option maxHeartbeats 4000000 in
set_option maxRecDepth 20000 in
theorem cUG_firstHeap (E : bz_E) (F : Nat)  {M : bz_Mm} {a1 : Int} {x0 : Int} (hf : fUG_firstHeap F M a1 = some x0) : bz_Ct E yUG_firstHeap (.code yUG_firstHeap prog_8_method_5_code 5 (some .int)) 0 0 [bz_rf E 69, bz_i a1] M (some (bz_i x0)) M := by
  refine bz_met (by decide +kernel) (Nat.le_of_ble_eq_true rfl) (fun K X => ?_)
  have X : bz_X K E prog_8_method_5_code 5 "UnitsWrong$Settlement" (some .int) 0 0 _ _ := X
  unfold fUG_firstHeap at hf
  show bz_J K 5 0 [(0, bz_rf E 69), (1, bz_i a1)] [] M
  refine j_iload_n X dUG_firstHeap_0 rfl 1 rfl ?_
  refine j_iload_n X dUG_firstHeap_1 rfl 1 rfl ?_
  refine j_ineg X dUG_firstHeap_2 ?_
  refine j_iand X dUG_firstHeap_3 ?_
  refine j_lt (g := bz_i) hf (fun l2 hf => ?_)
  refine j_istore_n X (lv' := [(2, bz_i l2), (0, bz_rf E 69), (1, bz_i a1)]) dUG_firstHeap_4 rfl (by decide) rfl ?_
  refine j_iload_n X dUG_firstHeap_5 rfl 0 rfl ?_
  refine j_istore_n X (lv' := [(3, bz_i l2), (2, bz_i l2), (0, bz_rf E 69), (1, bz_i a1)]) dUG_firstHeap_6 rfl (by decide) rfl ?_
  obtain ⟨res6, hz6, hk6, hr6⟩ := q_s1 hf
  clear hf
  refine lUG_firstHeap_L7 E F X (fun _u he => ?_) (fun b he => ?_) F l2 hz6
  · have hf := hk6 _ he
    refine j_iload_n X dUG_firstHeap_76 rfl 0 rfl ?_
    cases hf
    exact j_iret X dUG_firstHeap_77 rfl rfl
  · have hf := hr6 _ he
    cases hf
    exact ⟨rfl, rfl⟩
def UG_payWithin_L8 (F : Nat) : Nat → Int → Int → Int → Int → bz_Mm → Option (bz_Mm)
  | 0, _, _, _, _, _ => none
  | n + 1, l1, l5, l4, l2, M =>
    if w32 l5 < w32 (M 69 8) then
    (if w32 (ia_ (sr_ l1 l5) 1) = 0 then
    (UG_payWithin_L8 F n l1 (l5 + 1) l4 l2 M)
    else
    (cl1_ (if w32 l4 = (-1) then
    (some (M))
    else
    (if w32 (M 69 3) < 10 then
    (cl1_ (if 0 < w64 l2 then
    (rd_ M 73 l4 10 fun x5 =>
    some (x5))
    else
    (rd_ M 73 l5 10 fun x4 =>
    some (x4))) fun v3 =>
    wa_ M 70 (M 69 3) 10 v3 fun m6 =>
    cl1_ (if 0 < w64 l2 then
    (rd_ m6 73 l5 10 fun x10 =>
    some (x10))
    else
    (rd_ m6 73 l4 10 fun x9 =>
    some (x9))) fun v8 =>
    wa_ m6 71 (m6 69 3) 10 v8 fun m11 =>
    wa_ m11 72 (m11 69 3) 10 (fJM_abs1 l2) fun m12 =>
    wf_ m12 69 3 ((m12 69 3) + 1) fun m13 =>
    some (m13))
    else
    (some (M)))) fun m14 =>
    rd_ m14 74 l5 10 fun x15 =>
    lt_ (l2 - x15) fun l2 =>
    UG_payWithin_L8 F n l1 (l5 + 1) l5 l2 m14))
    else
    (some M)
theorem lUG_payWithin_L8 (E : bz_E) (F : Nat) {K : bz_K} {rv : Option Value} {M1 : bz_Mm} (X : bz_X K E prog_8_method_6_code 6 "UnitsWrong$Settlement" none 1 21 rv M1) {l1 : Int} {res : (bz_Mm)}
    (kx : ∀ (M : bz_Mm), some M = some res → bz_J K 6 151 [] [] M) :
    ∀ (n : Nat) (l5 : Int) (l4 : Int) (l2 : Int) (M : bz_Mm), UG_payWithin_L8 F n l1 l5 l4 l2 M = some res → bz_J K 6 8 [(5, bz_i l5), (4, bz_i l4), (2, bz_l l2), (0, bz_rf E 69), (1, bz_i l1)] [] M := by
  intro n
  induction n with
  | zero => intro l5 l4 l2 M hf; cases hf
  | succ n ih =>
    intro l5 l4 l2 M hf
    rw [UG_payWithin_L8] at hf
    refine j_iload X dUG_payWithin_8 0 rfl ?_
    refine j_aload_n X dUG_payWithin_10 rfl 3 rfl ?_
    refine j_geti X gf_UG_45_69 dUG_payWithin_11 ?_
    refine j_icmp_ge X (tgt := 151) rfl rfl dUG_payWithin_14 (by decide) hf (fun hf => ?_) (fun hf => ?_)
    · exact j_sub [] rfl (kx _ hf)
    · refine j_iload_n X dUG_payWithin_17 rfl 4 rfl ?_
      refine j_iload X dUG_payWithin_18 0 rfl ?_
      refine j_ishr X dUG_payWithin_20 ?_
      refine j_iconst X dUG_payWithin_21 ?_
      refine j_iand X dUG_payWithin_22 ?_
      refine j_if_ne X (tgt := 29) rfl dUG_payWithin_23 (by decide) hf (fun hf => ?_) (fun hf => ?_)
      · refine j_iload X dUG_payWithin_29 1 rfl ?_
        refine j_iconst X dUG_payWithin_31 ?_
        obtain ⟨resJ1, hf0, hkJ1⟩ := q_l1 hf
        have J1 : ∀ (m14 : bz_Mm), some m14 = some resJ1 → bz_J K 6 131 [(5, bz_i l5), (2, bz_l l2), (0, bz_rf E 69), (1, bz_i l1)] [] m14 := by
          intro m14 he
          have hf := hkJ1 _ he
          refine j_lload_n X dUG_payWithin_131 rfl 1 rfl ?_
          refine j_aload_n X dUG_payWithin_132 rfl 2 rfl ?_
          refine j_geta X gf_UG_25_69 dUG_payWithin_133 ?_
          refine j_iload X dUG_payWithin_136 0 rfl ?_
          refine j_lald X sh_74 dUG_payWithin_138 hf (fun x15 hf => ?_)
          refine j_lsub X dUG_payWithin_139 ?_
          refine j_lt (g := bz_l) hf (fun l2 hf => ?_)
          refine j_lstore_n X (lv' := [(2, bz_l l2), (5, bz_i l5), (0, bz_rf E 69), (1, bz_i l1)]) dUG_payWithin_140 rfl (by decide) rfl ?_
          show bz_J _ _ 141 _ _ _
          refine j_iload X dUG_payWithin_141 1 rfl ?_
          refine j_istore X (lv' := [(4, bz_i l5), (2, bz_l l2), (5, bz_i l5), (0, bz_rf E 69), (1, bz_i l1)]) dUG_payWithin_143 (by decide) rfl ?_
          refine j_iinc X (y := l5 + 1) (lv' := [(5, bz_i (l5 + 1)), (4, bz_i l5), (2, bz_l l2), (0, bz_rf E 69), (1, bz_i l1)]) dUG_payWithin_145 2 rfl rfl (by decide) rfl ?_
          refine j_goto X (tgt := 8) dUG_payWithin_148 (by decide) ?_
          exact ih _ _ _ _ hf
        clear hf
        have hf := hf0
        clear hf0
        refine j_icmp_eq X (tgt := 131) rfl (w32_lit rfl) dUG_payWithin_32 (by decide) hf (fun hf => ?_) (fun hf => ?_)
        · exact j_sub [0, 2, 3, 4] rfl (J1 _ hf)
        · refine j_aload_n X dUG_payWithin_35 rfl 3 rfl ?_
          refine j_geti X gf_UG_34_69 dUG_payWithin_36 ?_
          refine j_bipush X dUG_payWithin_39 rfl ?_
          refine j_icmp_ge X (tgt := 131) rfl (w32_lit rfl) dUG_payWithin_41 (by decide) hf (fun hf => ?_) (fun hf => ?_)
          · exact j_sub [0, 2, 3, 4] rfl (J1 _ hf)
          · refine j_aload_n X dUG_payWithin_44 rfl 3 rfl ?_
            refine j_geta X gf_UG_11_69 dUG_payWithin_45 ?_
            refine j_aload_n X dUG_payWithin_48 rfl 3 rfl ?_
            refine j_geti X gf_UG_34_69 dUG_payWithin_49 ?_
            refine j_lload_n X dUG_payWithin_52 rfl 2 rfl ?_
            refine j_lconst X (v := 0) dUG_payWithin_53 rfl ?_
            obtain ⟨resJ2, hf0, hkJ2⟩ := q_l1 hf
            have J2 : ∀ (v3 : Int), some v3 = some resJ2 → bz_J K 6 75 [(5, bz_i l5), (4, bz_i l4), (2, bz_l l2), (0, bz_rf E 69), (1, bz_i l1)] [bz_i v3, bz_i (M 69 3), bz_rf E 70] M := by
              intro v3 he
              have hf := hkJ2 _ he
              refine j_iast X sh_70 dUG_payWithin_75 hf (fun m6 hf => ?_)
              refine j_aload_n X dUG_payWithin_76 rfl 3 rfl ?_
              refine j_geta X gf_UG_15_69 dUG_payWithin_77 ?_
              refine j_aload_n X dUG_payWithin_80 rfl 3 rfl ?_
              refine j_geti X gf_UG_34_69 dUG_payWithin_81 ?_
              refine j_lload_n X dUG_payWithin_84 rfl 2 rfl ?_
              refine j_lconst X (v := 0) dUG_payWithin_85 rfl ?_
              show bz_J _ _ 86 _ _ _
              obtain ⟨resJ7, hf0, hkJ7⟩ := q_l1 hf
              have J7 : ∀ (v8 : Int), some v8 = some resJ7 → bz_J K 6 107 [(5, bz_i l5), (2, bz_l l2), (0, bz_rf E 69), (1, bz_i l1)] [bz_i v8, bz_i (m6 69 3), bz_rf E 71] m6 := by
                intro v8 he
                have hf := hkJ7 _ he
                refine j_iast X sh_71 dUG_payWithin_107 hf (fun m11 hf => ?_)
                refine j_aload_n X dUG_payWithin_108 rfl 2 rfl ?_
                refine j_geta X gf_UG_18_69 dUG_payWithin_109 ?_
                refine j_aload_n X dUG_payWithin_112 rfl 2 rfl ?_
                refine j_geti X gf_UG_34_69 dUG_payWithin_113 ?_
                refine j_lload_n X dUG_payWithin_116 rfl 1 rfl ?_
                refine j_cs X (st := [bz_i (m11 69 3), bz_rf E 72]) (cJM_abs1 E) gyJM_abs1 wd_872 rfl (by decide) (by decide) wd_1139 rfl (Nat.le_of_ble_eq_true rfl) dUG_payWithin_117 ?_
                show bz_J _ _ 120 _ _ _
                refine j_last X sh_72 dUG_payWithin_120 hf (fun m12 hf => ?_)
                refine j_aload_n X dUG_payWithin_121 rfl 2 rfl ?_
                refine j_dup X dUG_payWithin_122 rfl ?_
                refine j_geti X gf_UG_34_69 dUG_payWithin_123 ?_
                refine j_iconst X dUG_payWithin_126 ?_
                refine j_iadd X dUG_payWithin_127 ?_
                refine j_puti X pf_UG_34_69 dUG_payWithin_128 hf (fun m13 hf => ?_)
                exact J1 _ hf
              clear hf
              have hf := hf0
              clear hf0
              refine j_lcmp_le X (tgt := 100) rfl (w64_lit rfl) dUG_payWithin_86 dUG_payWithin_87 (by decide) hf (fun hf => ?_) (fun hf => ?_)
              · refine j_aload_n X dUG_payWithin_100 rfl 3 rfl ?_
                refine j_geta X gf_UG_22_69 dUG_payWithin_101 ?_
                refine j_iload X dUG_payWithin_104 1 rfl ?_
                refine j_iald X sh_73 dUG_payWithin_106 hf (fun x9 hf => ?_)
                exact j_sub [0, 2, 3, 4] rfl (J7 _ hf)
              · refine j_aload_n X dUG_payWithin_90 rfl 3 rfl ?_
                refine j_geta X gf_UG_22_69 dUG_payWithin_91 ?_
                refine j_iload X dUG_payWithin_94 0 rfl ?_
                refine j_iald X sh_73 dUG_payWithin_96 hf (fun x10 hf => ?_)
                refine j_goto X (tgt := 107) dUG_payWithin_97 (by decide) ?_
                exact j_sub [0, 2, 3, 4] rfl (J7 _ hf)
            clear hf
            have hf := hf0
            clear hf0
            refine j_lcmp_le X (tgt := 68) rfl (w64_lit rfl) dUG_payWithin_54 dUG_payWithin_55 (by decide) hf (fun hf => ?_) (fun hf => ?_)
            · refine j_aload_n X dUG_payWithin_68 rfl 3 rfl ?_
              refine j_geta X gf_UG_22_69 dUG_payWithin_69 ?_
              refine j_iload X dUG_payWithin_72 0 rfl ?_
              refine j_iald X sh_73 dUG_payWithin_74 hf (fun x4 hf => ?_)
              exact J2 _ hf
            · refine j_aload_n X dUG_payWithin_58 rfl 3 rfl ?_
              refine j_geta X gf_UG_22_69 dUG_payWithin_59 ?_
              refine j_iload X dUG_payWithin_62 1 rfl ?_
              refine j_iald X sh_73 dUG_payWithin_64 hf (fun x5 hf => ?_)
              refine j_goto X (tgt := 75) dUG_payWithin_65 (by decide) ?_
              exact J2 _ hf
      · refine j_goto X (tgt := 145) dUG_payWithin_26 (by decide) ?_
        refine j_iinc X (y := l5 + 1) (lv' := [(5, bz_i (l5 + 1)), (4, bz_i l4), (2, bz_l l2), (0, bz_rf E 69), (1, bz_i l1)]) dUG_payWithin_145 0 rfl rfl (by decide) rfl ?_
        refine j_goto X (tgt := 8) dUG_payWithin_148 (by decide) ?_
        exact ih _ _ _ _ hf
def fUG_payWithin (F : Nat) (M : bz_Mm) (a1 : Int) : Option (bz_Mm) :=
  cl1_ (UG_payWithin_L8 F F a1 0 ((-1)) 0 M) fun m16 =>
  some m16
set_option maxHeartbeats 4000000 in
set_option maxRecDepth 20000 in
theorem cUG_payWithin (E : bz_E) (F : Nat)  {M : bz_Mm} {a1 : Int} {x0 : bz_Mm} (hf : fUG_payWithin F M a1 = some x0) : bz_Ct E yUG_payWithin (.code yUG_payWithin prog_8_method_6_code 6 none) 1 21 [bz_rf E 69, bz_i a1] M (none) x0 := by
  refine bz_met (by decide +kernel) (Nat.le_of_ble_eq_true rfl) (fun K X => ?_)
  have X : bz_X K E prog_8_method_6_code 6 "UnitsWrong$Settlement" none 1 21 _ _ := X
  unfold fUG_payWithin at hf
  show bz_J K 6 0 [(0, bz_rf E 69), (1, bz_i a1)] [] M
  refine j_lconst X (v := 0) dUG_payWithin_0 rfl ?_
  refine j_lstore_n X (lv' := [(2, bz_l 0), (0, bz_rf E 69), (1, bz_i a1)]) dUG_payWithin_1 rfl (by decide) rfl ?_
  refine j_iconst X dUG_payWithin_2 ?_
  refine j_istore X (lv' := [(4, bz_i ((-1))), (2, bz_l 0), (0, bz_rf E 69), (1, bz_i a1)]) dUG_payWithin_3 (by decide) rfl ?_
  refine j_iconst X dUG_payWithin_5 ?_
  refine j_istore X (lv' := [(5, bz_i 0), (4, bz_i ((-1))), (2, bz_l 0), (0, bz_rf E 69), (1, bz_i a1)]) dUG_payWithin_6 (by decide) rfl ?_
  obtain ⟨res17, hz17, hk17⟩ := q_l1 hf
  clear hf
  refine lUG_payWithin_L8 E F X (fun m16 he => ?_) F 0 ((-1)) 0 M hz17
  have hf := hk17 _ he
  cases hf
  exact j_vret X dUG_payWithin_151 rfl rfl
def UG_arrange_68_L30 (F : Nat) : Nat → Int → Int → bz_Mm → Option (bz_Mm)
  | 0, _, _, _ => none
  | n + 1, l3, l2, M =>
    if w32 l3 < 10 then
    (if w32 l2 = 0 then
    (some M)
    else
    (cl_ (fUG_firstHeap F M l2) fun x5 =>
    cl_ (fUG_payWithin F M x5) fun m6 =>
    lt_ (ia_ l2 (ix_ x5 ((-1)))) fun l2 =>
    UG_arrange_68_L30 F n (l3 + 1) l2 m6))
    else
    (some M)
theorem lUG_arrange_68_L30 (E : bz_E) (F : Nat) {K : bz_K} {rv : Option Value} {M1 : bz_Mm} (X : bz_X K E prog_8_method_2_code 5 "UnitsWrong$Settlement" (some .boolean) 2 46 rv M1) {res : (bz_Mm)}
    (kx : ∀ (M : bz_Mm), some M = some res → bz_J K 5 66 [] [] M) :
    ∀ (n : Nat) (l3 : Int) (l2 : Int) (M : bz_Mm), UG_arrange_68_L30 F n l3 l2 M = some res → bz_J K 5 30 [(3, bz_i l3), (2, bz_i l2), (0, bz_rf E 69)] [] M := by
  intro n
  induction n with
  | zero => intro l3 l2 M hf; cases hf
  | succ n ih =>
    intro l3 l2 M hf
    rw [UG_arrange_68_L30] at hf
    refine j_iload_n X dUG_arrange_30 rfl 0 rfl ?_
    refine j_bipush X dUG_arrange_31 rfl ?_
    refine j_icmp_ge X (tgt := 66) rfl (w32_lit rfl) dUG_arrange_33 (by decide) hf (fun hf => ?_) (fun hf => ?_)
    · exact j_sub [] rfl (kx _ hf)
    · refine j_iload_n X dUG_arrange_36 rfl 1 rfl ?_
      refine j_if_eq X (tgt := 66) rfl dUG_arrange_37 (by decide) hf (fun hf => ?_) (fun hf => ?_)
      · exact j_sub [] rfl (kx _ hf)
      · refine j_aload_n X dUG_arrange_40 rfl 2 rfl ?_
        refine j_iload_n X dUG_arrange_41 rfl 1 rfl ?_
        obtain ⟨x5, hzx5, hf⟩ := q_cl hf
        refine j_cv X (st := []) (cUG_firstHeap E F hzx5) gyUG_firstHeap gv_UG_firstHeap_69 rfl (by decide) (by decide) wd_1131 rfl (Nat.le_of_ble_eq_true rfl) dUG_arrange_42 ?_
        refine j_istore X (lv' := [(4, bz_i x5), (3, bz_i l3), (2, bz_i l2), (0, bz_rf E 69)]) dUG_arrange_45 (by decide) rfl ?_
        refine j_aload_n X dUG_arrange_47 rfl 3 rfl ?_
        refine j_iload X dUG_arrange_48 0 rfl ?_
        obtain ⟨m6, hz, hf⟩ := q_cl hf
        refine j_cv X (st := []) (cUG_payWithin E F hz) gyUG_payWithin gv_UG_payWithin_69 rfl (by decide) (by decide) wd_1135 rfl (Nat.le_of_ble_eq_true rfl) dUG_arrange_50 ?_
        clear hz
        show bz_J _ _ 53 _ _ _
        refine j_iload_n X dUG_arrange_53 rfl 2 rfl ?_
        refine j_iload X dUG_arrange_54 0 rfl ?_
        refine j_iconst X dUG_arrange_56 ?_
        refine j_ixor X dUG_arrange_57 ?_
        refine j_iand X dUG_arrange_58 ?_
        refine j_lt (g := bz_i) hf (fun l2 hf => ?_)
        refine j_istore_n X (lv' := [(2, bz_i l2), (4, bz_i x5), (3, bz_i l3), (0, bz_rf E 69)]) dUG_arrange_59 rfl (by decide) rfl ?_
        refine j_iinc X (y := l3 + 1) (lv' := [(3, bz_i (l3 + 1)), (2, bz_i l2), (4, bz_i x5), (0, bz_rf E 69)]) dUG_arrange_60 2 rfl rfl (by decide) rfl ?_
        refine j_goto X (tgt := 30) dUG_arrange_63 (by decide) ?_
        exact j_sub [0, 1, 3] rfl (ih _ _ _ hf)
def fUG_arrange_68 (F : Nat) (M : bz_Mm) : Option (Int × bz_Mm) :=
  wf_ M 69 3 0 fun m1 =>
  cl2_ (fUG_findParties_68 F m1) fun x3 m2 =>
  if w32 x3 = 0 then
  (some ((0, m2)))
  else
  (cl_ (fUG_countHeaps F m2) fun m4 =>
  lt_ ((sl_ 1 (m4 69 8)) - 1) fun l2 =>
  cl1_ (UG_arrange_68_L30 F F 0 l2 m4) fun m7 =>
  some ((1, m7)))
set_option maxHeartbeats 4000000 in
set_option maxRecDepth 20000 in
theorem cUG_arrange_68 (E : bz_E) (F : Nat)  {M : bz_Mm} {x0 : Int × bz_Mm} (hf : fUG_arrange_68 F M = some x0) : bz_Ct E yUG_arrange (.code yUG_arrange prog_8_method_2_code 5 (some .boolean)) 2 46 [bz_rf E 69, bz_rf E 68] M (some (bz_i x0.1)) x0.2 := by
  refine bz_met (by decide +kernel) (Nat.le_of_ble_eq_true rfl) (fun K X => ?_)
  have X : bz_X K E prog_8_method_2_code 5 "UnitsWrong$Settlement" (some .boolean) 2 46 _ _ := X
  unfold fUG_arrange_68 at hf
  show bz_J K 5 0 [(0, bz_rf E 69), (1, bz_rf E 68)] [] M
  refine j_aload_n X dUG_arrange_0 rfl 0 rfl ?_
  refine j_iconst X dUG_arrange_1 ?_
  refine j_puti X pf_UG_34_69 dUG_arrange_2 hf (fun m1 hf => ?_)
  refine j_aload_n X dUG_arrange_5 rfl 0 rfl ?_
  refine j_aload_n X dUG_arrange_6 rfl 1 rfl ?_
  obtain ⟨x3, m2, hz, hf⟩ := q_cl2 hf
  refine j_cv X (st := []) (cUG_findParties_68 E F hz) gyUG_findParties gv_UG_findParties_69 rfl (by decide) (by decide) wd_1122 rfl (Nat.le_of_ble_eq_true rfl) dUG_arrange_7 ?_
  clear hz
  refine j_if_ne X (tgt := 15) rfl dUG_arrange_10 (by decide) hf (fun hf => ?_) (fun hf => ?_)
  · refine j_aload_n X dUG_arrange_15 rfl 0 rfl ?_
    obtain ⟨m4, hz, hf⟩ := q_cl hf
    refine j_cv X (st := []) (cUG_countHeaps E F hz) gyUG_countHeaps gv_UG_countHeaps_69 rfl (by decide) (by decide) wd_1126 rfl (Nat.le_of_ble_eq_true rfl) dUG_arrange_16 ?_
    clear hz
    refine j_iconst X dUG_arrange_19 ?_
    refine j_aload_n X dUG_arrange_20 rfl 0 rfl ?_
    refine j_geti X gf_UG_45_69 dUG_arrange_21 ?_
    refine j_ishl X dUG_arrange_24 ?_
    refine j_iconst X dUG_arrange_25 ?_
    show bz_J _ _ 26 _ _ _
    refine j_isub X dUG_arrange_26 ?_
    refine j_lt (g := bz_i) hf (fun l2 hf => ?_)
    refine j_istore_n X (lv' := [(2, bz_i l2), (0, bz_rf E 69), (1, bz_rf E 68)]) dUG_arrange_27 rfl (by decide) rfl ?_
    refine j_iconst X dUG_arrange_28 ?_
    refine j_istore_n X (lv' := [(3, bz_i 0), (2, bz_i l2), (0, bz_rf E 69), (1, bz_rf E 68)]) dUG_arrange_29 rfl (by decide) rfl ?_
    obtain ⟨res8, hz8, hk8⟩ := q_l1 hf
    clear hf
    refine j_sub [0, 1, 2] rfl ?_
    refine lUG_arrange_68_L30 E F X (fun m7 he => ?_) F 0 l2 m4 hz8
    have hf := hk8 _ he
    refine j_iconst X dUG_arrange_66 ?_
    cases hf
    exact j_zret X (by decide +kernel) dUG_arrange_67 rfl rfl
  · refine j_iconst X dUG_arrange_13 ?_
    cases hf
    exact j_zret X (by decide +kernel) dUG_arrange_14 rfl rfl
def fU_payments (F : Nat) (M : bz_Mm) (a1 : Int) : Option (Int × bz_Mm) :=
  if w32 (fUS_isFund M a1) = 0 then
  (some (((-1), M)))
  else
  (cl_ (fU_settle F M a1) fun m1 =>
  cl2_ (fUG_arrange_68 F m1) fun x3 m2 =>
  if w32 x3 = 0 then
  (some (((-1), m2)))
  else
  (some ((m2 69 3, m2))))
set_option maxHeartbeats 4000000 in
set_option maxRecDepth 20000 in
theorem cU_payments (E : bz_E) (F : Nat)  {M : bz_Mm} {a1 : Int} {x0 : Int × bz_Mm} (hf : fU_payments F M a1 = some x0) : bz_Ct E yU_payments (.code yU_payments prog_1_method_39_code 2 (some .int)) 7 167 [bz_rf E 0, bz_i a1] M (some (bz_i x0.1)) x0.2 := by
  refine bz_met (by decide +kernel) (Nat.le_of_ble_eq_true rfl) (fun K X => ?_)
  have X : bz_X K E prog_1_method_39_code 2 "UnitsWrong" (some .int) 7 167 _ _ := X
  unfold fU_payments at hf
  show bz_J K 2 0 [(0, bz_rf E 0), (1, bz_i a1)] [] M
  refine j_aload_n X dU_payments_0 rfl 0 rfl ?_
  refine j_geta X gf_U_10_0 dU_payments_1 ?_
  refine j_iload_n X dU_payments_4 rfl 1 rfl ?_
  refine j_cv X (st := []) (cUS_isFund E) gyUS_isFund gv_US_isFund_1 rfl (by decide) (by decide) wd_584 rfl (Nat.le_of_ble_eq_true rfl) dU_payments_5 ?_
  refine j_if_ne X (tgt := 13) rfl dU_payments_8 (by decide) hf (fun hf => ?_) (fun hf => ?_)
  · refine j_aload_n X dU_payments_13 rfl 0 rfl ?_
    refine j_iload_n X dU_payments_14 rfl 1 rfl ?_
    obtain ⟨m1, hz, hf⟩ := q_cl hf
    refine j_cv X (st := []) (cU_settle E F hz) gyU_settle gv_U_settle_0 rfl (by decide) (by decide) wd_1101 rfl (Nat.le_of_ble_eq_true rfl) dU_payments_15 ?_
    clear hz
    refine j_aload_n X dU_payments_18 rfl 0 rfl ?_
    refine j_geta X gf_U_40_0 dU_payments_19 ?_
    refine j_aload_n X dU_payments_22 rfl 0 rfl ?_
    refine j_geta X gf_U_33_0 dU_payments_23 ?_
    show bz_J _ _ 26 _ _ _
    refine j_geta X gf_U_339_65 dU_payments_26 ?_
    obtain ⟨x3, m2, hz, hf⟩ := q_cl2 hf
    refine j_cv X (st := []) (cUG_arrange_68 E F hz) gyUG_arrange gv_UG_arrange_69 rfl (by decide) (by decide) wd_1118 rfl (Nat.le_of_ble_eq_true rfl) dU_payments_29 ?_
    clear hz
    refine j_if_eq X (tgt := 45) rfl dU_payments_32 (by decide) hf (fun hf => ?_) (fun hf => ?_)
    · refine j_iconst X dU_payments_45 ?_
      cases hf
      exact j_iret X dU_payments_46 rfl rfl
    · refine j_aload_n X dU_payments_35 rfl 0 rfl ?_
      refine j_geta X gf_U_40_0 dU_payments_36 ?_
      refine j_geti X gf_U_346_69 dU_payments_39 ?_
      refine j_goto X (tgt := 46) dU_payments_42 (by decide) ?_
      cases hf
      exact j_iret X dU_payments_46 rfl rfl
  · refine j_iconst X dU_payments_11 ?_
    cases hf
    exact j_iret X dU_payments_12 rfl rfl
def fU_payment (F : Nat) (M : bz_Mm) (a1 : Int) (a2 : Int) (a3 : Int) : Option (Int × bz_Mm) :=
  if w32 (fUS_isFund M a1) = 0 then
  (some (((-2147483648), M)))
  else
  (cl_ (fU_settle F M a1) fun m1 =>
  cl2_ (fUG_arrange_68 F m1) fun x3 m2 =>
  if w32 x3 = 0 then
  (some (((-2147483648), m2)))
  else
  (if w32 a2 < 0 then
  (some (((-2147483648), m2)))
  else
  (if w32 a2 < w32 (m2 69 3) then
  (if w32 a3 = 0 then
  (rd_ m2 70 a2 10 fun x4 =>
  some ((x4, m2)))
  else if w32 a3 = 1 then
  (rd_ m2 71 a2 10 fun x5 =>
  some ((x5, m2)))
  else if w32 a3 = 2 then
  (rd_ m2 72 a2 10 fun x6 =>
  some ((fU_told x6, m2)))
  else (some (((-2147483648), m2))))
  else
  (some (((-2147483648), m2))))))
set_option maxHeartbeats 4000000 in
set_option maxRecDepth 20000 in
theorem cU_payment (E : bz_E) (F : Nat)  {M : bz_Mm} {a1 : Int} {a2 : Int} {a3 : Int} {x0 : Int × bz_Mm} (hf : fU_payment F M a1 a2 a3 = some x0) : bz_Ct E yU_payment (.code yU_payment prog_1_method_40_code 4 (some .int)) 7 167 [bz_rf E 0, bz_i a1, bz_i a2, bz_i a3] M (some (bz_i x0.1)) x0.2 := by
  refine bz_met (by decide +kernel) (Nat.le_of_ble_eq_true rfl) (fun K X => ?_)
  have X : bz_X K E prog_1_method_40_code 4 "UnitsWrong" (some .int) 7 167 _ _ := X
  unfold fU_payment at hf
  show bz_J K 4 0 [(0, bz_rf E 0), (1, bz_i a1), (2, bz_i a2), (3, bz_i a3)] [] M
  refine j_aload_n X dU_payment_0 rfl 0 rfl ?_
  refine j_geta X gf_U_10_0 dU_payment_1 ?_
  refine j_iload_n X dU_payment_4 rfl 1 rfl ?_
  refine j_cv X (st := []) (cUS_isFund E) gyUS_isFund gv_US_isFund_1 rfl (by decide) (by decide) wd_584 rfl (Nat.le_of_ble_eq_true rfl) dU_payment_5 ?_
  refine j_if_ne X (tgt := 14) rfl dU_payment_8 (by decide) hf (fun hf => ?_) (fun hf => ?_)
  · refine j_aload_n X dU_payment_14 rfl 0 rfl ?_
    refine j_iload_n X dU_payment_15 rfl 1 rfl ?_
    obtain ⟨m1, hz, hf⟩ := q_cl hf
    refine j_cv X (st := []) (cU_settle E F hz) gyU_settle gv_U_settle_0 rfl (by decide) (by decide) wd_1101 rfl (Nat.le_of_ble_eq_true rfl) dU_payment_16 ?_
    clear hz
    refine j_aload_n X dU_payment_19 rfl 0 rfl ?_
    refine j_geta X gf_U_40_0 dU_payment_20 ?_
    refine j_aload_n X dU_payment_23 rfl 0 rfl ?_
    refine j_geta X gf_U_33_0 dU_payment_24 ?_
    show bz_J _ _ 27 _ _ _
    refine j_geta X gf_U_339_65 dU_payment_27 ?_
    obtain ⟨x3, m2, hz, hf⟩ := q_cl2 hf
    refine j_cv X (st := []) (cUG_arrange_68 E F hz) gyUG_arrange gv_UG_arrange_69 rfl (by decide) (by decide) wd_1118 rfl (Nat.le_of_ble_eq_true rfl) dU_payment_30 ?_
    clear hz
    refine j_if_eq X (tgt := 51) rfl dU_payment_33 (by decide) hf (fun hf => ?_) (fun hf => ?_)
    · refine j_ldc X (v := -2147483648) wd_571 dU_payment_51 ?_
      cases hf
      exact j_iret X dU_payment_53 rfl rfl
    · refine j_iload_n X dU_payment_36 rfl 2 rfl ?_
      refine j_if_lt X (tgt := 51) rfl dU_payment_37 (by decide) hf (fun hf => ?_) (fun hf => ?_)
      · refine j_ldc X (v := -2147483648) wd_571 dU_payment_51 ?_
        cases hf
        exact j_iret X dU_payment_53 rfl rfl
      · refine j_iload_n X dU_payment_40 rfl 2 rfl ?_
        refine j_aload_n X dU_payment_41 rfl 0 rfl ?_
        refine j_geta X gf_U_40_0 dU_payment_42 ?_
        refine j_geti X gf_U_346_69 dU_payment_45 ?_
        refine j_icmp_lt X (tgt := 54) rfl rfl dU_payment_48 (by decide) hf (fun hf => ?_) (fun hf => ?_)
        · refine j_iload_n X dU_payment_54 rfl 3 rfl ?_
          rcases q_ite hf with ⟨hc0, hf⟩ | ⟨hc0, hf⟩
          · refine j_tabIn X (tgt := 80) (v := 0) hc0 dU_payment_55 (by decide) (by decide) rfl (by decide) ?_
            refine j_aload_n X dU_payment_80 rfl 0 rfl ?_
            refine j_geta X gf_U_40_0 dU_payment_81 ?_
            refine j_geta X gf_U_347_69 dU_payment_84 ?_
            refine j_iload_n X dU_payment_87 rfl 2 rfl ?_
            refine j_iald X sh_70 dU_payment_88 hf (fun x4 hf => ?_)
            cases hf
            exact j_iret X dU_payment_89 rfl rfl
          rcases q_ite hf with ⟨hc1, hf⟩ | ⟨hc1, hf⟩
          · refine j_tabIn X (tgt := 90) (v := 1) hc1 dU_payment_55 (by decide) (by decide) rfl (by decide) ?_
            refine j_aload_n X dU_payment_90 rfl 0 rfl ?_
            refine j_geta X gf_U_40_0 dU_payment_91 ?_
            refine j_geta X gf_U_350_69 dU_payment_94 ?_
            refine j_iload_n X dU_payment_97 rfl 2 rfl ?_
            refine j_iald X sh_71 dU_payment_98 hf (fun x5 hf => ?_)
            cases hf
            exact j_iret X dU_payment_99 rfl rfl
          rcases q_ite hf with ⟨hc2, hf⟩ | ⟨hc2, hf⟩
          · refine j_tabIn X (tgt := 100) (v := 2) hc2 dU_payment_55 (by decide) (by decide) rfl (by decide) ?_
            refine j_aload_n X dU_payment_100 rfl 0 rfl ?_
            refine j_geta X gf_U_40_0 dU_payment_101 ?_
            refine j_geta X gf_U_353_69 dU_payment_104 ?_
            refine j_iload_n X dU_payment_107 rfl 2 rfl ?_
            refine j_lald X sh_72 dU_payment_108 hf (fun x6 hf => ?_)
            refine j_cs X (st := []) (cU_told E) gyU_told wd_921 rfl (by decide) (by decide) wd_920 rfl (Nat.le_of_ble_eq_true rfl) dU_payment_109 ?_
            cases hf
            exact j_iret X dU_payment_112 rfl rfl
          refine j_tabOut X (tgt := 113) (by omega) dU_payment_55 (by decide) ?_
          refine j_ldc X (v := -2147483648) wd_571 dU_payment_113 ?_
          cases hf
          exact j_iret X dU_payment_115 rfl rfl
        · refine j_ldc X (v := -2147483648) wd_571 dU_payment_51 ?_
          cases hf
          exact j_iret X dU_payment_53 rfl rfl
  · refine j_ldc X (v := -2147483648) wd_571 dU_payment_11 ?_
    cases hf
    exact j_iret X dU_payment_13 rfl rfl
def fU_count (F : Nat) (M : bz_Mm) (a1 : Int) : Option (Int) :=
  if w32 a1 < 20 then
  (if w32 a1 = 0 then
  (some (M 1 13))
  else if w32 a1 = 1 then
  (some (M 1 14))
  else if w32 a1 = 2 then
  (some (M 1 15))
  else if w32 a1 = 3 then
  (some (M 9 2))
  else if w32 a1 = 4 then
  (some (M 25 2))
  else if w32 a1 = 5 then
  (some (M 34 2))
  else if w32 a1 = 6 then
  (some (M 45 2))
  else if w32 a1 = 7 then
  (some (M 50 2))
  else if w32 a1 = 8 then
  (some (M 77 3))
  else if w32 a1 = 9 then
  (some (M 17 2))
  else if w32 a1 = 10 then
  (some (M 1 16))
  else (some ((-1))))
  else
  (if w32 (fUS_isFund M (a1 - 20)) = 0 then
  (if w32 a1 = 0 then
  (some (M 1 13))
  else if w32 a1 = 1 then
  (some (M 1 14))
  else if w32 a1 = 2 then
  (some (M 1 15))
  else if w32 a1 = 3 then
  (some (M 9 2))
  else if w32 a1 = 4 then
  (some (M 25 2))
  else if w32 a1 = 5 then
  (some (M 34 2))
  else if w32 a1 = 6 then
  (some (M 45 2))
  else if w32 a1 = 7 then
  (some (M 50 2))
  else if w32 a1 = 8 then
  (some (M 77 3))
  else if w32 a1 = 9 then
  (some (M 17 2))
  else if w32 a1 = 10 then
  (some (M 1 16))
  else (some ((-1))))
  else
  (rd_ M 44 (a1 - 20) 4 fun x1 =>
  some x1))
set_option maxHeartbeats 4000000 in
set_option maxRecDepth 20000 in
theorem cU_count (E : bz_E) (F : Nat)  {M : bz_Mm} {a1 : Int} {x0 : Int} (hf : fU_count F M a1 = some x0) : bz_Ct E yU_count (.code yU_count prog_1_method_41_code 2 (some .int)) 1 21 [bz_rf E 0, bz_i a1] M (some (bz_i x0)) M := by
  refine bz_met (by decide +kernel) (Nat.le_of_ble_eq_true rfl) (fun K X => ?_)
  have X : bz_X K E prog_1_method_41_code 2 "UnitsWrong" (some .int) 1 21 _ _ := X
  unfold fU_count at hf
  show bz_J K 2 0 [(0, bz_rf E 0), (1, bz_i a1)] [] M
  refine j_iload_n X dU_count_0 rfl 1 rfl ?_
  refine j_bipush X dU_count_1 rfl ?_
  refine j_icmp_lt X (tgt := 36) rfl (w32_lit rfl) dU_count_3 (by decide) hf (fun hf => ?_) (fun hf => ?_)
  · refine j_iload_n X dU_count_36 rfl 1 rfl ?_
    rcases q_ite hf with ⟨hc0, hf⟩ | ⟨hc0, hf⟩
    · refine j_tabIn X (tgt := 96) (v := 0) hc0 dU_count_37 (by decide) (by decide) rfl (by decide) ?_
      refine j_aload_n X dU_count_96 rfl 0 rfl ?_
      refine j_geta X gf_U_10_0 dU_count_97 ?_
      refine j_geti X gf_U_51_1 dU_count_100 ?_
      cases hf
      exact j_iret X dU_count_103 rfl rfl
    rcases q_ite hf with ⟨hc1, hf⟩ | ⟨hc1, hf⟩
    · refine j_tabIn X (tgt := 104) (v := 1) hc1 dU_count_37 (by decide) (by decide) rfl (by decide) ?_
      refine j_aload_n X dU_count_104 rfl 0 rfl ?_
      refine j_geta X gf_U_10_0 dU_count_105 ?_
      refine j_geti X gf_U_60_1 dU_count_108 ?_
      cases hf
      exact j_iret X dU_count_111 rfl rfl
    rcases q_ite hf with ⟨hc2, hf⟩ | ⟨hc2, hf⟩
    · refine j_tabIn X (tgt := 112) (v := 2) hc2 dU_count_37 (by decide) (by decide) rfl (by decide) ?_
      refine j_aload_n X dU_count_112 rfl 0 rfl ?_
      refine j_geta X gf_U_10_0 dU_count_113 ?_
      refine j_geti X gf_U_70_1 dU_count_116 ?_
      cases hf
      exact j_iret X dU_count_119 rfl rfl
    rcases q_ite hf with ⟨hc3, hf⟩ | ⟨hc3, hf⟩
    · refine j_tabIn X (tgt := 120) (v := 3) hc3 dU_count_37 (by decide) (by decide) rfl (by decide) ?_
      refine j_aload_n X dU_count_120 rfl 0 rfl ?_
      refine j_geta X gf_U_10_0 dU_count_121 ?_
      refine j_geta X gf_U_91_1 dU_count_124 ?_
      refine j_geta X gf_U_101_8 dU_count_127 ?_
      refine j_geti X gf_U_105_9 dU_count_130 ?_
      cases hf
      exact j_iret X dU_count_133 rfl rfl
    rcases q_ite hf with ⟨hc4, hf⟩ | ⟨hc4, hf⟩
    · refine j_tabIn X (tgt := 134) (v := 4) hc4 dU_count_37 (by decide) (by decide) rfl (by decide) ?_
      refine j_aload_n X dU_count_134 rfl 0 rfl ?_
      refine j_geta X gf_U_10_0 dU_count_135 ?_
      refine j_geta X gf_U_134_1 dU_count_138 ?_
      refine j_geta X gf_U_359_24 dU_count_141 ?_
      refine j_geti X gf_U_105_25 dU_count_144 ?_
      cases hf
      exact j_iret X dU_count_147 rfl rfl
    rcases q_ite hf with ⟨hc5, hf⟩ | ⟨hc5, hf⟩
    · refine j_tabIn X (tgt := 148) (v := 5) hc5 dU_count_37 (by decide) (by decide) rfl (by decide) ?_
      refine j_aload_n X dU_count_148 rfl 0 rfl ?_
      refine j_geta X gf_U_10_0 dU_count_149 ?_
      refine j_geta X gf_U_155_1 dU_count_152 ?_
      refine j_geta X gf_U_267_33 dU_count_155 ?_
      refine j_geti X gf_U_105_34 dU_count_158 ?_
      cases hf
      exact j_iret X dU_count_161 rfl rfl
    rcases q_ite hf with ⟨hc6, hf⟩ | ⟨hc6, hf⟩
    · refine j_tabIn X (tgt := 162) (v := 6) hc6 dU_count_37 (by decide) (by decide) rfl (by decide) ?_
      refine j_aload_n X dU_count_162 rfl 0 rfl ?_
      refine j_geta X gf_U_10_0 dU_count_163 ?_
      refine j_geta X gf_U_173_1 dU_count_166 ?_
      refine j_geti X gf_U_177_45 dU_count_169 ?_
      cases hf
      exact j_iret X dU_count_172 rfl rfl
    rcases q_ite hf with ⟨hc7, hf⟩ | ⟨hc7, hf⟩
    · refine j_tabIn X (tgt := 173) (v := 7) hc7 dU_count_37 (by decide) (by decide) rfl (by decide) ?_
      refine j_aload_n X dU_count_173 rfl 0 rfl ?_
      refine j_geta X gf_U_19_0 dU_count_174 ?_
      refine j_geti X gf_U_162_50 dU_count_177 ?_
      cases hf
      exact j_iret X dU_count_180 rfl rfl
    rcases q_ite hf with ⟨hc8, hf⟩ | ⟨hc8, hf⟩
    · refine j_tabIn X (tgt := 181) (v := 8) hc8 dU_count_37 (by decide) (by decide) rfl (by decide) ?_
      refine j_aload_n X dU_count_181 rfl 0 rfl ?_
      refine j_geta X gf_U_47_0 dU_count_182 ?_
      refine j_geti X gf_U_309_77 dU_count_185 ?_
      cases hf
      exact j_iret X dU_count_188 rfl rfl
    rcases q_ite hf with ⟨hc9, hf⟩ | ⟨hc9, hf⟩
    · refine j_tabIn X (tgt := 189) (v := 9) hc9 dU_count_37 (by decide) (by decide) rfl (by decide) ?_
      refine j_aload_n X dU_count_189 rfl 0 rfl ?_
      refine j_geta X gf_U_10_0 dU_count_190 ?_
      refine j_geta X gf_U_306_1 dU_count_193 ?_
      refine j_geta X gf_U_101_16 dU_count_196 ?_
      refine j_geti X gf_U_105_17 dU_count_199 ?_
      cases hf
      exact j_iret X dU_count_202 rfl rfl
    rcases q_ite hf with ⟨hc10, hf⟩ | ⟨hc10, hf⟩
    · refine j_tabIn X (tgt := 203) (v := 10) hc10 dU_count_37 (by decide) (by decide) rfl (by decide) ?_
      refine j_aload_n X dU_count_203 rfl 0 rfl ?_
      refine j_geta X gf_U_10_0 dU_count_204 ?_
      refine j_geti X gf_U_80_1 dU_count_207 ?_
      cases hf
      exact j_iret X dU_count_210 rfl rfl
    refine j_tabOut X (tgt := 211) (by omega) dU_count_37 (by decide) ?_
    refine j_iconst X dU_count_211 ?_
    cases hf
    exact j_iret X dU_count_212 rfl rfl
  · refine j_aload_n X dU_count_6 rfl 0 rfl ?_
    refine j_geta X gf_U_10_0 dU_count_7 ?_
    refine j_iload_n X dU_count_10 rfl 1 rfl ?_
    refine j_bipush X dU_count_11 rfl ?_
    refine j_isub X dU_count_13 ?_
    refine j_cv X (st := []) (cUS_isFund E) gyUS_isFund gv_US_isFund_1 rfl (by decide) (by decide) wd_584 rfl (Nat.le_of_ble_eq_true rfl) dU_count_14 ?_
    refine j_if_eq X (tgt := 36) rfl dU_count_17 (by decide) hf (fun hf => ?_) (fun hf => ?_)
    · refine j_iload_n X dU_count_36 rfl 1 rfl ?_
      rcases q_ite hf with ⟨hc0, hf⟩ | ⟨hc0, hf⟩
      · refine j_tabIn X (tgt := 96) (v := 0) hc0 dU_count_37 (by decide) (by decide) rfl (by decide) ?_
        refine j_aload_n X dU_count_96 rfl 0 rfl ?_
        refine j_geta X gf_U_10_0 dU_count_97 ?_
        refine j_geti X gf_U_51_1 dU_count_100 ?_
        cases hf
        exact j_iret X dU_count_103 rfl rfl
      rcases q_ite hf with ⟨hc1, hf⟩ | ⟨hc1, hf⟩
      · refine j_tabIn X (tgt := 104) (v := 1) hc1 dU_count_37 (by decide) (by decide) rfl (by decide) ?_
        refine j_aload_n X dU_count_104 rfl 0 rfl ?_
        refine j_geta X gf_U_10_0 dU_count_105 ?_
        refine j_geti X gf_U_60_1 dU_count_108 ?_
        cases hf
        exact j_iret X dU_count_111 rfl rfl
      rcases q_ite hf with ⟨hc2, hf⟩ | ⟨hc2, hf⟩
      · refine j_tabIn X (tgt := 112) (v := 2) hc2 dU_count_37 (by decide) (by decide) rfl (by decide) ?_
        refine j_aload_n X dU_count_112 rfl 0 rfl ?_
        refine j_geta X gf_U_10_0 dU_count_113 ?_
        refine j_geti X gf_U_70_1 dU_count_116 ?_
        cases hf
        exact j_iret X dU_count_119 rfl rfl
      rcases q_ite hf with ⟨hc3, hf⟩ | ⟨hc3, hf⟩
      · refine j_tabIn X (tgt := 120) (v := 3) hc3 dU_count_37 (by decide) (by decide) rfl (by decide) ?_
        refine j_aload_n X dU_count_120 rfl 0 rfl ?_
        refine j_geta X gf_U_10_0 dU_count_121 ?_
        refine j_geta X gf_U_91_1 dU_count_124 ?_
        refine j_geta X gf_U_101_8 dU_count_127 ?_
        refine j_geti X gf_U_105_9 dU_count_130 ?_
        cases hf
        exact j_iret X dU_count_133 rfl rfl
      rcases q_ite hf with ⟨hc4, hf⟩ | ⟨hc4, hf⟩
      · refine j_tabIn X (tgt := 134) (v := 4) hc4 dU_count_37 (by decide) (by decide) rfl (by decide) ?_
        refine j_aload_n X dU_count_134 rfl 0 rfl ?_
        refine j_geta X gf_U_10_0 dU_count_135 ?_
        refine j_geta X gf_U_134_1 dU_count_138 ?_
        refine j_geta X gf_U_359_24 dU_count_141 ?_
        refine j_geti X gf_U_105_25 dU_count_144 ?_
        cases hf
        exact j_iret X dU_count_147 rfl rfl
      rcases q_ite hf with ⟨hc5, hf⟩ | ⟨hc5, hf⟩
      · refine j_tabIn X (tgt := 148) (v := 5) hc5 dU_count_37 (by decide) (by decide) rfl (by decide) ?_
        refine j_aload_n X dU_count_148 rfl 0 rfl ?_
        refine j_geta X gf_U_10_0 dU_count_149 ?_
        refine j_geta X gf_U_155_1 dU_count_152 ?_
        refine j_geta X gf_U_267_33 dU_count_155 ?_
        refine j_geti X gf_U_105_34 dU_count_158 ?_
        cases hf
        exact j_iret X dU_count_161 rfl rfl
      rcases q_ite hf with ⟨hc6, hf⟩ | ⟨hc6, hf⟩
      · refine j_tabIn X (tgt := 162) (v := 6) hc6 dU_count_37 (by decide) (by decide) rfl (by decide) ?_
        refine j_aload_n X dU_count_162 rfl 0 rfl ?_
        refine j_geta X gf_U_10_0 dU_count_163 ?_
        refine j_geta X gf_U_173_1 dU_count_166 ?_
        refine j_geti X gf_U_177_45 dU_count_169 ?_
        cases hf
        exact j_iret X dU_count_172 rfl rfl
      rcases q_ite hf with ⟨hc7, hf⟩ | ⟨hc7, hf⟩
      · refine j_tabIn X (tgt := 173) (v := 7) hc7 dU_count_37 (by decide) (by decide) rfl (by decide) ?_
        refine j_aload_n X dU_count_173 rfl 0 rfl ?_
        refine j_geta X gf_U_19_0 dU_count_174 ?_
        refine j_geti X gf_U_162_50 dU_count_177 ?_
        cases hf
        exact j_iret X dU_count_180 rfl rfl
      rcases q_ite hf with ⟨hc8, hf⟩ | ⟨hc8, hf⟩
      · refine j_tabIn X (tgt := 181) (v := 8) hc8 dU_count_37 (by decide) (by decide) rfl (by decide) ?_
        refine j_aload_n X dU_count_181 rfl 0 rfl ?_
        refine j_geta X gf_U_47_0 dU_count_182 ?_
        refine j_geti X gf_U_309_77 dU_count_185 ?_
        cases hf
        exact j_iret X dU_count_188 rfl rfl
      rcases q_ite hf with ⟨hc9, hf⟩ | ⟨hc9, hf⟩
      · refine j_tabIn X (tgt := 189) (v := 9) hc9 dU_count_37 (by decide) (by decide) rfl (by decide) ?_
        refine j_aload_n X dU_count_189 rfl 0 rfl ?_
        refine j_geta X gf_U_10_0 dU_count_190 ?_
        refine j_geta X gf_U_306_1 dU_count_193 ?_
        refine j_geta X gf_U_101_16 dU_count_196 ?_
        refine j_geti X gf_U_105_17 dU_count_199 ?_
        cases hf
        exact j_iret X dU_count_202 rfl rfl
      rcases q_ite hf with ⟨hc10, hf⟩ | ⟨hc10, hf⟩
      · refine j_tabIn X (tgt := 203) (v := 10) hc10 dU_count_37 (by decide) (by decide) rfl (by decide) ?_
        refine j_aload_n X dU_count_203 rfl 0 rfl ?_
        refine j_geta X gf_U_10_0 dU_count_204 ?_
        refine j_geti X gf_U_80_1 dU_count_207 ?_
        cases hf
        exact j_iret X dU_count_210 rfl rfl
      refine j_tabOut X (tgt := 211) (by omega) dU_count_37 (by decide) ?_
      refine j_iconst X dU_count_211 ?_
      cases hf
      exact j_iret X dU_count_212 rfl rfl
    · refine j_aload_n X dU_count_20 rfl 0 rfl ?_
      refine j_geta X gf_U_10_0 dU_count_21 ?_
      refine j_geta X gf_U_155_1 dU_count_24 ?_
      refine j_geta X gf_U_356_33 dU_count_27 ?_
      refine j_iload_n X dU_count_30 rfl 1 rfl ?_
      refine j_bipush X dU_count_31 rfl ?_
      refine j_isub X dU_count_33 ?_
      show bz_J _ _ 34 _ _ _
      refine j_iald X sh_44 dU_count_34 hf (fun x1 hf => ?_)
      cases hf
      exact j_iret X dU_count_35 rfl rfl
def gM_in (a0 : Int) (a1 : Int) (a2 : Int) : Option Int :=
  if w64 a0 < w64 a1 then
  (some 0)
  else
  (if w64 a2 < w64 a0 then
  (some 0)
  else
  (some 1))
def fM_in (a0 : Int) (a1 : Int) (a2 : Int) : Int :=
  if w64 a0 < w64 a1 then
  (0)
  else
  (if w64 a2 < w64 a0 then
  (0)
  else
  (1))
theorem tM_in (a0 : Int) (a1 : Int) (a2 : Int) : gM_in a0 a1 a2 = some (fM_in a0 a1 a2) := by
  unfold gM_in fM_in
  (repeat' (first | rfl | split))
theorem zM_in {a0 : Int} {a1 : Int} {a2 : Int} : fM_in a0 a1 a2 = 0 ∨ fM_in a0 a1 a2 = 1 := by
  unfold fM_in
  (repeat' (first | exact Or.inl rfl | exact Or.inr rfl | split))
set_option maxHeartbeats 4000000 in
set_option maxRecDepth 20000 in
theorem cM_in (E : bz_E) {M : bz_Mm} {a0 : Int} {a1 : Int} {a2 : Int} : bz_Ct E yM_in (.code yM_in prog_14_method_2_code 6 (some .boolean)) 0 0 [bz_l a0, bz_l a1, bz_l a2] M (some (bz_i (fM_in a0 a1 a2))) M := by
  have hf := tM_in a0 a1 a2
  refine bz_met (by decide +kernel) (Nat.le_of_ble_eq_true rfl) (fun K X => ?_)
  have X : bz_X K E prog_14_method_2_code 6 "UnitsWrongModel" (some .boolean) 0 0 _ _ := X
  unfold gM_in at hf
  generalize fM_in a0 a1 a2 = rr at hf X
  show bz_J K 6 0 [(0, bz_l a0), (2, bz_l a1), (4, bz_l a2)] [] M
  refine j_lload_n X dM_in_0 rfl 0 rfl ?_
  refine j_lload_n X dM_in_1 rfl 1 rfl ?_
  refine j_lcmp_lt X (tgt := 17) rfl rfl dM_in_2 dM_in_3 (by decide) hf (fun hf => ?_) (fun hf => ?_)
  · refine j_iconst X dM_in_17 ?_
    cases hf
    exact j_zret X (by decide +kernel) dM_in_18 rfl rfl
  · refine j_lload_n X dM_in_6 rfl 0 rfl ?_
    refine j_lload X dM_in_7 2 rfl ?_
    refine j_lcmp_gt X (tgt := 17) rfl rfl dM_in_9 dM_in_10 (by decide) hf (fun hf => ?_) (fun hf => ?_)
    · refine j_iconst X dM_in_17 ?_
      cases hf
      exact j_zret X (by decide +kernel) dM_in_18 rfl rfl
    · refine j_iconst X dM_in_13 ?_
      refine j_goto X (tgt := 18) dM_in_14 (by decide) ?_
      cases hf
      exact j_zret X (by decide +kernel) dM_in_18 rfl rfl
def fM_holiday (F : Nat) (M : bz_Mm) (a1 : Int) : Option (Int × bz_Mm) :=
  if w32 (fM_in (w32 a1) (w32 ((M 81 0) + 1)) 259) = 0 then
  (some ((0, M)))
  else
  (rd_ M 82 a1 260 fun x1 =>
  if w32 x1 = 0 then
  (wa_ M 82 a1 260 1 fun m2 =>
  wf_ m2 81 2 ((m2 81 2) + 1) fun m3 =>
  some ((1, m3)))
  else
  (some ((0, M))))
set_option maxHeartbeats 4000000 in
set_option maxRecDepth 20000 in
theorem cM_holiday (E : bz_E) (F : Nat)  {M : bz_Mm} {a1 : Int} {x0 : Int × bz_Mm} (hf : fM_holiday F M a1 = some x0) : bz_Ct E yM_holiday (.code yM_holiday prog_14_method_7_code 2 (some .boolean)) 1 25 [bz_rf E 81, bz_i a1] M (some (bz_i x0.1)) x0.2 := by
  refine bz_met (by decide +kernel) (Nat.le_of_ble_eq_true rfl) (fun K X => ?_)
  have X : bz_X K E prog_14_method_7_code 2 "UnitsWrongModel" (some .boolean) 1 25 _ _ := X
  unfold fM_holiday at hf
  show bz_J K 2 0 [(0, bz_rf E 81), (1, bz_i a1)] [] M
  refine j_iload_n X dM_holiday_0 rfl 1 rfl ?_
  refine j_i2l X rfl dM_holiday_1 ?_
  refine j_aload_n X dM_holiday_2 rfl 0 rfl ?_
  refine j_geti X gf_M_216_81 dM_holiday_3 ?_
  refine j_iconst X dM_holiday_6 ?_
  refine j_iadd X dM_holiday_7 ?_
  refine j_i2l X rfl dM_holiday_8 ?_
  show bz_J _ _ 9 _ _ _
  refine j_ldc2 X (v := 259) wd_1407 dM_holiday_9 ?_
  refine j_cs X (st := []) (cM_in E) gyM_in wd_1409 rfl (by decide) (by decide) wd_1408 rfl (Nat.le_of_ble_eq_true rfl) dM_holiday_12 ?_
  refine j_if_eq X (tgt := 27) rfl dM_holiday_15 (by decide) hf (fun hf => ?_) (fun hf => ?_)
  · refine j_iconst X dM_holiday_27 ?_
    cases hf
    exact j_zret X (by decide +kernel) dM_holiday_28 rfl rfl
  · refine j_aload_n X dM_holiday_18 rfl 0 rfl ?_
    refine j_geta X gf_M_9_81 dM_holiday_19 ?_
    refine j_iload_n X dM_holiday_22 rfl 1 rfl ?_
    refine j_zald X sh_82 dM_holiday_23 hf (fun x1 hf => ?_)
    refine j_if_eq X (tgt := 29) rfl dM_holiday_24 (by decide) hf (fun hf => ?_) (fun hf => ?_)
    · refine j_aload_n X dM_holiday_29 rfl 0 rfl ?_
      refine j_geta X gf_M_9_81 dM_holiday_30 ?_
      refine j_iload_n X dM_holiday_33 rfl 1 rfl ?_
      refine j_iconst X dM_holiday_34 ?_
      refine j_zast X sh_82 (by decide +kernel) dM_holiday_35 hf (fun m2 hf => ?_)
      refine j_aload_n X dM_holiday_36 rfl 0 rfl ?_
      refine j_dup X dM_holiday_37 rfl ?_
      show bz_J _ _ 38 _ _ _
      refine j_geti X gf_M_226_81 dM_holiday_38 ?_
      refine j_iconst X dM_holiday_41 ?_
      refine j_iadd X dM_holiday_42 ?_
      refine j_puti X pf_M_226_81 dM_holiday_43 hf (fun m3 hf => ?_)
      refine j_iconst X dM_holiday_46 ?_
      cases hf
      exact j_zret X (by decide +kernel) dM_holiday_47 rfl rfl
    · refine j_iconst X dM_holiday_27 ?_
      cases hf
      exact j_zret X (by decide +kernel) dM_holiday_28 rfl rfl
def fM_isOpen (F : Nat) (M : bz_Mm) (a1 : Int) : Option (Int) :=
  if w32 (fM_in (w32 a1) 0 259) = 0 then
  (some 0)
  else
  (if w32 ((w32 a1).tmod 7) < 5 then
  (rd_ M 82 a1 260 fun x1 =>
  if w32 x1 = 0 then
  (some 1)
  else
  (some 0))
  else
  (some 0))
set_option maxHeartbeats 4000000 in
set_option maxRecDepth 20000 in
theorem cM_isOpen (E : bz_E) (F : Nat)  {M : bz_Mm} {a1 : Int} {x0 : Int} (hf : fM_isOpen F M a1 = some x0) : bz_Ct E yM_isOpen (.code yM_isOpen prog_14_method_6_code 2 (some .boolean)) 1 25 [bz_rf E 81, bz_i a1] M (some (bz_i x0)) M := by
  refine bz_met (by decide +kernel) (Nat.le_of_ble_eq_true rfl) (fun K X => ?_)
  have X : bz_X K E prog_14_method_6_code 2 "UnitsWrongModel" (some .boolean) 1 25 _ _ := X
  unfold fM_isOpen at hf
  show bz_J K 2 0 [(0, bz_rf E 81), (1, bz_i a1)] [] M
  refine j_iload_n X dM_isOpen_0 rfl 1 rfl ?_
  refine j_i2l X rfl dM_isOpen_1 ?_
  refine j_lconst X (v := 0) dM_isOpen_2 rfl ?_
  refine j_ldc2 X (v := 259) wd_1407 dM_isOpen_3 ?_
  refine j_cs X (st := []) (cM_in E) gyM_in wd_1409 rfl (by decide) (by decide) wd_1408 rfl (Nat.le_of_ble_eq_true rfl) dM_isOpen_6 ?_
  refine j_if_eq X (tgt := 33) rfl dM_isOpen_9 (by decide) hf (fun hf => ?_) (fun hf => ?_)
  · refine j_iconst X dM_isOpen_33 ?_
    cases hf
    exact j_zret X (by decide +kernel) dM_isOpen_34 rfl rfl
  · refine j_iload_n X dM_isOpen_12 rfl 1 rfl ?_
    refine j_bipush X dM_isOpen_13 rfl ?_
    refine j_irl X (w32_lit rfl) (by decide) dM_isOpen_15 ?_
    refine j_iconst X dM_isOpen_16 ?_
    refine j_icmp_ge X (tgt := 33) rfl (w32_lit rfl) dM_isOpen_17 (by decide) hf (fun hf => ?_) (fun hf => ?_)
    · refine j_iconst X dM_isOpen_33 ?_
      cases hf
      exact j_zret X (by decide +kernel) dM_isOpen_34 rfl rfl
    · refine j_aload_n X dM_isOpen_20 rfl 0 rfl ?_
      refine j_geta X gf_M_9_81 dM_isOpen_21 ?_
      refine j_iload_n X dM_isOpen_24 rfl 1 rfl ?_
      refine j_zald X sh_82 dM_isOpen_25 hf (fun x1 hf => ?_)
      refine j_if_ne X (tgt := 33) rfl dM_isOpen_26 (by decide) hf (fun hf => ?_) (fun hf => ?_)
      · refine j_iconst X dM_isOpen_33 ?_
        cases hf
        exact j_zret X (by decide +kernel) dM_isOpen_34 rfl rfl
      · refine j_iconst X dM_isOpen_29 ?_
        refine j_goto X (tgt := 34) dM_isOpen_30 (by decide) ?_
        cases hf
        exact j_zret X (by decide +kernel) dM_isOpen_34 rfl rfl
def fM_open (F : Nat) (M : bz_Mm) (a1 : Int) : Option (Int) :=
  cl_ (fM_isOpen F M a1) fun x1 =>
  bo_ x1 (some x1)
set_option maxHeartbeats 4000000 in
set_option maxRecDepth 20000 in
theorem cM_open (E : bz_E) (F : Nat)  {M : bz_Mm} {a1 : Int} {x0 : Int} (hf : fM_open F M a1 = some x0) : bz_Ct E yM_open (.code yM_open prog_14_method_8_code 2 (some .boolean)) 2 46 [bz_rf E 81, bz_i a1] M (some (bz_i x0)) M := by
  refine bz_met (by decide +kernel) (Nat.le_of_ble_eq_true rfl) (fun K X => ?_)
  have X : bz_X K E prog_14_method_8_code 2 "UnitsWrongModel" (some .boolean) 2 46 _ _ := X
  unfold fM_open at hf
  show bz_J K 2 0 [(0, bz_rf E 81), (1, bz_i a1)] [] M
  refine j_aload_n X dM_open_0 rfl 0 rfl ?_
  refine j_iload_n X dM_open_1 rfl 1 rfl ?_
  obtain ⟨x1, hzx1, hf⟩ := q_cl hf
  refine j_cv X (st := []) (cM_isOpen E F hzx1) gyM_isOpen gv_M_isOpen_81 rfl (by decide) (by decide) wd_1415 rfl (Nat.le_of_ble_eq_true rfl) dM_open_2 ?_
  obtain ⟨hbo, hf⟩ := q_in hf
  cases hf
  exact j_zret X (bz_zz hbo) dM_open_5 rfl rfl
def gM_isSubject (a0 : Int) (a1 : Int) : Option Int :=
  if w32 a0 = 1 then
  (some (fM_in (w32 a1) 1 2))
  else
  (if w32 (fM_in (w32 a0) 0 3) = 0 then
  (some 0)
  else
  (if w32 (fM_in (w32 a1) 0 7) = 0 then
  (some 0)
  else
  (some 1)))
def fM_isSubject (a0 : Int) (a1 : Int) : Int :=
  if w32 a0 = 1 then
  ((fM_in (w32 a1) 1 2))
  else
  (if w32 (fM_in (w32 a0) 0 3) = 0 then
  (0)
  else
  (if w32 (fM_in (w32 a1) 0 7) = 0 then
  (0)
  else
  (1)))
theorem tM_isSubject (a0 : Int) (a1 : Int) : gM_isSubject a0 a1 = some (fM_isSubject a0 a1) := by
  unfold gM_isSubject fM_isSubject
  (repeat' (first | rfl | split))
theorem zM_isSubject {a0 : Int} {a1 : Int} : fM_isSubject a0 a1 = 0 ∨ fM_isSubject a0 a1 = 1 := by
  unfold fM_isSubject
  (repeat' (first | exact Or.inl rfl | exact Or.inr rfl | exact zM_in | exact zM_in | exact zM_in | split))
set_option maxHeartbeats 4000000 in
set_option maxRecDepth 20000 in
theorem cM_isSubject (E : bz_E) {M : bz_Mm} {a0 : Int} {a1 : Int} : bz_Ct E yM_isSubject (.code yM_isSubject prog_14_method_9_code 2 (some .boolean)) 1 25 [bz_i a0, bz_i a1] M (some (bz_i (fM_isSubject a0 a1))) M := by
  have hf := tM_isSubject a0 a1
  refine bz_met (by decide +kernel) (Nat.le_of_ble_eq_true rfl) (fun K X => ?_)
  have X : bz_X K E prog_14_method_9_code 2 "UnitsWrongModel" (some .boolean) 1 25 _ _ := X
  unfold gM_isSubject at hf
  generalize fM_isSubject a0 a1 = rr at hf X
  show bz_J K 2 0 [(0, bz_i a0), (1, bz_i a1)] [] M
  refine j_iload_n X dM_isSubject_0 rfl 0 rfl ?_
  refine j_iconst X dM_isSubject_1 ?_
  refine j_icmp_ne X (tgt := 17) rfl (w32_lit rfl) dM_isSubject_2 (by decide) hf (fun hf => ?_) (fun hf => ?_)
  · refine j_iload_n X dM_isSubject_17 rfl 0 rfl ?_
    refine j_i2l X rfl dM_isSubject_18 ?_
    refine j_lconst X (v := 0) dM_isSubject_19 rfl ?_
    refine j_ldc2 X (v := 3) wd_1430 dM_isSubject_20 ?_
    refine j_cs X (st := []) (cM_in E) gyM_in wd_1409 rfl (by decide) (by decide) wd_1408 rfl (Nat.le_of_ble_eq_true rfl) dM_isSubject_23 ?_
    refine j_if_eq X (tgt := 45) rfl dM_isSubject_26 (by decide) hf (fun hf => ?_) (fun hf => ?_)
    · refine j_iconst X dM_isSubject_45 ?_
      cases hf
      exact j_zret X (by decide +kernel) dM_isSubject_46 rfl rfl
    · refine j_iload_n X dM_isSubject_29 rfl 1 rfl ?_
      refine j_i2l X rfl dM_isSubject_30 ?_
      refine j_lconst X (v := 0) dM_isSubject_31 rfl ?_
      refine j_ldc2 X (v := 7) wd_1431 dM_isSubject_32 ?_
      refine j_cs X (st := []) (cM_in E) gyM_in wd_1409 rfl (by decide) (by decide) wd_1408 rfl (Nat.le_of_ble_eq_true rfl) dM_isSubject_35 ?_
      refine j_if_eq X (tgt := 45) rfl dM_isSubject_38 (by decide) hf (fun hf => ?_) (fun hf => ?_)
      · refine j_iconst X dM_isSubject_45 ?_
        cases hf
        exact j_zret X (by decide +kernel) dM_isSubject_46 rfl rfl
      · refine j_iconst X dM_isSubject_41 ?_
        refine j_goto X (tgt := 46) dM_isSubject_42 (by decide) ?_
        cases hf
        exact j_zret X (by decide +kernel) dM_isSubject_46 rfl rfl
  · refine j_iload_n X dM_isSubject_5 rfl 1 rfl ?_
    refine j_i2l X rfl dM_isSubject_6 ?_
    refine j_lconst X (v := 1) dM_isSubject_7 rfl ?_
    refine j_ldc2 X (v := 2) wd_1429 dM_isSubject_8 ?_
    refine j_cs X (st := []) (cM_in E) gyM_in wd_1409 rfl (by decide) (by decide) wd_1408 rfl (Nat.le_of_ble_eq_true rfl) dM_isSubject_11 ?_
    refine j_goto X (tgt := 46) dM_isSubject_14 (by decide) ?_
    cases hf
    exact j_zret X (bz_zz zM_in) dM_isSubject_46 rfl rfl
def gM_canTell (a0 : Int) (a1 : Int) (a2 : Int) (a3 : Int) : Option Int :=
  if w32 (fM_isSubject a0 a1) = 0 then
  (some 0)
  else
  (if w32 (fM_in (w32 a2) 0 259) = 0 then
  (some 0)
  else
  (if w32 a0 = 0 then
  (some (fM_in (w32 a3) 1 10000))
  else
  (if w32 a0 = 1 then
  (some (fM_in (w32 a3) 1 9999))
  else
  (if w32 a0 = 2 then
  (some (fM_in (w32 a3) 0 1000))
  else
  (some (fM_in (w32 a3) 100 10000))))))
def fM_canTell (a0 : Int) (a1 : Int) (a2 : Int) (a3 : Int) : Int :=
  if w32 (fM_isSubject a0 a1) = 0 then
  (0)
  else
  (if w32 (fM_in (w32 a2) 0 259) = 0 then
  (0)
  else
  (if w32 a0 = 0 then
  ((fM_in (w32 a3) 1 10000))
  else
  (if w32 a0 = 1 then
  ((fM_in (w32 a3) 1 9999))
  else
  (if w32 a0 = 2 then
  ((fM_in (w32 a3) 0 1000))
  else
  ((fM_in (w32 a3) 100 10000))))))
theorem tM_canTell (a0 : Int) (a1 : Int) (a2 : Int) (a3 : Int) : gM_canTell a0 a1 a2 a3 = some (fM_canTell a0 a1 a2 a3) := by
  unfold gM_canTell fM_canTell
  (repeat' (first | rfl | split))
theorem zM_canTell {a0 : Int} {a1 : Int} {a2 : Int} {a3 : Int} : fM_canTell a0 a1 a2 a3 = 0 ∨ fM_canTell a0 a1 a2 a3 = 1 := by
  unfold fM_canTell
  (repeat' (first | exact Or.inl rfl | exact Or.inr rfl | exact zM_isSubject | exact zM_in | exact zM_in | exact zM_in | exact zM_in | exact zM_in | split))
set_option maxHeartbeats 4000000 in
set_option maxRecDepth 20000 in
theorem cM_canTell (E : bz_E) {M : bz_Mm} {a0 : Int} {a1 : Int} {a2 : Int} {a3 : Int} : bz_Ct E yM_canTell (.code yM_canTell prog_14_method_10_code 4 (some .boolean)) 2 46 [bz_i a0, bz_i a1, bz_i a2, bz_i a3] M (some (bz_i (fM_canTell a0 a1 a2 a3))) M := by
  have hf := tM_canTell a0 a1 a2 a3
  refine bz_met (by decide +kernel) (Nat.le_of_ble_eq_true rfl) (fun K X => ?_)
  have X : bz_X K E prog_14_method_10_code 4 "UnitsWrongModel" (some .boolean) 2 46 _ _ := X
  unfold gM_canTell at hf
  generalize fM_canTell a0 a1 a2 a3 = rr at hf X
  show bz_J K 4 0 [(0, bz_i a0), (1, bz_i a1), (2, bz_i a2), (3, bz_i a3)] [] M
  refine j_iload_n X dM_canTell_0 rfl 0 rfl ?_
  refine j_iload_n X dM_canTell_1 rfl 1 rfl ?_
  refine j_cs X (st := []) (cM_isSubject E) gyM_isSubject wd_1427 rfl (by decide) (by decide) wd_1426 rfl (Nat.le_of_ble_eq_true rfl) dM_canTell_2 ?_
  refine j_if_eq X (tgt := 20) rfl dM_canTell_5 (by decide) hf (fun hf => ?_) (fun hf => ?_)
  · refine j_iconst X dM_canTell_20 ?_
    cases hf
    exact j_zret X (by decide +kernel) dM_canTell_21 rfl rfl
  · refine j_iload_n X dM_canTell_8 rfl 2 rfl ?_
    refine j_i2l X rfl dM_canTell_9 ?_
    refine j_lconst X (v := 0) dM_canTell_10 rfl ?_
    refine j_ldc2 X (v := 259) wd_1407 dM_canTell_11 ?_
    refine j_cs X (st := []) (cM_in E) gyM_in wd_1409 rfl (by decide) (by decide) wd_1408 rfl (Nat.le_of_ble_eq_true rfl) dM_canTell_14 ?_
    refine j_if_ne X (tgt := 22) rfl dM_canTell_17 (by decide) hf (fun hf => ?_) (fun hf => ?_)
    · refine j_iload_n X dM_canTell_22 rfl 0 rfl ?_
      refine j_if_ne X (tgt := 38) rfl dM_canTell_23 (by decide) hf (fun hf => ?_) (fun hf => ?_)
      · refine j_iload_n X dM_canTell_38 rfl 0 rfl ?_
        refine j_iconst X dM_canTell_39 ?_
        refine j_icmp_ne X (tgt := 55) rfl (w32_lit rfl) dM_canTell_40 (by decide) hf (fun hf => ?_) (fun hf => ?_)
        · refine j_iload_n X dM_canTell_55 rfl 0 rfl ?_
          refine j_iconst X dM_canTell_56 ?_
          refine j_icmp_ne X (tgt := 72) rfl (w32_lit rfl) dM_canTell_57 (by decide) hf (fun hf => ?_) (fun hf => ?_)
          · refine j_iload_n X dM_canTell_72 rfl 3 rfl ?_
            refine j_i2l X rfl dM_canTell_73 ?_
            refine j_ldc2 X (v := 100) wd_1435 dM_canTell_74 ?_
            refine j_ldc2 X (v := 10000) wd_1432 dM_canTell_77 ?_
            refine j_cs X (st := []) (cM_in E) gyM_in wd_1409 rfl (by decide) (by decide) wd_1408 rfl (Nat.le_of_ble_eq_true rfl) dM_canTell_80 ?_
            cases hf
            exact j_zret X (bz_zz zM_in) dM_canTell_83 rfl rfl
          · refine j_iload_n X dM_canTell_60 rfl 3 rfl ?_
            refine j_i2l X rfl dM_canTell_61 ?_
            refine j_lconst X (v := 0) dM_canTell_62 rfl ?_
            refine j_ldc2 X (v := 1000) wd_1434 dM_canTell_63 ?_
            refine j_cs X (st := []) (cM_in E) gyM_in wd_1409 rfl (by decide) (by decide) wd_1408 rfl (Nat.le_of_ble_eq_true rfl) dM_canTell_66 ?_
            refine j_goto X (tgt := 83) dM_canTell_69 (by decide) ?_
            cases hf
            exact j_zret X (bz_zz zM_in) dM_canTell_83 rfl rfl
        · refine j_iload_n X dM_canTell_43 rfl 3 rfl ?_
          refine j_i2l X rfl dM_canTell_44 ?_
          refine j_lconst X (v := 1) dM_canTell_45 rfl ?_
          refine j_ldc2 X (v := 9999) wd_1433 dM_canTell_46 ?_
          refine j_cs X (st := []) (cM_in E) gyM_in wd_1409 rfl (by decide) (by decide) wd_1408 rfl (Nat.le_of_ble_eq_true rfl) dM_canTell_49 ?_
          refine j_goto X (tgt := 83) dM_canTell_52 (by decide) ?_
          cases hf
          exact j_zret X (bz_zz zM_in) dM_canTell_83 rfl rfl
      · refine j_iload_n X dM_canTell_26 rfl 3 rfl ?_
        refine j_i2l X rfl dM_canTell_27 ?_
        refine j_lconst X (v := 1) dM_canTell_28 rfl ?_
        refine j_ldc2 X (v := 10000) wd_1432 dM_canTell_29 ?_
        refine j_cs X (st := []) (cM_in E) gyM_in wd_1409 rfl (by decide) (by decide) wd_1408 rfl (Nat.le_of_ble_eq_true rfl) dM_canTell_32 ?_
        refine j_goto X (tgt := 83) dM_canTell_35 (by decide) ?_
        cases hf
        exact j_zret X (bz_zz zM_in) dM_canTell_83 rfl rfl
    · refine j_iconst X dM_canTell_20 ?_
      cases hf
      exact j_zret X (by decide +kernel) dM_canTell_21 rfl rfl
def gM_known0 (M : bz_Mm) : Option Int :=
  if w32 (M 81 0) < 260 then
  (some (M 81 0))
  else
  (some 259)
def fM_known0 (M : bz_Mm) : Int :=
  if w32 (M 81 0) < 260 then
  ((M 81 0))
  else
  (259)
theorem tM_known0 (M : bz_Mm) : gM_known0 M = some (fM_known0 M) := by
  unfold gM_known0 fM_known0
  (repeat' (first | rfl | split))
set_option maxHeartbeats 4000000 in
set_option maxRecDepth 20000 in
theorem cM_known0 (E : bz_E) {M : bz_Mm} : bz_Ct E yM_known0 (.code yM_known0 prog_14_method_5_code 1 (some .int)) 0 0 [bz_rf E 81] M (some (bz_i (fM_known0 M))) M := by
  have hf := tM_known0 M
  refine bz_met (by decide +kernel) (Nat.le_of_ble_eq_true rfl) (fun K X => ?_)
  have X : bz_X K E prog_14_method_5_code 1 "UnitsWrongModel" (some .int) 0 0 _ _ := X
  unfold gM_known0 at hf
  generalize fM_known0 M = rr at hf X
  show bz_J K 1 0 [(0, bz_rf E 81)] [] M
  refine j_aload_n X dM_known0_0 rfl 0 rfl ?_
  refine j_geti X gf_M_216_81 dM_known0_1 ?_
  refine j_sipush X dM_known0_4 rfl ?_
  refine j_icmp_ge X (tgt := 17) rfl (w32_lit rfl) dM_known0_7 (by decide) hf (fun hf => ?_) (fun hf => ?_)
  · refine j_sipush X dM_known0_17 rfl ?_
    cases hf
    exact j_iret X dM_known0_20 rfl rfl
  · refine j_aload_n X dM_known0_10 rfl 0 rfl ?_
    refine j_geti X gf_M_216_81 dM_known0_11 ?_
    refine j_goto X (tgt := 20) dM_known0_14 (by decide) ?_
    cases hf
    exact j_iret X dM_known0_20 rfl rfl
def fM_lays (F : Nat) (M : bz_Mm) (a1 : Int) (a2 : Int) (a3 : Int) (a4 : Int) : Option (bz_Mm) :=
  wa_ M 83 (M 81 12) 407 a1 fun m1 =>
  wa_ m1 84 (m1 81 12) 407 a2 fun m2 =>
  wa_ m2 85 (m2 81 12) 407 a3 fun m3 =>
  wa_ m3 86 (m3 81 12) 407 a4 fun m4 =>
  wa_ m4 87 (m4 81 12) 407 (fM_known0 m4) fun m5 =>
  wf_ m5 81 12 ((m5 81 12) + 1) fun m6 =>
  some m6
set_option maxHeartbeats 4000000 in
set_option maxRecDepth 20000 in
theorem cM_lays (E : bz_E) (F : Nat)  {M : bz_Mm} {a1 : Int} {a2 : Int} {a3 : Int} {a4 : Int} {x0 : bz_Mm} (hf : fM_lays F M a1 a2 a3 a4 = some x0) : bz_Ct E yM_lays (.code yM_lays prog_14_method_11_code 5 none) 1 20 [bz_rf E 81, bz_i a1, bz_i a2, bz_i a3, bz_i a4] M (none) x0 := by
  refine bz_met (by decide +kernel) (Nat.le_of_ble_eq_true rfl) (fun K X => ?_)
  have X : bz_X K E prog_14_method_11_code 5 "UnitsWrongModel" none 1 20 _ _ := X
  unfold fM_lays at hf
  show bz_J K 5 0 [(0, bz_rf E 81), (1, bz_i a1), (2, bz_i a2), (3, bz_i a3), (4, bz_i a4)] [] M
  refine j_aload_n X dM_lays_0 rfl 0 rfl ?_
  refine j_geta X gf_M_13_81 dM_lays_1 ?_
  refine j_aload_n X dM_lays_4 rfl 0 rfl ?_
  refine j_geti X gf_M_251_81 dM_lays_5 ?_
  refine j_iload_n X dM_lays_8 rfl 1 rfl ?_
  refine j_iast X sh_83 dM_lays_9 hf (fun m1 hf => ?_)
  refine j_aload_n X dM_lays_10 rfl 0 rfl ?_
  show bz_J _ _ 11 _ _ _
  refine j_geta X gf_M_17_81 dM_lays_11 ?_
  refine j_aload_n X dM_lays_14 rfl 0 rfl ?_
  refine j_geti X gf_M_251_81 dM_lays_15 ?_
  refine j_iload_n X dM_lays_18 rfl 2 rfl ?_
  refine j_iast X sh_84 dM_lays_19 hf (fun m2 hf => ?_)
  refine j_aload_n X dM_lays_20 rfl 0 rfl ?_
  refine j_geta X gf_M_20_81 dM_lays_21 ?_
  refine j_aload_n X dM_lays_24 rfl 0 rfl ?_
  show bz_J _ _ 25 _ _ _
  refine j_geti X gf_M_251_81 dM_lays_25 ?_
  refine j_iload_n X dM_lays_28 rfl 3 rfl ?_
  refine j_iast X sh_85 dM_lays_29 hf (fun m3 hf => ?_)
  refine j_aload_n X dM_lays_30 rfl 0 rfl ?_
  refine j_geta X gf_M_23_81 dM_lays_31 ?_
  refine j_aload_n X dM_lays_34 rfl 0 rfl ?_
  refine j_geti X gf_M_251_81 dM_lays_35 ?_
  refine j_iload X dM_lays_38 4 rfl ?_
  show bz_J _ _ 40 _ _ _
  refine j_iast X sh_86 dM_lays_40 hf (fun m4 hf => ?_)
  refine j_aload_n X dM_lays_41 rfl 0 rfl ?_
  refine j_geta X gf_M_26_81 dM_lays_42 ?_
  refine j_aload_n X dM_lays_45 rfl 0 rfl ?_
  refine j_geti X gf_M_251_81 dM_lays_46 ?_
  refine j_aload_n X dM_lays_49 rfl 0 rfl ?_
  refine j_cv X (st := [bz_i (m4 81 12), bz_rf E 87]) (cM_known0 E) gyM_known0 gv_M_known0_81 rfl (by decide) (by decide) wd_1440 rfl (Nat.le_of_ble_eq_true rfl) dM_lays_50 ?_
  refine j_iast X sh_87 dM_lays_53 hf (fun m5 hf => ?_)
  show bz_J _ _ 54 _ _ _
  refine j_aload_n X dM_lays_54 rfl 0 rfl ?_
  refine j_dup X dM_lays_55 rfl ?_
  refine j_geti X gf_M_251_81 dM_lays_56 ?_
  refine j_iconst X dM_lays_59 ?_
  refine j_iadd X dM_lays_60 ?_
  refine j_puti X pf_M_251_81 dM_lays_61 hf (fun m6 hf => ?_)
  cases hf
  exact j_vret X dM_lays_64 rfl rfl
def fM_tell (F : Nat) (M : bz_Mm) (a1 : Int) (a2 : Int) (a3 : Int) (a4 : Int) : Option (Int × bz_Mm) :=
  if w32 (fM_canTell a1 a2 a3 a4) = 0 then
  (some (((-1), M)))
  else
  (if w32 (M 81 12) = 400 then
  (some (((-1), M)))
  else
  (if w32 (M 81 0) = 260 then
  (some (((-1), M)))
  else
  (cl_ (fM_lays F M a1 a2 a3 a4) fun m1 =>
  some ((m1 81 12, m1)))))
set_option maxHeartbeats 4000000 in
set_option maxRecDepth 20000 in
theorem cM_tell (E : bz_E) (F : Nat)  {M : bz_Mm} {a1 : Int} {a2 : Int} {a3 : Int} {a4 : Int} {x0 : Int × bz_Mm} (hf : fM_tell F M a1 a2 a3 a4 = some x0) : bz_Ct E yM_tell (.code yM_tell prog_14_method_12_code 5 (some .int)) 3 69 [bz_rf E 81, bz_i a1, bz_i a2, bz_i a3, bz_i a4] M (some (bz_i x0.1)) x0.2 := by
  refine bz_met (by decide +kernel) (Nat.le_of_ble_eq_true rfl) (fun K X => ?_)
  have X : bz_X K E prog_14_method_12_code 5 "UnitsWrongModel" (some .int) 3 69 _ _ := X
  unfold fM_tell at hf
  show bz_J K 5 0 [(0, bz_rf E 81), (1, bz_i a1), (2, bz_i a2), (3, bz_i a3), (4, bz_i a4)] [] M
  refine j_iload_n X dM_tell_0 rfl 1 rfl ?_
  refine j_iload_n X dM_tell_1 rfl 2 rfl ?_
  refine j_iload_n X dM_tell_2 rfl 3 rfl ?_
  refine j_iload X dM_tell_3 4 rfl ?_
  refine j_cs X (st := []) (cM_canTell E) gyM_canTell wd_1424 rfl (by decide) (by decide) wd_1423 rfl (Nat.le_of_ble_eq_true rfl) dM_tell_5 ?_
  refine j_if_eq X (tgt := 31) rfl dM_tell_8 (by decide) hf (fun hf => ?_) (fun hf => ?_)
  · refine j_iconst X dM_tell_31 ?_
    cases hf
    exact j_iret X dM_tell_32 rfl rfl
  · refine j_aload_n X dM_tell_11 rfl 0 rfl ?_
    refine j_geti X gf_M_251_81 dM_tell_12 ?_
    refine j_sipush X dM_tell_15 rfl ?_
    refine j_icmp_eq X (tgt := 31) rfl (w32_lit rfl) dM_tell_18 (by decide) hf (fun hf => ?_) (fun hf => ?_)
    · refine j_iconst X dM_tell_31 ?_
      cases hf
      exact j_iret X dM_tell_32 rfl rfl
    · refine j_aload_n X dM_tell_21 rfl 0 rfl ?_
      refine j_geti X gf_M_216_81 dM_tell_22 ?_
      refine j_sipush X dM_tell_25 rfl ?_
      refine j_icmp_ne X (tgt := 33) rfl (w32_lit rfl) dM_tell_28 (by decide) hf (fun hf => ?_) (fun hf => ?_)
      · refine j_aload_n X dM_tell_33 rfl 0 rfl ?_
        refine j_iload_n X dM_tell_34 rfl 1 rfl ?_
        refine j_iload_n X dM_tell_35 rfl 2 rfl ?_
        refine j_iload_n X dM_tell_36 rfl 3 rfl ?_
        refine j_iload X dM_tell_37 4 rfl ?_
        obtain ⟨m1, hz, hf⟩ := q_cl hf
        refine j_cv X (st := []) (cM_lays E F hz) gyM_lays gv_M_lays_81 rfl (by decide) (by decide) wd_1436 rfl (Nat.le_of_ble_eq_true rfl) dM_tell_39 ?_
        clear hz
        refine j_aload_n X dM_tell_42 rfl 0 rfl ?_
        show bz_J _ _ 43 _ _ _
        refine j_geti X gf_M_251_81 dM_tell_43 ?_
        cases hf
        exact j_iret X dM_tell_46 rfl rfl
      · refine j_iconst X dM_tell_31 ?_
        cases hf
        exact j_iret X dM_tell_32 rfl rfl
def M_telling_L6 (F : Nat) : Nat → bz_Mm → Int → Int → Int → Int → Int → Int → Option (Int)
  | 0, _, _, _, _, _, _, _ => none
  | n + 1, M, l1, l2, l3, l4, l6, l5 =>
    if w32 l6 < w32 (M 81 12) then
    (rd_ M 83 l6 407 fun x1 =>
    if w32 x1 = w32 l1 then
    (rd_ M 84 l6 407 fun x2 =>
    if w32 x2 = w32 l2 then
    (rd_ M 87 l6 407 fun x3 =>
    if w32 l4 < w32 x3 then
    (M_telling_L6 F n M l1 l2 l3 l4 (l6 + 1) l5)
    else
    (rd_ M 85 l6 407 fun x4 =>
    if w32 l3 < w32 x4 then
    (M_telling_L6 F n M l1 l2 l3 l4 (l6 + 1) l5)
    else
    (if 1 < w32 l1 then
    (rd_ M 85 l6 407 fun x7 =>
    if w32 x7 = w32 l3 then
    (if w32 l5 = (-1) then
    (M_telling_L6 F n M l1 l2 l3 l4 (l6 + 1) l6)
    else
    (rd_ M 85 l6 407 fun x8 =>
    rd_ M 85 l5 407 fun x9 =>
    if w32 x8 < w32 x9 then
    (M_telling_L6 F n M l1 l2 l3 l4 (l6 + 1) l5)
    else
    (M_telling_L6 F n M l1 l2 l3 l4 (l6 + 1) l6)))
    else
    (M_telling_L6 F n M l1 l2 l3 l4 (l6 + 1) l5))
    else
    (if w32 l5 = (-1) then
    (M_telling_L6 F n M l1 l2 l3 l4 (l6 + 1) l6)
    else
    (rd_ M 85 l6 407 fun x5 =>
    rd_ M 85 l5 407 fun x6 =>
    if w32 x5 < w32 x6 then
    (M_telling_L6 F n M l1 l2 l3 l4 (l6 + 1) l5)
    else
    (M_telling_L6 F n M l1 l2 l3 l4 (l6 + 1) l6))))))
    else
    (M_telling_L6 F n M l1 l2 l3 l4 (l6 + 1) l5))
    else
    (M_telling_L6 F n M l1 l2 l3 l4 (l6 + 1) l5))
    else
    (some l5)
theorem lM_telling_L6 (E : bz_E) (F : Nat) {K : bz_K} {rv : Option Value} {M1 : bz_Mm} (X : bz_X K E prog_14_method_13_code 7 "UnitsWrongModel" (some .int) 0 0 rv M1) {M : bz_Mm} {l1 : Int} {l2 : Int} {l3 : Int} {l4 : Int} {res : (Int)}
    (kx : ∀ (l5 : Int), some l5 = some res → bz_J K 7 115 [(5, bz_i l5)] [] M) :
    ∀ (n : Nat) (l6 : Int) (l5 : Int), M_telling_L6 F n M l1 l2 l3 l4 l6 l5 = some res → bz_J K 7 6 [(6, bz_i l6), (5, bz_i l5), (0, bz_rf E 81), (1, bz_i l1), (2, bz_i l2), (3, bz_i l3), (4, bz_i l4)] [] M := by
  intro n
  induction n with
  | zero => intro l6 l5 hf; cases hf
  | succ n ih =>
    intro l6 l5 hf
    rw [M_telling_L6] at hf
    refine j_iload X dM_telling_6 0 rfl ?_
    refine j_aload_n X dM_telling_8 rfl 2 rfl ?_
    refine j_geti X gf_M_251_81 dM_telling_9 ?_
    refine j_icmp_ge X (tgt := 115) rfl rfl dM_telling_12 (by decide) hf (fun hf => ?_) (fun hf => ?_)
    · exact j_sub [1] rfl (kx _ hf)
    · refine j_aload_n X dM_telling_15 rfl 2 rfl ?_
      refine j_geta X gf_M_13_81 dM_telling_16 ?_
      refine j_iload X dM_telling_19 0 rfl ?_
      refine j_iald X sh_83 dM_telling_21 hf (fun x1 hf => ?_)
      refine j_iload_n X dM_telling_22 rfl 3 rfl ?_
      refine j_icmp_ne X (tgt := 109) rfl rfl dM_telling_23 (by decide) hf (fun hf => ?_) (fun hf => ?_)
      · refine j_iinc X (y := l6 + 1) (lv' := [(6, bz_i (l6 + 1)), (5, bz_i l5), (0, bz_rf E 81), (1, bz_i l1), (2, bz_i l2), (3, bz_i l3), (4, bz_i l4)]) dM_telling_109 0 rfl rfl (by decide) rfl ?_
        refine j_goto X (tgt := 6) dM_telling_112 (by decide) ?_
        exact ih _ _ hf
      · refine j_aload_n X dM_telling_26 rfl 2 rfl ?_
        refine j_geta X gf_M_17_81 dM_telling_27 ?_
        refine j_iload X dM_telling_30 0 rfl ?_
        refine j_iald X sh_84 dM_telling_32 hf (fun x2 hf => ?_)
        refine j_iload_n X dM_telling_33 rfl 4 rfl ?_
        refine j_icmp_ne X (tgt := 109) rfl rfl dM_telling_34 (by decide) hf (fun hf => ?_) (fun hf => ?_)
        · refine j_iinc X (y := l6 + 1) (lv' := [(6, bz_i (l6 + 1)), (5, bz_i l5), (0, bz_rf E 81), (1, bz_i l1), (2, bz_i l2), (3, bz_i l3), (4, bz_i l4)]) dM_telling_109 0 rfl rfl (by decide) rfl ?_
          refine j_goto X (tgt := 6) dM_telling_112 (by decide) ?_
          exact ih _ _ hf
        · refine j_aload_n X dM_telling_37 rfl 2 rfl ?_
          refine j_geta X gf_M_26_81 dM_telling_38 ?_
          refine j_iload X dM_telling_41 0 rfl ?_
          refine j_iald X sh_87 dM_telling_43 hf (fun x3 hf => ?_)
          refine j_iload X dM_telling_44 6 rfl ?_
          refine j_icmp_gt X (tgt := 109) rfl rfl dM_telling_46 (by decide) hf (fun hf => ?_) (fun hf => ?_)
          · refine j_iinc X (y := l6 + 1) (lv' := [(6, bz_i (l6 + 1)), (5, bz_i l5), (0, bz_rf E 81), (1, bz_i l1), (2, bz_i l2), (3, bz_i l3), (4, bz_i l4)]) dM_telling_109 0 rfl rfl (by decide) rfl ?_
            refine j_goto X (tgt := 6) dM_telling_112 (by decide) ?_
            exact ih _ _ hf
          · refine j_aload_n X dM_telling_49 rfl 2 rfl ?_
            refine j_geta X gf_M_20_81 dM_telling_50 ?_
            refine j_iload X dM_telling_53 0 rfl ?_
            refine j_iald X sh_85 dM_telling_55 hf (fun x4 hf => ?_)
            refine j_iload_n X dM_telling_56 rfl 5 rfl ?_
            refine j_icmp_le X (tgt := 63) rfl rfl dM_telling_57 (by decide) hf (fun hf => ?_) (fun hf => ?_)
            · refine j_iload_n X dM_telling_63 rfl 3 rfl ?_
              refine j_iconst X dM_telling_64 ?_
              refine j_icmp_le X (tgt := 82) rfl (w32_lit rfl) dM_telling_65 (by decide) hf (fun hf => ?_) (fun hf => ?_)
              · refine j_iload X dM_telling_82 1 rfl ?_
                refine j_iconst X dM_telling_84 ?_
                refine j_icmp_eq X (tgt := 105) rfl (w32_lit rfl) dM_telling_85 (by decide) hf (fun hf => ?_) (fun hf => ?_)
                · refine j_iload X dM_telling_105 0 rfl ?_
                  refine j_istore X (lv' := [(5, bz_i l6), (6, bz_i l6), (0, bz_rf E 81), (1, bz_i l1), (2, bz_i l2), (3, bz_i l3), (4, bz_i l4)]) dM_telling_107 (by decide) rfl ?_
                  refine j_iinc X (y := l6 + 1) (lv' := [(6, bz_i (l6 + 1)), (5, bz_i l6), (0, bz_rf E 81), (1, bz_i l1), (2, bz_i l2), (3, bz_i l3), (4, bz_i l4)]) dM_telling_109 1 rfl rfl (by decide) rfl ?_
                  refine j_goto X (tgt := 6) dM_telling_112 (by decide) ?_
                  exact ih _ _ hf
                · refine j_aload_n X dM_telling_88 rfl 2 rfl ?_
                  refine j_geta X gf_M_20_81 dM_telling_89 ?_
                  refine j_iload X dM_telling_92 0 rfl ?_
                  refine j_iald X sh_85 dM_telling_94 hf (fun x5 hf => ?_)
                  refine j_aload_n X dM_telling_95 rfl 2 rfl ?_
                  refine j_geta X gf_M_20_81 dM_telling_96 ?_
                  refine j_iload X dM_telling_99 1 rfl ?_
                  show bz_J _ _ 101 _ _ _
                  refine j_iald X sh_85 dM_telling_101 hf (fun x6 hf => ?_)
                  refine j_icmp_lt X (tgt := 109) rfl rfl dM_telling_102 (by decide) hf (fun hf => ?_) (fun hf => ?_)
                  · refine j_iinc X (y := l6 + 1) (lv' := [(6, bz_i (l6 + 1)), (5, bz_i l5), (0, bz_rf E 81), (1, bz_i l1), (2, bz_i l2), (3, bz_i l3), (4, bz_i l4)]) dM_telling_109 0 rfl rfl (by decide) rfl ?_
                    refine j_goto X (tgt := 6) dM_telling_112 (by decide) ?_
                    exact ih _ _ hf
                  · refine j_iload X dM_telling_105 0 rfl ?_
                    refine j_istore X (lv' := [(5, bz_i l6), (6, bz_i l6), (0, bz_rf E 81), (1, bz_i l1), (2, bz_i l2), (3, bz_i l3), (4, bz_i l4)]) dM_telling_107 (by decide) rfl ?_
                    refine j_iinc X (y := l6 + 1) (lv' := [(6, bz_i (l6 + 1)), (5, bz_i l6), (0, bz_rf E 81), (1, bz_i l1), (2, bz_i l2), (3, bz_i l3), (4, bz_i l4)]) dM_telling_109 1 rfl rfl (by decide) rfl ?_
                    refine j_goto X (tgt := 6) dM_telling_112 (by decide) ?_
                    exact ih _ _ hf
              · refine j_aload_n X dM_telling_68 rfl 2 rfl ?_
                refine j_geta X gf_M_20_81 dM_telling_69 ?_
                refine j_iload X dM_telling_72 0 rfl ?_
                refine j_iald X sh_85 dM_telling_74 hf (fun x7 hf => ?_)
                refine j_iload_n X dM_telling_75 rfl 5 rfl ?_
                refine j_icmp_eq X (tgt := 82) rfl rfl dM_telling_76 (by decide) hf (fun hf => ?_) (fun hf => ?_)
                · refine j_iload X dM_telling_82 1 rfl ?_
                  refine j_iconst X dM_telling_84 ?_
                  refine j_icmp_eq X (tgt := 105) rfl (w32_lit rfl) dM_telling_85 (by decide) hf (fun hf => ?_) (fun hf => ?_)
                  · refine j_iload X dM_telling_105 0 rfl ?_
                    refine j_istore X (lv' := [(5, bz_i l6), (6, bz_i l6), (0, bz_rf E 81), (1, bz_i l1), (2, bz_i l2), (3, bz_i l3), (4, bz_i l4)]) dM_telling_107 (by decide) rfl ?_
                    refine j_iinc X (y := l6 + 1) (lv' := [(6, bz_i (l6 + 1)), (5, bz_i l6), (0, bz_rf E 81), (1, bz_i l1), (2, bz_i l2), (3, bz_i l3), (4, bz_i l4)]) dM_telling_109 1 rfl rfl (by decide) rfl ?_
                    refine j_goto X (tgt := 6) dM_telling_112 (by decide) ?_
                    exact ih _ _ hf
                  · refine j_aload_n X dM_telling_88 rfl 2 rfl ?_
                    refine j_geta X gf_M_20_81 dM_telling_89 ?_
                    refine j_iload X dM_telling_92 0 rfl ?_
                    refine j_iald X sh_85 dM_telling_94 hf (fun x8 hf => ?_)
                    refine j_aload_n X dM_telling_95 rfl 2 rfl ?_
                    refine j_geta X gf_M_20_81 dM_telling_96 ?_
                    refine j_iload X dM_telling_99 1 rfl ?_
                    show bz_J _ _ 101 _ _ _
                    refine j_iald X sh_85 dM_telling_101 hf (fun x9 hf => ?_)
                    refine j_icmp_lt X (tgt := 109) rfl rfl dM_telling_102 (by decide) hf (fun hf => ?_) (fun hf => ?_)
                    · refine j_iinc X (y := l6 + 1) (lv' := [(6, bz_i (l6 + 1)), (5, bz_i l5), (0, bz_rf E 81), (1, bz_i l1), (2, bz_i l2), (3, bz_i l3), (4, bz_i l4)]) dM_telling_109 0 rfl rfl (by decide) rfl ?_
                      refine j_goto X (tgt := 6) dM_telling_112 (by decide) ?_
                      exact ih _ _ hf
                    · refine j_iload X dM_telling_105 0 rfl ?_
                      refine j_istore X (lv' := [(5, bz_i l6), (6, bz_i l6), (0, bz_rf E 81), (1, bz_i l1), (2, bz_i l2), (3, bz_i l3), (4, bz_i l4)]) dM_telling_107 (by decide) rfl ?_
                      refine j_iinc X (y := l6 + 1) (lv' := [(6, bz_i (l6 + 1)), (5, bz_i l6), (0, bz_rf E 81), (1, bz_i l1), (2, bz_i l2), (3, bz_i l3), (4, bz_i l4)]) dM_telling_109 1 rfl rfl (by decide) rfl ?_
                      refine j_goto X (tgt := 6) dM_telling_112 (by decide) ?_
                      exact ih _ _ hf
                · refine j_goto X (tgt := 109) dM_telling_79 (by decide) ?_
                  refine j_iinc X (y := l6 + 1) (lv' := [(6, bz_i (l6 + 1)), (5, bz_i l5), (0, bz_rf E 81), (1, bz_i l1), (2, bz_i l2), (3, bz_i l3), (4, bz_i l4)]) dM_telling_109 0 rfl rfl (by decide) rfl ?_
                  refine j_goto X (tgt := 6) dM_telling_112 (by decide) ?_
                  exact ih _ _ hf
            · refine j_goto X (tgt := 109) dM_telling_60 (by decide) ?_
              refine j_iinc X (y := l6 + 1) (lv' := [(6, bz_i (l6 + 1)), (5, bz_i l5), (0, bz_rf E 81), (1, bz_i l1), (2, bz_i l2), (3, bz_i l3), (4, bz_i l4)]) dM_telling_109 0 rfl rfl (by decide) rfl ?_
              refine j_goto X (tgt := 6) dM_telling_112 (by decide) ?_
              exact ih _ _ hf
def fM_telling (F : Nat) (M : bz_Mm) (a1 : Int) (a2 : Int) (a3 : Int) (a4 : Int) : Option (Int) :=
  cl1_ (M_telling_L6 F F M a1 a2 a3 a4 0 ((-1))) fun l5 =>
  some l5
set_option maxHeartbeats 4000000 in
set_option maxRecDepth 20000 in
theorem cM_telling (E : bz_E) (F : Nat)  {M : bz_Mm} {a1 : Int} {a2 : Int} {a3 : Int} {a4 : Int} {x0 : Int} (hf : fM_telling F M a1 a2 a3 a4 = some x0) : bz_Ct E yM_telling (.code yM_telling prog_14_method_13_code 7 (some .int)) 0 0 [bz_rf E 81, bz_i a1, bz_i a2, bz_i a3, bz_i a4] M (some (bz_i x0)) M := by
  refine bz_met (by decide +kernel) (Nat.le_of_ble_eq_true rfl) (fun K X => ?_)
  have X : bz_X K E prog_14_method_13_code 7 "UnitsWrongModel" (some .int) 0 0 _ _ := X
  unfold fM_telling at hf
  show bz_J K 7 0 [(0, bz_rf E 81), (1, bz_i a1), (2, bz_i a2), (3, bz_i a3), (4, bz_i a4)] [] M
  refine j_iconst X dM_telling_0 ?_
  refine j_istore X (lv' := [(5, bz_i ((-1))), (0, bz_rf E 81), (1, bz_i a1), (2, bz_i a2), (3, bz_i a3), (4, bz_i a4)]) dM_telling_1 (by decide) rfl ?_
  refine j_iconst X dM_telling_3 ?_
  refine j_istore X (lv' := [(6, bz_i 0), (5, bz_i ((-1))), (0, bz_rf E 81), (1, bz_i a1), (2, bz_i a2), (3, bz_i a3), (4, bz_i a4)]) dM_telling_4 (by decide) rfl ?_
  obtain ⟨res10, hz10, hk10⟩ := q_l1 hf
  clear hf
  refine lM_telling_L6 E F X (fun l5 he => ?_) F 0 ((-1)) hz10
  have hf := hk10 _ he
  refine j_iload X dM_telling_115 0 rfl ?_
  cases hf
  exact j_iret X dM_telling_117 rfl rfl
def gM_plain (a0 : Int) : Option Int :=
  if w32 a0 = 1 then
  (some 1000)
  else
  (if w32 a0 = 3 then
  (some 1000)
  else
  (some 0))
def fM_plain (a0 : Int) : Int :=
  if w32 a0 = 1 then
  (1000)
  else
  (if w32 a0 = 3 then
  (1000)
  else
  (0))
theorem tM_plain (a0 : Int) : gM_plain a0 = some (fM_plain a0) := by
  unfold gM_plain fM_plain
  (repeat' (first | rfl | split))
set_option maxHeartbeats 4000000 in
set_option maxRecDepth 20000 in
theorem cM_plain (E : bz_E) {M : bz_Mm} {a0 : Int} : bz_Ct E yM_plain (.code yM_plain prog_14_method_14_code 1 (some .int)) 0 0 [bz_i a0] M (some (bz_i (fM_plain a0))) M := by
  have hf := tM_plain a0
  refine bz_met (by decide +kernel) (Nat.le_of_ble_eq_true rfl) (fun K X => ?_)
  have X : bz_X K E prog_14_method_14_code 1 "UnitsWrongModel" (some .int) 0 0 _ _ := X
  unfold gM_plain at hf
  generalize fM_plain a0 = rr at hf X
  show bz_J K 1 0 [(0, bz_i a0)] [] M
  refine j_iload_n X dM_plain_0 rfl 0 rfl ?_
  refine j_iconst X dM_plain_1 ?_
  refine j_icmp_eq X (tgt := 10) rfl (w32_lit rfl) dM_plain_2 (by decide) hf (fun hf => ?_) (fun hf => ?_)
  · refine j_sipush X dM_plain_10 rfl ?_
    refine j_goto X (tgt := 17) dM_plain_13 (by decide) ?_
    cases hf
    exact j_iret X dM_plain_17 rfl rfl
  · refine j_iload_n X dM_plain_5 rfl 0 rfl ?_
    refine j_iconst X dM_plain_6 ?_
    refine j_icmp_ne X (tgt := 16) rfl (w32_lit rfl) dM_plain_7 (by decide) hf (fun hf => ?_) (fun hf => ?_)
    · refine j_iconst X dM_plain_16 ?_
      cases hf
      exact j_iret X dM_plain_17 rfl rfl
    · refine j_sipush X dM_plain_10 rfl ?_
      refine j_goto X (tgt := 17) dM_plain_13 (by decide) ?_
      cases hf
      exact j_iret X dM_plain_17 rfl rfl
def fM_known1 (F : Nat) (M : bz_Mm) (a1 : Int) (a2 : Int) (a3 : Int) (a4 : Int) : Option (Int) :=
  if w32 (fM_isSubject a1 a2) = 0 then
  (some ((-2147483648)))
  else
  (if w32 (fM_in (w32 a3) 0 259) = 0 then
  (some ((-2147483648)))
  else
  (if w32 (fM_in (w32 a4) 0 259) = 0 then
  (some ((-2147483648)))
  else
  (cl_ (fM_telling F M a1 a2 a3 a4) fun x1 =>
  if w32 x1 = (-1) then
  (some (fM_plain a1))
  else
  (rd_ M 86 x1 407 fun x2 =>
  some x2))))
set_option maxHeartbeats 4000000 in
set_option maxRecDepth 20000 in
theorem cM_known1 (E : bz_E) (F : Nat)  {M : bz_Mm} {a1 : Int} {a2 : Int} {a3 : Int} {a4 : Int} {x0 : Int} (hf : fM_known1 F M a1 a2 a3 a4 = some x0) : bz_Ct E yM_known1 (.code yM_known1 prog_14_method_15_code 6 (some .int)) 2 46 [bz_rf E 81, bz_i a1, bz_i a2, bz_i a3, bz_i a4] M (some (bz_i x0)) M := by
  refine bz_met (by decide +kernel) (Nat.le_of_ble_eq_true rfl) (fun K X => ?_)
  have X : bz_X K E prog_14_method_15_code 6 "UnitsWrongModel" (some .int) 2 46 _ _ := X
  unfold fM_known1 at hf
  show bz_J K 6 0 [(0, bz_rf E 81), (1, bz_i a1), (2, bz_i a2), (3, bz_i a3), (4, bz_i a4)] [] M
  refine j_iload_n X dM_known1_0 rfl 1 rfl ?_
  refine j_iload_n X dM_known1_1 rfl 2 rfl ?_
  refine j_cs X (st := []) (cM_isSubject E) gyM_isSubject wd_1427 rfl (by decide) (by decide) wd_1426 rfl (Nat.le_of_ble_eq_true rfl) dM_known1_2 ?_
  refine j_if_eq X (tgt := 33) rfl dM_known1_5 (by decide) hf (fun hf => ?_) (fun hf => ?_)
  · refine j_ldcw X (v := -2147483648) wd_1448 dM_known1_33 ?_
    cases hf
    exact j_iret X dM_known1_36 rfl rfl
  · refine j_iload_n X dM_known1_8 rfl 3 rfl ?_
    refine j_i2l X rfl dM_known1_9 ?_
    refine j_lconst X (v := 0) dM_known1_10 rfl ?_
    refine j_ldc2 X (v := 259) wd_1407 dM_known1_11 ?_
    refine j_cs X (st := []) (cM_in E) gyM_in wd_1409 rfl (by decide) (by decide) wd_1408 rfl (Nat.le_of_ble_eq_true rfl) dM_known1_14 ?_
    refine j_if_eq X (tgt := 33) rfl dM_known1_17 (by decide) hf (fun hf => ?_) (fun hf => ?_)
    · refine j_ldcw X (v := -2147483648) wd_1448 dM_known1_33 ?_
      cases hf
      exact j_iret X dM_known1_36 rfl rfl
    · refine j_iload X dM_known1_20 4 rfl ?_
      refine j_i2l X rfl dM_known1_22 ?_
      refine j_lconst X (v := 0) dM_known1_23 rfl ?_
      refine j_ldc2 X (v := 259) wd_1407 dM_known1_24 ?_
      refine j_cs X (st := []) (cM_in E) gyM_in wd_1409 rfl (by decide) (by decide) wd_1408 rfl (Nat.le_of_ble_eq_true rfl) dM_known1_27 ?_
      refine j_if_ne X (tgt := 37) rfl dM_known1_30 (by decide) hf (fun hf => ?_) (fun hf => ?_)
      · refine j_aload_n X dM_known1_37 rfl 0 rfl ?_
        refine j_iload_n X dM_known1_38 rfl 1 rfl ?_
        refine j_iload_n X dM_known1_39 rfl 2 rfl ?_
        refine j_iload_n X dM_known1_40 rfl 3 rfl ?_
        refine j_iload X dM_known1_41 4 rfl ?_
        obtain ⟨x1, hzx1, hf⟩ := q_cl hf
        refine j_cv X (st := []) (cM_telling E F hzx1) gyM_telling gv_M_telling_81 rfl (by decide) (by decide) wd_1449 rfl (Nat.le_of_ble_eq_true rfl) dM_known1_43 ?_
        refine j_istore X (lv' := [(5, bz_i x1), (0, bz_rf E 81), (1, bz_i a1), (2, bz_i a2), (3, bz_i a3), (4, bz_i a4)]) dM_known1_46 (by decide) rfl ?_
        show bz_J _ _ 48 _ _ _
        refine j_iload X dM_known1_48 0 rfl ?_
        refine j_iconst X dM_known1_50 ?_
        refine j_icmp_ne X (tgt := 61) rfl (w32_lit rfl) dM_known1_51 (by decide) hf (fun hf => ?_) (fun hf => ?_)
        · refine j_aload_n X dM_known1_61 rfl 1 rfl ?_
          refine j_geta X gf_M_23_81 dM_known1_62 ?_
          refine j_iload X dM_known1_65 0 rfl ?_
          refine j_iald X sh_86 dM_known1_67 hf (fun x2 hf => ?_)
          cases hf
          exact j_iret X dM_known1_68 rfl rfl
        · refine j_iload_n X dM_known1_54 rfl 2 rfl ?_
          refine j_cs X (st := []) (cM_plain E) gyM_plain wd_1454 rfl (by decide) (by decide) wd_1453 rfl (Nat.le_of_ble_eq_true rfl) dM_known1_55 ?_
          refine j_goto X (tgt := 68) dM_known1_58 (by decide) ?_
          cases hf
          exact j_iret X dM_known1_68 rfl rfl
      · refine j_ldcw X (v := -2147483648) wd_1448 dM_known1_33 ?_
        cases hf
        exact j_iret X dM_known1_36 rfl rfl
def fM_stale (F : Nat) (M : bz_Mm) (a1 : Int) (a2 : Int) (a3 : Int) (a4 : Int) : Option (Int) :=
  if w32 (fM_in (w32 a1) 0 1) = 0 then
  (some 0)
  else
  (if w32 (fM_isSubject a1 a2) = 0 then
  (some 0)
  else
  (if w32 (fM_in (w32 a3) 0 259) = 0 then
  (some 0)
  else
  (if w32 (fM_in (w32 a4) 0 259) = 0 then
  (some 0)
  else
  (cl_ (fM_telling F M a1 a2 a3 a4) fun x1 =>
  if w32 x1 = (-1) then
  (some 0)
  else
  (rd_ M 85 x1 407 fun x2 =>
  if w32 x2 = w32 a3 then
  (some 0)
  else
  (some 1))))))
set_option maxHeartbeats 4000000 in
set_option maxRecDepth 20000 in
theorem cM_stale (E : bz_E) (F : Nat)  {M : bz_Mm} {a1 : Int} {a2 : Int} {a3 : Int} {a4 : Int} {x0 : Int} (hf : fM_stale F M a1 a2 a3 a4 = some x0) : bz_Ct E yM_stale (.code yM_stale prog_14_method_16_code 6 (some .boolean)) 2 46 [bz_rf E 81, bz_i a1, bz_i a2, bz_i a3, bz_i a4] M (some (bz_i x0)) M := by
  refine bz_met (by decide +kernel) (Nat.le_of_ble_eq_true rfl) (fun K X => ?_)
  have X : bz_X K E prog_14_method_16_code 6 "UnitsWrongModel" (some .boolean) 2 46 _ _ := X
  unfold fM_stale at hf
  show bz_J K 6 0 [(0, bz_rf E 81), (1, bz_i a1), (2, bz_i a2), (3, bz_i a3), (4, bz_i a4)] [] M
  refine j_iload_n X dM_stale_0 rfl 1 rfl ?_
  refine j_i2l X rfl dM_stale_1 ?_
  refine j_lconst X (v := 0) dM_stale_2 rfl ?_
  refine j_lconst X (v := 1) dM_stale_3 rfl ?_
  refine j_cs X (st := []) (cM_in E) gyM_in wd_1409 rfl (by decide) (by decide) wd_1408 rfl (Nat.le_of_ble_eq_true rfl) dM_stale_4 ?_
  refine j_if_eq X (tgt := 43) rfl dM_stale_7 (by decide) hf (fun hf => ?_) (fun hf => ?_)
  · refine j_iconst X dM_stale_43 ?_
    cases hf
    exact j_zret X (by decide +kernel) dM_stale_44 rfl rfl
  · refine j_iload_n X dM_stale_10 rfl 1 rfl ?_
    refine j_iload_n X dM_stale_11 rfl 2 rfl ?_
    refine j_cs X (st := []) (cM_isSubject E) gyM_isSubject wd_1427 rfl (by decide) (by decide) wd_1426 rfl (Nat.le_of_ble_eq_true rfl) dM_stale_12 ?_
    refine j_if_eq X (tgt := 43) rfl dM_stale_15 (by decide) hf (fun hf => ?_) (fun hf => ?_)
    · refine j_iconst X dM_stale_43 ?_
      cases hf
      exact j_zret X (by decide +kernel) dM_stale_44 rfl rfl
    · refine j_iload_n X dM_stale_18 rfl 3 rfl ?_
      refine j_i2l X rfl dM_stale_19 ?_
      refine j_lconst X (v := 0) dM_stale_20 rfl ?_
      refine j_ldc2 X (v := 259) wd_1407 dM_stale_21 ?_
      refine j_cs X (st := []) (cM_in E) gyM_in wd_1409 rfl (by decide) (by decide) wd_1408 rfl (Nat.le_of_ble_eq_true rfl) dM_stale_24 ?_
      refine j_if_eq X (tgt := 43) rfl dM_stale_27 (by decide) hf (fun hf => ?_) (fun hf => ?_)
      · refine j_iconst X dM_stale_43 ?_
        cases hf
        exact j_zret X (by decide +kernel) dM_stale_44 rfl rfl
      · refine j_iload X dM_stale_30 4 rfl ?_
        refine j_i2l X rfl dM_stale_32 ?_
        refine j_lconst X (v := 0) dM_stale_33 rfl ?_
        refine j_ldc2 X (v := 259) wd_1407 dM_stale_34 ?_
        refine j_cs X (st := []) (cM_in E) gyM_in wd_1409 rfl (by decide) (by decide) wd_1408 rfl (Nat.le_of_ble_eq_true rfl) dM_stale_37 ?_
        refine j_if_ne X (tgt := 45) rfl dM_stale_40 (by decide) hf (fun hf => ?_) (fun hf => ?_)
        · refine j_aload_n X dM_stale_45 rfl 0 rfl ?_
          refine j_iload_n X dM_stale_46 rfl 1 rfl ?_
          refine j_iload_n X dM_stale_47 rfl 2 rfl ?_
          refine j_iload_n X dM_stale_48 rfl 3 rfl ?_
          refine j_iload X dM_stale_49 4 rfl ?_
          obtain ⟨x1, hzx1, hf⟩ := q_cl hf
          refine j_cv X (st := []) (cM_telling E F hzx1) gyM_telling gv_M_telling_81 rfl (by decide) (by decide) wd_1449 rfl (Nat.le_of_ble_eq_true rfl) dM_stale_51 ?_
          refine j_istore X (lv' := [(5, bz_i x1), (0, bz_rf E 81), (1, bz_i a1), (2, bz_i a2), (3, bz_i a3), (4, bz_i a4)]) dM_stale_54 (by decide) rfl ?_
          show bz_J _ _ 56 _ _ _
          refine j_iload X dM_stale_56 0 rfl ?_
          refine j_iconst X dM_stale_58 ?_
          refine j_icmp_eq X (tgt := 77) rfl (w32_lit rfl) dM_stale_59 (by decide) hf (fun hf => ?_) (fun hf => ?_)
          · refine j_iconst X dM_stale_77 ?_
            cases hf
            exact j_zret X (by decide +kernel) dM_stale_78 rfl rfl
          · refine j_aload_n X dM_stale_62 rfl 1 rfl ?_
            refine j_geta X gf_M_20_81 dM_stale_63 ?_
            refine j_iload X dM_stale_66 0 rfl ?_
            refine j_iald X sh_85 dM_stale_68 hf (fun x2 hf => ?_)
            refine j_iload_n X dM_stale_69 rfl 4 rfl ?_
            refine j_icmp_eq X (tgt := 77) rfl rfl dM_stale_70 (by decide) hf (fun hf => ?_) (fun hf => ?_)
            · refine j_iconst X dM_stale_77 ?_
              cases hf
              exact j_zret X (by decide +kernel) dM_stale_78 rfl rfl
            · refine j_iconst X dM_stale_73 ?_
              refine j_goto X (tgt := 78) dM_stale_74 (by decide) ?_
              cases hf
              exact j_zret X (by decide +kernel) dM_stale_78 rfl rfl
        · refine j_iconst X dM_stale_43 ?_
          cases hf
          exact j_zret X (by decide +kernel) dM_stale_44 rfl rfl
def fM_paper (F : Nat) (M : bz_Mm) (a1 : Int) (a2 : Int) : Option (Int × bz_Mm) :=
  if w32 (fM_in (w32 a1) 0 7) = 0 then
  (some ((0, M)))
  else
  (if w32 (fM_in (w32 a2) 0 2) = 0 then
  (some ((0, M)))
  else
  (if w32 (M 81 0) = 0 then
  (wa_ M 92 a1 8 a2 fun m1 =>
  some ((1, m1)))
  else
  (some ((0, M)))))
set_option maxHeartbeats 4000000 in
set_option maxRecDepth 20000 in
theorem cM_paper (E : bz_E) (F : Nat)  {M : bz_Mm} {a1 : Int} {a2 : Int} {x0 : Int × bz_Mm} (hf : fM_paper F M a1 a2 = some x0) : bz_Ct E yM_paper (.code yM_paper prog_14_method_17_code 3 (some .boolean)) 1 25 [bz_rf E 81, bz_i a1, bz_i a2] M (some (bz_i x0.1)) x0.2 := by
  refine bz_met (by decide +kernel) (Nat.le_of_ble_eq_true rfl) (fun K X => ?_)
  have X : bz_X K E prog_14_method_17_code 3 "UnitsWrongModel" (some .boolean) 1 25 _ _ := X
  unfold fM_paper at hf
  show bz_J K 3 0 [(0, bz_rf E 81), (1, bz_i a1), (2, bz_i a2)] [] M
  refine j_iload_n X dM_paper_0 rfl 1 rfl ?_
  refine j_i2l X rfl dM_paper_1 ?_
  refine j_lconst X (v := 0) dM_paper_2 rfl ?_
  refine j_ldc2 X (v := 7) wd_1431 dM_paper_3 ?_
  refine j_cs X (st := []) (cM_in E) gyM_in wd_1409 rfl (by decide) (by decide) wd_1408 rfl (Nat.le_of_ble_eq_true rfl) dM_paper_6 ?_
  refine j_if_eq X (tgt := 31) rfl dM_paper_9 (by decide) hf (fun hf => ?_) (fun hf => ?_)
  · refine j_iconst X dM_paper_31 ?_
    cases hf
    exact j_zret X (by decide +kernel) dM_paper_32 rfl rfl
  · refine j_iload_n X dM_paper_12 rfl 2 rfl ?_
    refine j_i2l X rfl dM_paper_13 ?_
    refine j_lconst X (v := 0) dM_paper_14 rfl ?_
    refine j_ldc2 X (v := 2) wd_1429 dM_paper_15 ?_
    refine j_cs X (st := []) (cM_in E) gyM_in wd_1409 rfl (by decide) (by decide) wd_1408 rfl (Nat.le_of_ble_eq_true rfl) dM_paper_18 ?_
    refine j_if_eq X (tgt := 31) rfl dM_paper_21 (by decide) hf (fun hf => ?_) (fun hf => ?_)
    · refine j_iconst X dM_paper_31 ?_
      cases hf
      exact j_zret X (by decide +kernel) dM_paper_32 rfl rfl
    · refine j_aload_n X dM_paper_24 rfl 0 rfl ?_
      refine j_geti X gf_M_216_81 dM_paper_25 ?_
      refine j_if_eq X (tgt := 33) rfl dM_paper_28 (by decide) hf (fun hf => ?_) (fun hf => ?_)
      · refine j_aload_n X dM_paper_33 rfl 0 rfl ?_
        refine j_geta X gf_M_41_81 dM_paper_34 ?_
        refine j_iload_n X dM_paper_37 rfl 1 rfl ?_
        refine j_iload_n X dM_paper_38 rfl 2 rfl ?_
        refine j_iast X sh_92 dM_paper_39 hf (fun m1 hf => ?_)
        refine j_iconst X dM_paper_40 ?_
        cases hf
        exact j_zret X (by decide +kernel) dM_paper_41 rfl rfl
      · refine j_iconst X dM_paper_31 ?_
        cases hf
        exact j_zret X (by decide +kernel) dM_paper_32 rfl rfl
def fM_fund (F : Nat) (M : bz_Mm) (a1 : Int) : Option (Int × bz_Mm) :=
  if w32 (fM_in (w32 a1) 0 100000000) = 0 then
  (some (((-1), M)))
  else
  (if w32 (M 81 19) = 4 then
  (some (((-1), M)))
  else
  (if w32 (M 81 0) = 0 then
  (wa_ M 93 (M 81 19) 4 a1 fun m1 =>
  wa_ m1 96 (m1 81 19) 4 ((-1)) fun m2 =>
  wf_ m2 81 19 ((m2 81 19) + 1) fun m3 =>
  some (((m3 81 19) - 1, m3)))
  else
  (some (((-1), M)))))
set_option maxHeartbeats 4000000 in
set_option maxRecDepth 20000 in
theorem cM_fund (E : bz_E) (F : Nat)  {M : bz_Mm} {a1 : Int} {x0 : Int × bz_Mm} (hf : fM_fund F M a1 = some x0) : bz_Ct E yM_fund (.code yM_fund prog_14_method_19_code 2 (some .int)) 1 25 [bz_rf E 81, bz_i a1] M (some (bz_i x0.1)) x0.2 := by
  refine bz_met (by decide +kernel) (Nat.le_of_ble_eq_true rfl) (fun K X => ?_)
  have X : bz_X K E prog_14_method_19_code 2 "UnitsWrongModel" (some .int) 1 25 _ _ := X
  unfold fM_fund at hf
  show bz_J K 2 0 [(0, bz_rf E 81), (1, bz_i a1)] [] M
  refine j_iload_n X dM_fund_0 rfl 1 rfl ?_
  refine j_i2l X rfl dM_fund_1 ?_
  refine j_lconst X (v := 0) dM_fund_2 rfl ?_
  refine j_ldc2 X (v := 100000000) wd_1468 dM_fund_3 ?_
  refine j_cs X (st := []) (cM_in E) gyM_in wd_1409 rfl (by decide) (by decide) wd_1408 rfl (Nat.le_of_ble_eq_true rfl) dM_fund_6 ?_
  refine j_if_eq X (tgt := 27) rfl dM_fund_9 (by decide) hf (fun hf => ?_) (fun hf => ?_)
  · refine j_iconst X dM_fund_27 ?_
    cases hf
    exact j_iret X dM_fund_28 rfl rfl
  · refine j_aload_n X dM_fund_12 rfl 0 rfl ?_
    refine j_geti X gf_M_275_81 dM_fund_13 ?_
    refine j_iconst X dM_fund_16 ?_
    refine j_icmp_eq X (tgt := 27) rfl (w32_lit rfl) dM_fund_17 (by decide) hf (fun hf => ?_) (fun hf => ?_)
    · refine j_iconst X dM_fund_27 ?_
      cases hf
      exact j_iret X dM_fund_28 rfl rfl
    · refine j_aload_n X dM_fund_20 rfl 0 rfl ?_
      refine j_geti X gf_M_216_81 dM_fund_21 ?_
      refine j_if_eq X (tgt := 29) rfl dM_fund_24 (by decide) hf (fun hf => ?_) (fun hf => ?_)
      · refine j_aload_n X dM_fund_29 rfl 0 rfl ?_
        refine j_geta X gf_M_44_81 dM_fund_30 ?_
        refine j_aload_n X dM_fund_33 rfl 0 rfl ?_
        refine j_geti X gf_M_275_81 dM_fund_34 ?_
        refine j_iload_n X dM_fund_37 rfl 1 rfl ?_
        refine j_iast X sh_93 dM_fund_38 hf (fun m1 hf => ?_)
        refine j_aload_n X dM_fund_39 rfl 0 rfl ?_
        show bz_J _ _ 40 _ _ _
        refine j_geta X gf_M_53_81 dM_fund_40 ?_
        refine j_aload_n X dM_fund_43 rfl 0 rfl ?_
        refine j_geti X gf_M_275_81 dM_fund_44 ?_
        refine j_iconst X dM_fund_47 ?_
        refine j_iast X sh_96 dM_fund_48 hf (fun m2 hf => ?_)
        refine j_aload_n X dM_fund_49 rfl 0 rfl ?_
        refine j_dup X dM_fund_50 rfl ?_
        refine j_geti X gf_M_275_81 dM_fund_51 ?_
        show bz_J _ _ 54 _ _ _
        refine j_iconst X dM_fund_54 ?_
        refine j_iadd X dM_fund_55 ?_
        refine j_puti X pf_M_275_81 dM_fund_56 hf (fun m3 hf => ?_)
        refine j_aload_n X dM_fund_59 rfl 0 rfl ?_
        refine j_geti X gf_M_275_81 dM_fund_60 ?_
        refine j_iconst X dM_fund_63 ?_
        refine j_isub X dM_fund_64 ?_
        cases hf
        exact j_iret X dM_fund_65 rfl rfl
      · refine j_iconst X dM_fund_27 ?_
        cases hf
        exact j_iret X dM_fund_28 rfl rfl
def fM_holder (F : Nat) (M : bz_Mm) (a1 : Int) : Option (Int × bz_Mm) :=
  if w32 (fM_in (w32 a1) ((-11)) 12) = 0 then
  (some (((-1), M)))
  else
  (if w32 (M 81 20) = 16 then
  (some (((-1), M)))
  else
  (wa_ M 94 (M 81 20) 16 a1 fun m1 =>
  wa_ m1 95 (m1 81 20) 16 ((-1)) fun m2 =>
  wf_ m2 81 20 ((m2 81 20) + 1) fun m3 =>
  some (((m3 81 20) - 1, m3))))
set_option maxHeartbeats 4000000 in
set_option maxRecDepth 20000 in
theorem cM_holder (E : bz_E) (F : Nat)  {M : bz_Mm} {a1 : Int} {x0 : Int × bz_Mm} (hf : fM_holder F M a1 = some x0) : bz_Ct E yM_holder (.code yM_holder prog_14_method_20_code 2 (some .int)) 1 25 [bz_rf E 81, bz_i a1] M (some (bz_i x0.1)) x0.2 := by
  refine bz_met (by decide +kernel) (Nat.le_of_ble_eq_true rfl) (fun K X => ?_)
  have X : bz_X K E prog_14_method_20_code 2 "UnitsWrongModel" (some .int) 1 25 _ _ := X
  unfold fM_holder at hf
  show bz_J K 2 0 [(0, bz_rf E 81), (1, bz_i a1)] [] M
  refine j_iload_n X dM_holder_0 rfl 1 rfl ?_
  refine j_i2l X rfl dM_holder_1 ?_
  refine j_ldc2 X (v := -11) wd_1473 dM_holder_2 ?_
  refine j_ldc2 X (v := 12) wd_1474 dM_holder_5 ?_
  refine j_cs X (st := []) (cM_in E) gyM_in wd_1409 rfl (by decide) (by decide) wd_1408 rfl (Nat.le_of_ble_eq_true rfl) dM_holder_8 ?_
  refine j_if_eq X (tgt := 23) rfl dM_holder_11 (by decide) hf (fun hf => ?_) (fun hf => ?_)
  · refine j_iconst X dM_holder_23 ?_
    cases hf
    exact j_iret X dM_holder_24 rfl rfl
  · refine j_aload_n X dM_holder_14 rfl 0 rfl ?_
    refine j_geti X gf_M_284_81 dM_holder_15 ?_
    refine j_bipush X dM_holder_18 rfl ?_
    refine j_icmp_ne X (tgt := 25) rfl (w32_lit rfl) dM_holder_20 (by decide) hf (fun hf => ?_) (fun hf => ?_)
    · refine j_aload_n X dM_holder_25 rfl 0 rfl ?_
      refine j_geta X gf_M_47_81 dM_holder_26 ?_
      refine j_aload_n X dM_holder_29 rfl 0 rfl ?_
      refine j_geti X gf_M_284_81 dM_holder_30 ?_
      refine j_iload_n X dM_holder_33 rfl 1 rfl ?_
      refine j_iast X sh_94 dM_holder_34 hf (fun m1 hf => ?_)
      refine j_aload_n X dM_holder_35 rfl 0 rfl ?_
      show bz_J _ _ 36 _ _ _
      refine j_geta X gf_M_50_81 dM_holder_36 ?_
      refine j_aload_n X dM_holder_39 rfl 0 rfl ?_
      refine j_geti X gf_M_284_81 dM_holder_40 ?_
      refine j_iconst X dM_holder_43 ?_
      refine j_iast X sh_95 dM_holder_44 hf (fun m2 hf => ?_)
      refine j_aload_n X dM_holder_45 rfl 0 rfl ?_
      refine j_dup X dM_holder_46 rfl ?_
      refine j_geti X gf_M_284_81 dM_holder_47 ?_
      show bz_J _ _ 50 _ _ _
      refine j_iconst X dM_holder_50 ?_
      refine j_iadd X dM_holder_51 ?_
      refine j_puti X pf_M_284_81 dM_holder_52 hf (fun m3 hf => ?_)
      refine j_aload_n X dM_holder_55 rfl 0 rfl ?_
      refine j_geti X gf_M_284_81 dM_holder_56 ?_
      refine j_iconst X dM_holder_59 ?_
      refine j_isub X dM_holder_60 ?_
      cases hf
      exact j_iret X dM_holder_61 rfl rfl
    · refine j_iconst X dM_holder_23 ?_
      cases hf
      exact j_iret X dM_holder_24 rfl rfl
def gM_isFund (M : bz_Mm) (a1 : Int) : Option Int :=
  some (fM_in (w32 a1) 0 (w32 ((M 81 19) - 1)))
def fM_isFund (M : bz_Mm) (a1 : Int) : Int :=
  (fM_in (w32 a1) 0 (w32 ((M 81 19) - 1)))
theorem tM_isFund (M : bz_Mm) (a1 : Int) : gM_isFund M a1 = some (fM_isFund M a1) := by
  unfold gM_isFund fM_isFund
  (repeat' (first | rfl | split))
theorem zM_isFund {M : bz_Mm} {a1 : Int} : fM_isFund M a1 = 0 ∨ fM_isFund M a1 = 1 := by
  unfold fM_isFund
  (repeat' (first | exact Or.inl rfl | exact Or.inr rfl | exact zM_in | split))
set_option maxHeartbeats 4000000 in
set_option maxRecDepth 20000 in
theorem cM_isFund (E : bz_E) {M : bz_Mm} {a1 : Int} : bz_Ct E yM_isFund (.code yM_isFund prog_14_method_18_code 2 (some .boolean)) 1 25 [bz_rf E 81, bz_i a1] M (some (bz_i (fM_isFund M a1))) M := by
  have hf := tM_isFund M a1
  refine bz_met (by decide +kernel) (Nat.le_of_ble_eq_true rfl) (fun K X => ?_)
  have X : bz_X K E prog_14_method_18_code 2 "UnitsWrongModel" (some .boolean) 1 25 _ _ := X
  unfold gM_isFund at hf
  generalize fM_isFund M a1 = rr at hf X
  show bz_J K 2 0 [(0, bz_rf E 81), (1, bz_i a1)] [] M
  refine j_iload_n X dM_isFund_0 rfl 1 rfl ?_
  refine j_i2l X rfl dM_isFund_1 ?_
  refine j_lconst X (v := 0) dM_isFund_2 rfl ?_
  refine j_aload_n X dM_isFund_3 rfl 0 rfl ?_
  refine j_geti X gf_M_275_81 dM_isFund_4 ?_
  refine j_iconst X dM_isFund_7 ?_
  refine j_isub X dM_isFund_8 ?_
  show bz_J _ _ 9 _ _ _
  refine j_i2l X rfl dM_isFund_9 ?_
  refine j_cs X (st := []) (cM_in E) gyM_in wd_1409 rfl (by decide) (by decide) wd_1408 rfl (Nat.le_of_ble_eq_true rfl) dM_isFund_10 ?_
  cases hf
  exact j_zret X (bz_zz zM_in) dM_isFund_13 rfl rfl
def fM_trade (F : Nat) (M : bz_Mm) (a1 : Int) (a2 : Int) (a3 : Int) (a4 : Int) (a5 : Int) : Option (Int × bz_Mm) :=
  if w32 (fM_isFund M a1) = 0 then
  (some (((-1), M)))
  else
  (if w32 (fM_in (w32 a2) 0 7) = 0 then
  (some (((-1), M)))
  else
  (if w32 (fM_in (w32 a3) 0 (w32 (M 81 0))) = 0 then
  (some (((-1), M)))
  else
  (if w32 (fM_in (w32 a4) ((-10000)) 10000) = 0 then
  (some (((-1), M)))
  else
  (if w32 (fM_in (w32 a5) ((-100000000)) 100000000) = 0 then
  (some (((-1), M)))
  else
  (if w32 (M 81 27) = 120 then
  (some (((-1), M)))
  else
  (if w32 (M 81 0) = 260 then
  (some (((-1), M)))
  else
  (wa_ M 97 (M 81 27) 120 a1 fun m1 =>
  wa_ m1 98 (m1 81 27) 120 a2 fun m2 =>
  wa_ m2 99 (m2 81 27) 120 a3 fun m3 =>
  wa_ m3 100 (m3 81 27) 120 a4 fun m4 =>
  wa_ m4 101 (m4 81 27) 120 a5 fun m5 =>
  wa_ m5 102 (m5 81 27) 120 (m5 81 0) fun m6 =>
  wf_ m6 81 27 ((m6 81 27) + 1) fun m7 =>
  some (((m7 81 27) - 1, m7)))))))))
set_option maxHeartbeats 4000000 in
set_option maxRecDepth 20000 in
theorem cM_trade (E : bz_E) (F : Nat)  {M : bz_Mm} {a1 : Int} {a2 : Int} {a3 : Int} {a4 : Int} {a5 : Int} {x0 : Int × bz_Mm} (hf : fM_trade F M a1 a2 a3 a4 a5 = some x0) : bz_Ct E yM_trade (.code yM_trade prog_14_method_22_code 6 (some .int)) 2 46 [bz_rf E 81, bz_i a1, bz_i a2, bz_i a3, bz_i a4, bz_i a5] M (some (bz_i x0.1)) x0.2 := by
  refine bz_met (by decide +kernel) (Nat.le_of_ble_eq_true rfl) (fun K X => ?_)
  have X : bz_X K E prog_14_method_22_code 6 "UnitsWrongModel" (some .int) 2 46 _ _ := X
  unfold fM_trade at hf
  show bz_J K 6 0 [(0, bz_rf E 81), (1, bz_i a1), (2, bz_i a2), (3, bz_i a3), (4, bz_i a4), (5, bz_i a5)] [] M
  refine j_aload_n X dM_trade_0 rfl 0 rfl ?_
  refine j_iload_n X dM_trade_1 rfl 1 rfl ?_
  refine j_cv X (st := []) (cM_isFund E) gyM_isFund gv_M_isFund_81 rfl (by decide) (by decide) wd_1479 rfl (Nat.le_of_ble_eq_true rfl) dM_trade_2 ?_
  refine j_if_eq X (tgt := 83) rfl dM_trade_5 (by decide) hf (fun hf => ?_) (fun hf => ?_)
  · refine j_iconst X dM_trade_83 ?_
    cases hf
    exact j_iret X dM_trade_84 rfl rfl
  · refine j_iload_n X dM_trade_8 rfl 2 rfl ?_
    refine j_i2l X rfl dM_trade_9 ?_
    refine j_lconst X (v := 0) dM_trade_10 rfl ?_
    refine j_ldc2 X (v := 7) wd_1431 dM_trade_11 ?_
    refine j_cs X (st := []) (cM_in E) gyM_in wd_1409 rfl (by decide) (by decide) wd_1408 rfl (Nat.le_of_ble_eq_true rfl) dM_trade_14 ?_
    refine j_if_eq X (tgt := 83) rfl dM_trade_17 (by decide) hf (fun hf => ?_) (fun hf => ?_)
    · refine j_iconst X dM_trade_83 ?_
      cases hf
      exact j_iret X dM_trade_84 rfl rfl
    · refine j_iload_n X dM_trade_20 rfl 3 rfl ?_
      refine j_i2l X rfl dM_trade_21 ?_
      refine j_lconst X (v := 0) dM_trade_22 rfl ?_
      refine j_aload_n X dM_trade_23 rfl 0 rfl ?_
      refine j_geti X gf_M_216_81 dM_trade_24 ?_
      refine j_i2l X rfl dM_trade_27 ?_
      refine j_cs X (st := []) (cM_in E) gyM_in wd_1409 rfl (by decide) (by decide) wd_1408 rfl (Nat.le_of_ble_eq_true rfl) dM_trade_28 ?_
      show bz_J _ _ 31 _ _ _
      refine j_if_eq X (tgt := 83) rfl dM_trade_31 (by decide) hf (fun hf => ?_) (fun hf => ?_)
      · refine j_iconst X dM_trade_83 ?_
        cases hf
        exact j_iret X dM_trade_84 rfl rfl
      · refine j_iload X dM_trade_34 4 rfl ?_
        refine j_i2l X rfl dM_trade_36 ?_
        refine j_ldc2 X (v := -10000) wd_1483 dM_trade_37 ?_
        refine j_ldc2 X (v := 10000) wd_1432 dM_trade_40 ?_
        refine j_cs X (st := []) (cM_in E) gyM_in wd_1409 rfl (by decide) (by decide) wd_1408 rfl (Nat.le_of_ble_eq_true rfl) dM_trade_43 ?_
        refine j_if_eq X (tgt := 83) rfl dM_trade_46 (by decide) hf (fun hf => ?_) (fun hf => ?_)
        · refine j_iconst X dM_trade_83 ?_
          cases hf
          exact j_iret X dM_trade_84 rfl rfl
        · refine j_iload X dM_trade_49 5 rfl ?_
          refine j_i2l X rfl dM_trade_51 ?_
          refine j_ldc2 X (v := -100000000) wd_1484 dM_trade_52 ?_
          refine j_ldc2 X (v := 100000000) wd_1468 dM_trade_55 ?_
          refine j_cs X (st := []) (cM_in E) gyM_in wd_1409 rfl (by decide) (by decide) wd_1408 rfl (Nat.le_of_ble_eq_true rfl) dM_trade_58 ?_
          refine j_if_eq X (tgt := 83) rfl dM_trade_61 (by decide) hf (fun hf => ?_) (fun hf => ?_)
          · refine j_iconst X dM_trade_83 ?_
            cases hf
            exact j_iret X dM_trade_84 rfl rfl
          · refine j_aload_n X dM_trade_64 rfl 0 rfl ?_
            refine j_geti X gf_M_294_81 dM_trade_65 ?_
            refine j_bipush X dM_trade_68 rfl ?_
            refine j_icmp_eq X (tgt := 83) rfl (w32_lit rfl) dM_trade_70 (by decide) hf (fun hf => ?_) (fun hf => ?_)
            · refine j_iconst X dM_trade_83 ?_
              cases hf
              exact j_iret X dM_trade_84 rfl rfl
            · refine j_aload_n X dM_trade_73 rfl 0 rfl ?_
              refine j_geti X gf_M_216_81 dM_trade_74 ?_
              refine j_sipush X dM_trade_77 rfl ?_
              refine j_icmp_ne X (tgt := 85) rfl (w32_lit rfl) dM_trade_80 (by decide) hf (fun hf => ?_) (fun hf => ?_)
              · refine j_aload_n X dM_trade_85 rfl 0 rfl ?_
                refine j_geta X gf_M_56_81 dM_trade_86 ?_
                refine j_aload_n X dM_trade_89 rfl 0 rfl ?_
                refine j_geti X gf_M_294_81 dM_trade_90 ?_
                refine j_iload_n X dM_trade_93 rfl 1 rfl ?_
                refine j_iast X sh_97 dM_trade_94 hf (fun m1 hf => ?_)
                refine j_aload_n X dM_trade_95 rfl 0 rfl ?_
                show bz_J _ _ 96 _ _ _
                refine j_geta X gf_M_59_81 dM_trade_96 ?_
                refine j_aload_n X dM_trade_99 rfl 0 rfl ?_
                refine j_geti X gf_M_294_81 dM_trade_100 ?_
                refine j_iload_n X dM_trade_103 rfl 2 rfl ?_
                refine j_iast X sh_98 dM_trade_104 hf (fun m2 hf => ?_)
                refine j_aload_n X dM_trade_105 rfl 0 rfl ?_
                refine j_geta X gf_M_62_81 dM_trade_106 ?_
                refine j_aload_n X dM_trade_109 rfl 0 rfl ?_
                show bz_J _ _ 110 _ _ _
                refine j_geti X gf_M_294_81 dM_trade_110 ?_
                refine j_iload_n X dM_trade_113 rfl 3 rfl ?_
                refine j_iast X sh_99 dM_trade_114 hf (fun m3 hf => ?_)
                refine j_aload_n X dM_trade_115 rfl 0 rfl ?_
                refine j_geta X gf_M_65_81 dM_trade_116 ?_
                refine j_aload_n X dM_trade_119 rfl 0 rfl ?_
                refine j_geti X gf_M_294_81 dM_trade_120 ?_
                refine j_iload X dM_trade_123 4 rfl ?_
                show bz_J _ _ 125 _ _ _
                refine j_iast X sh_100 dM_trade_125 hf (fun m4 hf => ?_)
                refine j_aload_n X dM_trade_126 rfl 0 rfl ?_
                refine j_geta X gf_M_68_81 dM_trade_127 ?_
                refine j_aload_n X dM_trade_130 rfl 0 rfl ?_
                refine j_geti X gf_M_294_81 dM_trade_131 ?_
                refine j_iload X dM_trade_134 5 rfl ?_
                refine j_iast X sh_101 dM_trade_136 hf (fun m5 hf => ?_)
                refine j_aload_n X dM_trade_137 rfl 0 rfl ?_
                show bz_J _ _ 138 _ _ _
                refine j_geta X gf_M_71_81 dM_trade_138 ?_
                refine j_aload_n X dM_trade_141 rfl 0 rfl ?_
                refine j_geti X gf_M_294_81 dM_trade_142 ?_
                refine j_aload_n X dM_trade_145 rfl 0 rfl ?_
                refine j_geti X gf_M_216_81 dM_trade_146 ?_
                refine j_iast X sh_102 dM_trade_149 hf (fun m6 hf => ?_)
                refine j_aload_n X dM_trade_150 rfl 0 rfl ?_
                refine j_dup X dM_trade_151 rfl ?_
                show bz_J _ _ 152 _ _ _
                refine j_geti X gf_M_294_81 dM_trade_152 ?_
                refine j_iconst X dM_trade_155 ?_
                refine j_iadd X dM_trade_156 ?_
                refine j_puti X pf_M_294_81 dM_trade_157 hf (fun m7 hf => ?_)
                refine j_aload_n X dM_trade_160 rfl 0 rfl ?_
                refine j_geti X gf_M_294_81 dM_trade_161 ?_
                refine j_iconst X dM_trade_164 ?_
                refine j_isub X dM_trade_165 ?_
                show bz_J _ _ 166 _ _ _
                cases hf
                exact j_iret X dM_trade_166 rfl rfl
              · refine j_iconst X dM_trade_83 ?_
                cases hf
                exact j_iret X dM_trade_84 rfl rfl
def gM_placeOf (M : bz_Mm) (a1 : Int) : Option Int :=
  if w32 (fM_in (w32 a1) 0 (w32 ((M 81 20) - 1))) = 0 then
  (if w32 (fM_isFund M (a1 - 20)) = 0 then
  (some ((-1)))
  else
  (some ((16 + a1) - 20)))
  else
  (some a1)
def fM_placeOf (M : bz_Mm) (a1 : Int) : Int :=
  if w32 (fM_in (w32 a1) 0 (w32 ((M 81 20) - 1))) = 0 then
  (if w32 (fM_isFund M (a1 - 20)) = 0 then
  (((-1)))
  else
  (((16 + a1) - 20)))
  else
  (a1)
theorem tM_placeOf (M : bz_Mm) (a1 : Int) : gM_placeOf M a1 = some (fM_placeOf M a1) := by
  unfold gM_placeOf fM_placeOf
  (repeat' (first | rfl | split))
set_option maxHeartbeats 4000000 in
set_option maxRecDepth 20000 in
theorem cM_placeOf (E : bz_E) {M : bz_Mm} {a1 : Int} : bz_Ct E yM_placeOf (.code yM_placeOf prog_14_method_21_code 2 (some .int)) 2 46 [bz_rf E 81, bz_i a1] M (some (bz_i (fM_placeOf M a1))) M := by
  have hf := tM_placeOf M a1
  refine bz_met (by decide +kernel) (Nat.le_of_ble_eq_true rfl) (fun K X => ?_)
  have X : bz_X K E prog_14_method_21_code 2 "UnitsWrongModel" (some .int) 2 46 _ _ := X
  unfold gM_placeOf at hf
  generalize fM_placeOf M a1 = rr at hf X
  show bz_J K 2 0 [(0, bz_rf E 81), (1, bz_i a1)] [] M
  refine j_iload_n X dM_placeOf_0 rfl 1 rfl ?_
  refine j_i2l X rfl dM_placeOf_1 ?_
  refine j_lconst X (v := 0) dM_placeOf_2 rfl ?_
  refine j_aload_n X dM_placeOf_3 rfl 0 rfl ?_
  refine j_geti X gf_M_284_81 dM_placeOf_4 ?_
  refine j_iconst X dM_placeOf_7 ?_
  refine j_isub X dM_placeOf_8 ?_
  show bz_J _ _ 9 _ _ _
  refine j_i2l X rfl dM_placeOf_9 ?_
  refine j_cs X (st := []) (cM_in E) gyM_in wd_1409 rfl (by decide) (by decide) wd_1408 rfl (Nat.le_of_ble_eq_true rfl) dM_placeOf_10 ?_
  refine j_if_eq X (tgt := 18) rfl dM_placeOf_13 (by decide) hf (fun hf => ?_) (fun hf => ?_)
  · refine j_aload_n X dM_placeOf_18 rfl 0 rfl ?_
    refine j_iload_n X dM_placeOf_19 rfl 1 rfl ?_
    refine j_bipush X dM_placeOf_20 rfl ?_
    refine j_isub X dM_placeOf_22 ?_
    refine j_cv X (st := []) (cM_isFund E) gyM_isFund gv_M_isFund_81 rfl (by decide) (by decide) wd_1479 rfl (Nat.le_of_ble_eq_true rfl) dM_placeOf_23 ?_
    refine j_if_eq X (tgt := 39) rfl dM_placeOf_26 (by decide) hf (fun hf => ?_) (fun hf => ?_)
    · refine j_iconst X dM_placeOf_39 ?_
      cases hf
      exact j_iret X dM_placeOf_40 rfl rfl
    · refine j_bipush X dM_placeOf_29 rfl ?_
      refine j_iload_n X dM_placeOf_31 rfl 1 rfl ?_
      refine j_iadd X dM_placeOf_32 ?_
      refine j_bipush X dM_placeOf_33 rfl ?_
      refine j_isub X dM_placeOf_35 ?_
      refine j_goto X (tgt := 40) dM_placeOf_36 (by decide) ?_
      cases hf
      exact j_iret X dM_placeOf_40 rfl rfl
  · refine j_iload_n X dM_placeOf_16 rfl 1 rfl ?_
    cases hf
    exact j_iret X dM_placeOf_17 rfl rfl
