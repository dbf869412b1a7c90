def M_feeds0_L2 (F : Nat) : Nat → Int → Int → bz_Mm → Option (bz_Mm)
  | 0, _, _, _ => none
  | n + 1, l1, l2, M =>
    if w32 l2 < 0 then
    (some M)
    else
    (wa_ M 110 (M 81 37) 600 (i2b_ (us_ l1 (8 * l2))) fun m1 =>
    wf_ m1 81 37 ((m1 81 37) + 1) fun m2 =>
    M_feeds0_L2 F n l1 (l2 + (-1)) m2)
theorem lM_feeds0_L2 (E : bz_E) (F : Nat) {K : bz_K} {rv : Option Value} {M1 : bz_Mm} (X : bz_X K E prog_14_method_24_code 3 "UnitsWrongModel" none 0 0 rv M1) {l1 : Int} {res : (bz_Mm)}
    (kx : ∀ (M : bz_Mm), some M = some res → bz_J K 3 38 [] [] M) :
    ∀ (n : Nat) (l2 : Int) (M : bz_Mm), M_feeds0_L2 F n l1 l2 M = some res → bz_J K 3 2 [(2, bz_i l2), (0, bz_rf E 81), (1, bz_i l1)] [] M := by
  intro n
  induction n with
  | zero => intro l2 M hf; cases hf
  | succ n ih =>
    intro l2 M hf
    rw [M_feeds0_L2] at hf
    refine j_iload_n X dM_feeds0_2 rfl 0 rfl ?_
    refine j_if_lt X (tgt := 38) rfl dM_feeds0_3 (by decide) hf (fun hf => ?_) (fun hf => ?_)
    · exact j_sub [] rfl (kx _ hf)
    · refine j_aload_n X dM_feeds0_6 rfl 1 rfl ?_
      refine j_geta X gf_M_96_81 dM_feeds0_7 ?_
      refine j_aload_n X dM_feeds0_10 rfl 1 rfl ?_
      refine j_geti X gf_M_309_81 dM_feeds0_11 ?_
      refine j_iload_n X dM_feeds0_14 rfl 2 rfl ?_
      refine j_bipush X dM_feeds0_15 rfl ?_
      refine j_iload_n X dM_feeds0_17 rfl 0 rfl ?_
      show bz_J _ _ 18 _ _ _
      refine j_imul X dM_feeds0_18 ?_
      refine j_iushr X dM_feeds0_19 ?_
      refine j_i2b X dM_feeds0_20 ?_
      refine j_bast X sh_110 (bz_nb _) dM_feeds0_21 hf (fun m1 hf => ?_)
      refine j_aload_n X dM_feeds0_22 rfl 1 rfl ?_
      refine j_dup X dM_feeds0_23 rfl ?_
      refine j_geti X gf_M_309_81 dM_feeds0_24 ?_
      refine j_iconst X dM_feeds0_27 ?_
      show bz_J _ _ 28 _ _ _
      refine j_iadd X dM_feeds0_28 ?_
      refine j_puti X pf_M_309_81 dM_feeds0_29 hf (fun m2 hf => ?_)
      refine j_iinc X (y := l2 + (-1)) (lv' := [(2, bz_i (l2 + (-1))), (0, bz_rf E 81), (1, bz_i l1)]) dM_feeds0_32 0 rfl rfl (by decide) rfl ?_
      refine j_goto X (tgt := 2) dM_feeds0_35 (by decide) ?_
      exact ih _ _ hf
def fM_feeds0 (F : Nat) (M : bz_Mm) (a1 : Int) : Option (bz_Mm) :=
  cl1_ (M_feeds0_L2 F F a1 3 M) fun m3 =>
  some m3
set_option maxHeartbeats 4000000 in
set_option maxRecDepth 20000 in
theorem cM_feeds0 (E : bz_E) (F : Nat)  {M : bz_Mm} {a1 : Int} {x0 : bz_Mm} (hf : fM_feeds0 F M a1 = some x0) : bz_Ct E yM_feeds0 (.code yM_feeds0 prog_14_method_24_code 3 none) 0 0 [bz_rf E 81, bz_i a1] M (none) x0 := by
  refine bz_met (by decide +kernel) (Nat.le_of_ble_eq_true rfl) (fun K X => ?_)
  have X : bz_X K E prog_14_method_24_code 3 "UnitsWrongModel" none 0 0 _ _ := X
  unfold fM_feeds0 at hf
  show bz_J K 3 0 [(0, bz_rf E 81), (1, bz_i a1)] [] M
  refine j_iconst X dM_feeds0_0 ?_
  refine j_istore_n X (lv' := [(2, bz_i 3), (0, bz_rf E 81), (1, bz_i a1)]) dM_feeds0_1 rfl (by decide) rfl ?_
  obtain ⟨res4, hz4, hk4⟩ := q_l1 hf
  clear hf
  refine lM_feeds0_L2 E F X (fun m3 he => ?_) F 3 M hz4
  have hf := hk4 _ he
  cases hf
  exact j_vret X dM_feeds0_38 rfl rfl
def fM_feed (F : Nat) (M : bz_Mm) (a1 : Int) (a2 : Int) (a3 : Int) (a4 : Int) (a5 : Int) : Option (Int × bz_Mm) :=
  if 600 < w32 ((M 81 37) + 20) then
  (some (((-1), M)))
  else
  (cl_ (fM_feeds0 F M a1) fun m1 =>
  cl_ (fM_feeds0 F m1 a2) fun m2 =>
  cl_ (fM_feeds0 F m2 a3) fun m3 =>
  cl_ (fM_feeds0 F m3 a4) fun m4 =>
  cl_ (fM_feeds0 F m4 a5) fun m5 =>
  some ((m5 81 37, m5)))
set_option maxHeartbeats 4000000 in
set_option maxRecDepth 20000 in
theorem cM_feed (E : bz_E) (F : Nat)  {M : bz_Mm} {a1 : Int} {a2 : Int} {a3 : Int} {a4 : Int} {a5 : Int} {x0 : Int × bz_Mm} (hf : fM_feed F M a1 a2 a3 a4 a5 = some x0) : bz_Ct E yM_feed (.code yM_feed prog_14_method_25_code 6 (some .int)) 1 22 [bz_rf E 81, bz_i a1, bz_i a2, bz_i a3, bz_i a4, bz_i a5] M (some (bz_i x0.1)) x0.2 := by
  refine bz_met (by decide +kernel) (Nat.le_of_ble_eq_true rfl) (fun K X => ?_)
  have X : bz_X K E prog_14_method_25_code 6 "UnitsWrongModel" (some .int) 1 22 _ _ := X
  unfold fM_feed at hf
  show bz_J K 6 0 [(0, bz_rf E 81), (1, bz_i a1), (2, bz_i a2), (3, bz_i a3), (4, bz_i a4), (5, bz_i a5)] [] M
  refine j_aload_n X dM_feed_0 rfl 0 rfl ?_
  refine j_geti X gf_M_309_81 dM_feed_1 ?_
  refine j_bipush X dM_feed_4 rfl ?_
  refine j_iadd X dM_feed_6 ?_
  refine j_sipush X dM_feed_7 rfl ?_
  refine j_icmp_le X (tgt := 15) rfl (w32_lit rfl) dM_feed_10 (by decide) hf (fun hf => ?_) (fun hf => ?_)
  · refine j_aload_n X dM_feed_15 rfl 0 rfl ?_
    refine j_iload_n X dM_feed_16 rfl 1 rfl ?_
    obtain ⟨m1, hz, hf⟩ := q_cl hf
    refine j_cv X (st := []) (cM_feeds0 E F hz) gyM_feeds0 gv_M_feeds0_81 rfl (by decide) (by decide) wd_1507 rfl (Nat.le_of_ble_eq_true rfl) dM_feed_17 ?_
    clear hz
    refine j_aload_n X dM_feed_20 rfl 0 rfl ?_
    refine j_iload_n X dM_feed_21 rfl 2 rfl ?_
    obtain ⟨m2, hz, hf⟩ := q_cl hf
    refine j_cv X (st := []) (cM_feeds0 E F hz) gyM_feeds0 gv_M_feeds0_81 rfl (by decide) (by decide) wd_1507 rfl (Nat.le_of_ble_eq_true rfl) dM_feed_22 ?_
    clear hz
    refine j_aload_n X dM_feed_25 rfl 0 rfl ?_
    show bz_J _ _ 26 _ _ _
    refine j_iload_n X dM_feed_26 rfl 3 rfl ?_
    obtain ⟨m3, hz, hf⟩ := q_cl hf
    refine j_cv X (st := []) (cM_feeds0 E F hz) gyM_feeds0 gv_M_feeds0_81 rfl (by decide) (by decide) wd_1507 rfl (Nat.le_of_ble_eq_true rfl) dM_feed_27 ?_
    clear hz
    refine j_aload_n X dM_feed_30 rfl 0 rfl ?_
    refine j_iload X dM_feed_31 4 rfl ?_
    obtain ⟨m4, hz, hf⟩ := q_cl hf
    refine j_cv X (st := []) (cM_feeds0 E F hz) gyM_feeds0 gv_M_feeds0_81 rfl (by decide) (by decide) wd_1507 rfl (Nat.le_of_ble_eq_true rfl) dM_feed_33 ?_
    clear hz
    refine j_aload_n X dM_feed_36 rfl 0 rfl ?_
    refine j_iload X dM_feed_37 5 rfl ?_
    obtain ⟨m5, hz, hf⟩ := q_cl hf
    refine j_cv X (st := []) (cM_feeds0 E F hz) gyM_feeds0 gv_M_feeds0_81 rfl (by decide) (by decide) wd_1507 rfl (Nat.le_of_ble_eq_true rfl) dM_feed_39 ?_
    clear hz
    show bz_J _ _ 42 _ _ _
    refine j_aload_n X dM_feed_42 rfl 0 rfl ?_
    refine j_geti X gf_M_309_81 dM_feed_43 ?_
    cases hf
    exact j_iret X dM_feed_46 rfl rfl
  · refine j_iconst X dM_feed_13 ?_
    cases hf
    exact j_iret X dM_feed_14 rfl rfl
def fM_end (F : Nat) (M : bz_Mm) (a1 : Int) : Option (Int × bz_Mm) :=
  if w32 (fM_in (w32 a1) 0 (w32 (M 81 37))) = 0 then
  (some ((0, M)))
  else
  (wf_ M 81 37 a1 fun m1 =>
  some ((1, m1)))
set_option maxHeartbeats 4000000 in
set_option maxRecDepth 20000 in
theorem cM_end (E : bz_E) (F : Nat)  {M : bz_Mm} {a1 : Int} {x0 : Int × bz_Mm} (hf : fM_end F M a1 = some x0) : bz_Ct E yM_end (.code yM_end prog_14_method_26_code 2 (some .boolean)) 1 25 [bz_rf E 81, bz_i a1] M (some (bz_i x0.1)) x0.2 := by
  refine bz_met (by decide +kernel) (Nat.le_of_ble_eq_true rfl) (fun K X => ?_)
  have X : bz_X K E prog_14_method_26_code 2 "UnitsWrongModel" (some .boolean) 1 25 _ _ := X
  unfold fM_end at hf
  show bz_J K 2 0 [(0, bz_rf E 81), (1, bz_i a1)] [] M
  refine j_iload_n X dM_end_0 rfl 1 rfl ?_
  refine j_i2l X rfl dM_end_1 ?_
  refine j_lconst X (v := 0) dM_end_2 rfl ?_
  refine j_aload_n X dM_end_3 rfl 0 rfl ?_
  refine j_geti X gf_M_309_81 dM_end_4 ?_
  refine j_i2l X rfl dM_end_7 ?_
  refine j_cs X (st := []) (cM_in E) gyM_in wd_1414 rfl (by decide) (by decide) wd_1413 rfl (Nat.le_of_ble_eq_true rfl) dM_end_8 ?_
  show bz_J _ _ 11 _ _ _
  refine j_if_ne X (tgt := 16) rfl dM_end_11 (by decide) hf (fun hf => ?_) (fun hf => ?_)
  · refine j_aload_n X dM_end_16 rfl 0 rfl ?_
    refine j_iload_n X dM_end_17 rfl 1 rfl ?_
    refine j_puti X pf_M_309_81 dM_end_18 hf (fun m1 hf => ?_)
    refine j_iconst X dM_end_21 ?_
    cases hf
    exact j_zret X (by decide +kernel) dM_end_22 rfl rfl
  · refine j_iconst X dM_end_14 ?_
    cases hf
    exact j_zret X (by decide +kernel) dM_end_15 rfl rfl
def M_skips_L0 (F : Nat) : Nat → bz_Mm → Option (bz_Mm)
  | 0, _ => none
  | n + 1, M =>
    if w32 (M 81 38) < w32 (M 81 39) then
    (rd_ M 110 (M 81 38) 600 fun x1 =>
    if w32 x1 = 32 then
    (wf_ M 81 38 ((M 81 38) + 1) fun m2 =>
    M_skips_L0 F n m2)
    else
    (some M))
    else
    (some M)
theorem lM_skips_L0 (E : bz_E) (F : Nat) {K : bz_K} {rv : Option Value} {M1 : bz_Mm} (X : bz_X K E prog_14_method_28_code 1 "UnitsWrongModel" none 0 0 rv M1) {res : (bz_Mm)}
    (kx : ∀ (M : bz_Mm), some M = some res → bz_J K 1 38 [] [] M) :
    ∀ (n : Nat) (M : bz_Mm), M_skips_L0 F n M = some res → bz_J K 1 0 [(0, bz_rf E 81)] [] M := by
  intro n
  induction n with
  | zero => intro M hf; cases hf
  | succ n ih =>
    intro M hf
    rw [M_skips_L0] at hf
    refine j_aload_n X dM_skips_0 rfl 0 rfl ?_
    refine j_geti X gf_M_319_81 dM_skips_1 ?_
    refine j_aload_n X dM_skips_4 rfl 0 rfl ?_
    refine j_geti X gf_M_322_81 dM_skips_5 ?_
    refine j_icmp_ge X (tgt := 38) rfl rfl dM_skips_8 (by decide) hf (fun hf => ?_) (fun hf => ?_)
    · exact j_sub [] rfl (kx _ hf)
    · refine j_aload_n X dM_skips_11 rfl 0 rfl ?_
      refine j_geta X gf_M_96_81 dM_skips_12 ?_
      refine j_aload_n X dM_skips_15 rfl 0 rfl ?_
      refine j_geti X gf_M_319_81 dM_skips_16 ?_
      refine j_bald X sh_110 dM_skips_19 hf (fun x1 hf => ?_)
      refine j_bipush X dM_skips_20 rfl ?_
      refine j_icmp_ne X (tgt := 38) rfl (w32_lit rfl) dM_skips_22 (by decide) hf (fun hf => ?_) (fun hf => ?_)
      · exact j_sub [] rfl (kx _ hf)
      · refine j_aload_n X dM_skips_25 rfl 0 rfl ?_
        refine j_dup X dM_skips_26 rfl ?_
        refine j_geti X gf_M_319_81 dM_skips_27 ?_
        refine j_iconst X dM_skips_30 ?_
        refine j_iadd X dM_skips_31 ?_
        refine j_puti X pf_M_319_81 dM_skips_32 hf (fun m2 hf => ?_)
        refine j_goto X (tgt := 0) dM_skips_35 (by decide) ?_
        exact ih _ hf
def fM_skips (F : Nat) (M : bz_Mm) : Option (bz_Mm) :=
  cl1_ (M_skips_L0 F F M) fun m3 =>
  some m3
set_option maxHeartbeats 4000000 in
set_option maxRecDepth 20000 in
theorem cM_skips (E : bz_E) (F : Nat)  {M : bz_Mm} {x0 : bz_Mm} (hf : fM_skips F M = some x0) : bz_Ct E yM_skips (.code yM_skips prog_14_method_28_code 1 none) 0 0 [bz_rf E 81] M (none) x0 := by
  refine bz_met (by decide +kernel) (Nat.le_of_ble_eq_true rfl) (fun K X => ?_)
  have X : bz_X K E prog_14_method_28_code 1 "UnitsWrongModel" none 0 0 _ _ := X
  unfold fM_skips at hf
  show bz_J K 1 0 [(0, bz_rf E 81)] [] M
  obtain ⟨res4, hz4, hk4⟩ := q_l1 hf
  clear hf
  refine lM_skips_L0 E F X (fun m3 he => ?_) F M hz4
  have hf := hk4 _ he
  cases hf
  exact j_vret X dM_skips_38 rfl rfl
def gM_isLetter (a0 : Int) : Option Int :=
  if w32 a0 < 97 then
  (some 0)
  else
  (if 122 < w32 a0 then
  (some 0)
  else
  (some 1))
def fM_isLetter (a0 : Int) : Int :=
  if w32 a0 < 97 then
  (0)
  else
  (if 122 < w32 a0 then
  (0)
  else
  (1))
theorem tM_isLetter (a0 : Int) : gM_isLetter a0 = some (fM_isLetter a0) := by
  unfold gM_isLetter fM_isLetter
  (repeat' (first | rfl | split))
theorem zM_isLetter {a0 : Int} : fM_isLetter a0 = 0 ∨ fM_isLetter a0 = 1 := by
  unfold fM_isLetter
  (repeat' (first | exact Or.inl rfl | exact Or.inr rfl | split))
set_option maxHeartbeats 4000000 in
set_option maxRecDepth 20000 in
theorem cM_isLetter (E : bz_E) {M : bz_Mm} {a0 : Int} : bz_Ct E yM_isLetter (.code yM_isLetter prog_14_method_29_code 1 (some .boolean)) 0 0 [bz_i a0] M (some (bz_i (fM_isLetter a0))) M := by
  have hf := tM_isLetter a0
  refine bz_met (by decide +kernel) (Nat.le_of_ble_eq_true rfl) (fun K X => ?_)
  have X : bz_X K E prog_14_method_29_code 1 "UnitsWrongModel" (some .boolean) 0 0 _ _ := X
  unfold gM_isLetter at hf
  generalize fM_isLetter a0 = rr at hf X
  show bz_J K 1 0 [(0, bz_i a0)] [] M
  refine j_iload_n X dM_isLetter_0 rfl 0 rfl ?_
  refine j_bipush X dM_isLetter_1 rfl ?_
  refine j_icmp_lt X (tgt := 16) rfl (w32_lit rfl) dM_isLetter_3 (by decide) hf (fun hf => ?_) (fun hf => ?_)
  · refine j_iconst X dM_isLetter_16 ?_
    cases hf
    exact j_zret X (by decide +kernel) dM_isLetter_17 rfl rfl
  · refine j_iload_n X dM_isLetter_6 rfl 0 rfl ?_
    refine j_bipush X dM_isLetter_7 rfl ?_
    refine j_icmp_gt X (tgt := 16) rfl (w32_lit rfl) dM_isLetter_9 (by decide) hf (fun hf => ?_) (fun hf => ?_)
    · refine j_iconst X dM_isLetter_16 ?_
      cases hf
      exact j_zret X (by decide +kernel) dM_isLetter_17 rfl rfl
    · refine j_iconst X dM_isLetter_12 ?_
      refine j_goto X (tgt := 17) dM_isLetter_13 (by decide) ?_
      cases hf
      exact j_zret X (by decide +kernel) dM_isLetter_17 rfl rfl
def M_wordEnd_L5 (F : Nat) : Nat → bz_Mm → Int → Option (Int)
  | 0, _, _ => none
  | n + 1, M, l1 =>
    if w32 l1 < w32 (M 81 39) then
    (rd_ M 110 l1 600 fun x1 =>
    if w32 (fM_isLetter x1) = 0 then
    (some l1)
    else
    (M_wordEnd_L5 F n M (l1 + 1)))
    else
    (some l1)
theorem lM_wordEnd_L5 (E : bz_E) (F : Nat) {K : bz_K} {rv : Option Value} {M1 : bz_Mm} (X : bz_X K E prog_14_method_31_code 2 "UnitsWrongModel" (some .int) 1 20 rv M1) {M : bz_Mm} {res : (Int)}
    (kx : ∀ (l1 : Int), some l1 = some res → bz_J K 2 31 [(1, bz_i l1)] [] M) :
    ∀ (n : Nat) (l1 : Int), M_wordEnd_L5 F n M l1 = some res → bz_J K 2 5 [(1, bz_i l1), (0, bz_rf E 81)] [] M := by
  intro n
  induction n with
  | zero => intro l1 hf; cases hf
  | succ n ih =>
    intro l1 hf
    rw [M_wordEnd_L5] at hf
    refine j_iload_n X dM_wordEnd_5 rfl 0 rfl ?_
    refine j_aload_n X dM_wordEnd_6 rfl 1 rfl ?_
    refine j_geti X gf_M_322_81 dM_wordEnd_7 ?_
    refine j_icmp_ge X (tgt := 31) rfl rfl dM_wordEnd_10 (by decide) hf (fun hf => ?_) (fun hf => ?_)
    · exact j_sub [0] rfl (kx _ hf)
    · refine j_aload_n X dM_wordEnd_13 rfl 1 rfl ?_
      refine j_geta X gf_M_96_81 dM_wordEnd_14 ?_
      refine j_iload_n X dM_wordEnd_17 rfl 0 rfl ?_
      refine j_bald X sh_110 dM_wordEnd_18 hf (fun x1 hf => ?_)
      refine j_cs X (st := []) (cM_isLetter E) gyM_isLetter wd_1544 rfl (by decide) (by decide) wd_1543 rfl (Nat.le_of_ble_eq_true rfl) dM_wordEnd_19 ?_
      refine j_if_eq X (tgt := 31) rfl dM_wordEnd_22 (by decide) hf (fun hf => ?_) (fun hf => ?_)
      · exact j_sub [0] rfl (kx _ hf)
      · refine j_iinc X (y := l1 + 1) (lv' := [(1, bz_i (l1 + 1)), (0, bz_rf E 81)]) dM_wordEnd_25 0 rfl rfl (by decide) rfl ?_
        refine j_goto X (tgt := 5) dM_wordEnd_28 (by decide) ?_
        exact ih _ hf
def fM_wordEnd (F : Nat) (M : bz_Mm) : Option (Int) :=
  lt_ (M 81 38) fun l1 =>
  cl1_ (M_wordEnd_L5 F F M l1) fun l1 =>
  some l1
set_option maxHeartbeats 4000000 in
set_option maxRecDepth 20000 in
theorem cM_wordEnd (E : bz_E) (F : Nat)  {M : bz_Mm} {x0 : Int} (hf : fM_wordEnd F M = some x0) : bz_Ct E yM_wordEnd (.code yM_wordEnd prog_14_method_31_code 2 (some .int)) 1 20 [bz_rf E 81] M (some (bz_i x0)) M := by
  refine bz_met (by decide +kernel) (Nat.le_of_ble_eq_true rfl) (fun K X => ?_)
  have X : bz_X K E prog_14_method_31_code 2 "UnitsWrongModel" (some .int) 1 20 _ _ := X
  unfold fM_wordEnd at hf
  show bz_J K 2 0 [(0, bz_rf E 81)] [] M
  refine j_aload_n X dM_wordEnd_0 rfl 0 rfl ?_
  refine j_geti X gf_M_319_81 dM_wordEnd_1 ?_
  refine j_lt (g := bz_i) hf (fun l1 hf => ?_)
  refine j_istore_n X (lv' := [(1, bz_i l1), (0, bz_rf E 81)]) dM_wordEnd_4 rfl (by decide) rfl ?_
  obtain ⟨res2, hz2, hk2⟩ := q_l1 hf
  clear hf
  refine lM_wordEnd_L5 E F X (fun l1 he => ?_) F l1 hz2
  have hf := hk2 _ he
  refine j_iload_n X dM_wordEnd_31 rfl 0 rfl ?_
  cases hf
  exact j_iret X dM_wordEnd_32 rfl rfl
def fM_rule1 (F : Nat) (M : bz_Mm) (a1 : Int) (a2 : Int) (a3 : Int) : Option (Int) :=
  if w32 (fM_isFund M a1) = 0 then
  (some ((-2147483648)))
  else
  (if w32 (fM_in (w32 a2) 0 259) = 0 then
  (some ((-2147483648)))
  else
  (if w32 (fM_in (w32 a3) 0 11) = 0 then
  (some ((-2147483648)))
  else
  (cl_ (fM_ruleOf F M a1 a2 a3) fun x1 =>
  some x1)))
set_option maxHeartbeats 4000000 in
set_option maxRecDepth 20000 in
theorem cM_rule1 (E : bz_E) (F : Nat)  {M : bz_Mm} {a1 : Int} {a2 : Int} {a3 : Int} {x0 : Int} (hf : fM_rule1 F M a1 a2 a3 = some x0) : bz_Ct E yM_rule1 (.code yM_rule1 prog_14_method_45_code 4 (some .int)) 2 46 [bz_rf E 81, bz_i a1, bz_i a2, bz_i a3] M (some (bz_i x0)) M := by
  refine bz_met (by decide +kernel) (Nat.le_of_ble_eq_true rfl) (fun K X => ?_)
  have X : bz_X K E prog_14_method_45_code 4 "UnitsWrongModel" (some .int) 2 46 _ _ := X
  unfold fM_rule1 at hf
  show bz_J K 4 0 [(0, bz_rf E 81), (1, bz_i a1), (2, bz_i a2), (3, bz_i a3)] [] M
  refine j_aload_n X dM_rule1_0 rfl 0 rfl ?_
  refine j_iload_n X dM_rule1_1 rfl 1 rfl ?_
  refine j_cv X (st := []) (cM_isFund E) gyM_isFund gv_M_isFund_81 rfl (by decide) (by decide) wd_1484 rfl (Nat.le_of_ble_eq_true rfl) dM_rule1_2 ?_
  refine j_if_eq X (tgt := 42) rfl dM_rule1_5 (by decide) hf (fun hf => ?_) (fun hf => ?_)
  · refine j_ldcw X (v := -2147483648) wd_1453 dM_rule1_42 ?_
    cases hf
    exact j_iret X dM_rule1_45 rfl rfl
  · refine j_iload_n X dM_rule1_8 rfl 2 rfl ?_
    refine j_i2l X rfl dM_rule1_9 ?_
    refine j_lconst X (v := 0) dM_rule1_10 rfl ?_
    refine j_ldc2 X (v := 259) wd_1412 dM_rule1_11 ?_
    refine j_cs X (st := []) (cM_in E) gyM_in wd_1414 rfl (by decide) (by decide) wd_1413 rfl (Nat.le_of_ble_eq_true rfl) dM_rule1_14 ?_
    refine j_if_eq X (tgt := 42) rfl dM_rule1_17 (by decide) hf (fun hf => ?_) (fun hf => ?_)
    · refine j_ldcw X (v := -2147483648) wd_1453 dM_rule1_42 ?_
      cases hf
      exact j_iret X dM_rule1_45 rfl rfl
    · refine j_iload_n X dM_rule1_20 rfl 3 rfl ?_
      refine j_i2l X rfl dM_rule1_21 ?_
      refine j_lconst X (v := 0) dM_rule1_22 rfl ?_
      refine j_ldc2 X (v := 11) wd_1609 dM_rule1_23 ?_
      refine j_cs X (st := []) (cM_in E) gyM_in wd_1414 rfl (by decide) (by decide) wd_1413 rfl (Nat.le_of_ble_eq_true rfl) dM_rule1_26 ?_
      refine j_if_eq X (tgt := 42) rfl dM_rule1_29 (by decide) hf (fun hf => ?_) (fun hf => ?_)
      · refine j_ldcw X (v := -2147483648) wd_1453 dM_rule1_42 ?_
        cases hf
        exact j_iret X dM_rule1_45 rfl rfl
      · refine j_aload_n X dM_rule1_32 rfl 0 rfl ?_
        refine j_iload_n X dM_rule1_33 rfl 1 rfl ?_
        refine j_iload_n X dM_rule1_34 rfl 2 rfl ?_
        refine j_iload_n X dM_rule1_35 rfl 3 rfl ?_
        obtain ⟨x1, hzx1, hf⟩ := q_cl hf
        refine j_cv X (st := []) (cM_ruleOf E F hzx1) gyM_ruleOf gv_M_ruleOf_81 rfl (by decide) (by decide) wd_1499 rfl (Nat.le_of_ble_eq_true rfl) dM_rule1_36 ?_
        refine j_goto X (tgt := 45) dM_rule1_39 (by decide) ?_
        cases hf
        exact j_iret X dM_rule1_45 rfl rfl
def M_carries_L6 (F : Nat) : Nat → Nat → Int → Int → Int → bz_Mm → Option (bz_Mm)
  | 0, _, _, _, _, _ => none
  | n + 1, r3, l1, l2, l5, M =>
    if w32 l5 < 260 then
    (cl1_ (if w32 l5 = 0 then
    (some (fM_plain l1))
    else
    (rd_ M r3 (l5 - 1) 260 fun x3 =>
    some (x3))) fun v2 =>
    wa_ M r3 l5 260 v2 fun m4 =>
    if 1 < w32 l1 then
    (wa_ m4 r3 l5 260 (fM_plain l1) fun m5 =>
    M_carries_L6 F n r3 l1 l2 (l5 + 1) m5)
    else
    (M_carries_L6 F n r3 l1 l2 (l5 + 1) m4))
    else
    (some M)
def M_carries_L58 (F : Nat) : Nat → Nat → Int → Int → Int → bz_Mm → Option (bz_Mm)
  | 0, _, _, _, _, _ => none
  | n + 1, r3, l1, l2, l5, M =>
    if w32 l5 < 260 then
    (wa_ M 221 l5 260 0 fun m7 =>
    M_carries_L58 F n r3 l1 l2 (l5 + 1) m7)
    else
    (some M)
def M_carries_L83 (F : Nat) : Nat → Nat → Int → Int → Int → bz_Mm → Option (bz_Mm)
  | 0, _, _, _, _, _ => none
  | n + 1, r3, l1, l2, l5, M =>
    if w32 l5 < w32 (M 81 12) then
    (rd_ M 83 l5 407 fun x9 =>
    if w32 x9 = w32 l1 then
    (rd_ M 84 l5 407 fun x10 =>
    if w32 x10 = w32 l2 then
    (rd_ M 87 l5 407 fun x11 =>
    if w32 (M 81 61) < w32 x11 then
    (M_carries_L83 F n r3 l1 l2 (l5 + 1) M)
    else
    (rd_ M 85 l5 407 fun x12 =>
    rd_ M 86 l5 407 fun x13 =>
    wa_ M r3 x12 260 x13 fun m14 =>
    rd_ m14 85 l5 407 fun x15 =>
    wa_ m14 221 x15 260 1 fun m16 =>
    M_carries_L83 F n r3 l1 l2 (l5 + 1) m16))
    else
    (M_carries_L83 F n r3 l1 l2 (l5 + 1) M))
    else
    (M_carries_L83 F n r3 l1 l2 (l5 + 1) M))
    else
    (some M)
def M_carries_L169 (F : Nat) : Nat → Nat → Int → Int → bz_Mm → Option (bz_Mm)
  | 0, _, _, _, _ => none
  | n + 1, r3, l1, l5, M =>
    if w32 l5 < 260 then
    (if w32 l1 < 2 then
    (rd_ M 221 l5 260 fun x18 =>
    if w32 x18 = 0 then
    (rd_ M r3 (l5 - 1) 260 fun x19 =>
    wa_ M r3 l5 260 x19 fun m20 =>
    M_carries_L169 F n r3 l1 (l5 + 1) m20)
    else
    (M_carries_L169 F n r3 l1 (l5 + 1) M))
    else
    (some M))
    else
    (some M)
theorem lM_carries_L6 (E : bz_E) (F : Nat) {K : bz_K} {rv : Option Value} {M1 : bz_Mm} (X : bz_X K E prog_14_method_46_code 6 "UnitsWrongModel" none 1 20 rv M1) {r3 : Nat} {l1 : Int} {l2 : Int} (hr3 : bz_shl[r3]? = some (.inl (0, 260, 0))) {res : (bz_Mm)}
    (kx : ∀ (M : bz_Mm), some M = some res → bz_J K 6 55 [(0, bz_rf E 81), (1, bz_i l1), (2, bz_i l2), (3, bz_rf E r3)] [] M) :
    ∀ (n : Nat) (l5 : Int) (M : bz_Mm), M_carries_L6 F n r3 l1 l2 l5 M = some res → bz_J K 6 6 [(5, bz_i l5), (0, bz_rf E 81), (1, bz_i l1), (2, bz_i l2), (3, bz_rf E r3)] [] M := by
  intro n
  induction n with
  | zero => intro l5 M hf; cases hf
  | succ n ih =>
    intro l5 M hf
    rw [M_carries_L6] at hf
    refine j_iload X dM_carries_6 0 rfl ?_
    refine j_sipush X dM_carries_8 rfl ?_
    refine j_icmp_ge X (tgt := 55) rfl (w32_lit rfl) dM_carries_11 (by decide) hf (fun hf => ?_) (fun hf => ?_)
    · exact j_sub [1, 2, 3, 4] rfl (kx _ hf)
    · refine j_aload_n X dM_carries_14 rfl 4 rfl ?_
      refine j_iload X dM_carries_15 0 rfl ?_
      refine j_iload X dM_carries_17 0 rfl ?_
      obtain ⟨resJ1, hf0, hkJ1⟩ := q_l1 hf
      have J1 : ∀ (v2 : Int), some v2 = some resJ1 → bz_J K 6 35 [(5, bz_i l5), (0, bz_rf E 81), (1, bz_i l1), (2, bz_i l2), (3, bz_rf E r3)] [bz_i v2, bz_i l5, bz_rf E r3] M := by
        intro v2 he
        have hf := hkJ1 _ he
        refine j_iast X hr3 dM_carries_35 hf (fun m4 hf => ?_)
        refine j_iload_n X dM_carries_36 rfl 2 rfl ?_
        refine j_iconst X dM_carries_37 ?_
        refine j_icmp_le X (tgt := 49) rfl (w32_lit rfl) dM_carries_38 (by decide) hf (fun hf => ?_) (fun hf => ?_)
        · refine j_iinc X (y := l5 + 1) (lv' := [(5, bz_i (l5 + 1)), (0, bz_rf E 81), (1, bz_i l1), (2, bz_i l2), (3, bz_rf E r3)]) dM_carries_49 0 rfl rfl (by decide) rfl ?_
          refine j_goto X (tgt := 6) dM_carries_52 (by decide) ?_
          exact ih _ _ hf
        · refine j_aload_n X dM_carries_41 rfl 4 rfl ?_
          refine j_iload X dM_carries_42 0 rfl ?_
          refine j_iload_n X dM_carries_44 rfl 2 rfl ?_
          refine j_cs X (st := [bz_i l5, bz_rf E r3]) (cM_plain E) gyM_plain wd_1459 rfl (by decide) (by decide) wd_1458 rfl (Nat.le_of_ble_eq_true rfl) dM_carries_45 ?_
          refine j_iast X hr3 dM_carries_48 hf (fun m5 hf => ?_)
          refine j_iinc X (y := l5 + 1) (lv' := [(5, bz_i (l5 + 1)), (0, bz_rf E 81), (1, bz_i l1), (2, bz_i l2), (3, bz_rf E r3)]) dM_carries_49 0 rfl rfl (by decide) rfl ?_
          refine j_goto X (tgt := 6) dM_carries_52 (by decide) ?_
          exact ih _ _ hf
      clear hf
      have hf := hf0
      clear hf0
      refine j_if_ne X (tgt := 29) rfl dM_carries_19 (by decide) hf (fun hf => ?_) (fun hf => ?_)
      · refine j_aload_n X dM_carries_29 rfl 4 rfl ?_
        refine j_iload X dM_carries_30 0 rfl ?_
        refine j_iconst X dM_carries_32 ?_
        refine j_isub X dM_carries_33 ?_
        refine j_iald X hr3 dM_carries_34 hf (fun x3 hf => ?_)
        exact J1 _ hf
      · refine j_iload_n X dM_carries_22 rfl 2 rfl ?_
        refine j_cs X (st := [bz_i l5, bz_rf E r3]) (cM_plain E) gyM_plain wd_1459 rfl (by decide) (by decide) wd_1458 rfl (Nat.le_of_ble_eq_true rfl) dM_carries_23 ?_
        refine j_goto X (tgt := 35) dM_carries_26 (by decide) ?_
        exact J1 _ hf
theorem lM_carries_L58 (E : bz_E) (F : Nat) {K : bz_K} {rv : Option Value} {M1 : bz_Mm} (X : bz_X K E prog_14_method_46_code 6 "UnitsWrongModel" none 1 20 rv M1) {r3 : Nat} {l1 : Int} {l2 : Int} (hr3 : bz_shl[r3]? = some (.inl (0, 260, 0))) {res : (bz_Mm)}
    (kx : ∀ (M : bz_Mm), some M = some res → bz_J K 6 80 [(0, bz_rf E 81), (1, bz_i l1), (2, bz_i l2), (3, bz_rf E r3)] [] M) :
    ∀ (n : Nat) (l5 : Int) (M : bz_Mm), M_carries_L58 F n r3 l1 l2 l5 M = some res → bz_J K 6 58 [(5, bz_i l5), (0, bz_rf E 81), (1, bz_i l1), (2, bz_i l2), (3, bz_rf E r3)] [] M := by
  intro n
  induction n with
  | zero => intro l5 M hf; cases hf
  | succ n ih =>
    intro l5 M hf
    rw [M_carries_L58] at hf
    refine j_iload X dM_carries_58 0 rfl ?_
    refine j_sipush X dM_carries_60 rfl ?_
    refine j_icmp_ge X (tgt := 80) rfl (w32_lit rfl) dM_carries_63 (by decide) hf (fun hf => ?_) (fun hf => ?_)
    · exact j_sub [1, 2, 3, 4] rfl (kx _ hf)
    · refine j_aload_n X dM_carries_66 rfl 1 rfl ?_
      refine j_geta X gf_M_166_81 dM_carries_67 ?_
      refine j_iload X dM_carries_70 0 rfl ?_
      refine j_iconst X dM_carries_72 ?_
      refine j_zast X sh_221 (by decide +kernel) dM_carries_73 hf (fun m7 hf => ?_)
      refine j_iinc X (y := l5 + 1) (lv' := [(5, bz_i (l5 + 1)), (0, bz_rf E 81), (1, bz_i l1), (2, bz_i l2), (3, bz_rf E r3)]) dM_carries_74 0 rfl rfl (by decide) rfl ?_
      refine j_goto X (tgt := 58) dM_carries_77 (by decide) ?_
      exact ih _ _ hf
theorem lM_carries_L83 (E : bz_E) (F : Nat) {K : bz_K} {rv : Option Value} {M1 : bz_Mm} (X : bz_X K E prog_14_method_46_code 6 "UnitsWrongModel" none 1 20 rv M1) {r3 : Nat} {l1 : Int} {l2 : Int} (hr3 : bz_shl[r3]? = some (.inl (0, 260, 0))) {res : (bz_Mm)}
    (kx : ∀ (M : bz_Mm), some M = some res → bz_J K 6 166 [(0, bz_rf E 81), (1, bz_i l1), (3, bz_rf E r3)] [] M) :
    ∀ (n : Nat) (l5 : Int) (M : bz_Mm), M_carries_L83 F n r3 l1 l2 l5 M = some res → bz_J K 6 83 [(5, bz_i l5), (0, bz_rf E 81), (1, bz_i l1), (2, bz_i l2), (3, bz_rf E r3)] [] M := by
  intro n
  induction n with
  | zero => intro l5 M hf; cases hf
  | succ n ih =>
    intro l5 M hf
    rw [M_carries_L83] at hf
    refine j_iload X dM_carries_83 0 rfl ?_
    refine j_aload_n X dM_carries_85 rfl 1 rfl ?_
    refine j_geti X gf_M_251_81 dM_carries_86 ?_
    refine j_icmp_ge X (tgt := 166) rfl rfl dM_carries_89 (by decide) hf (fun hf => ?_) (fun hf => ?_)
    · exact j_sub [1, 2, 4] rfl (kx _ hf)
    · refine j_aload_n X dM_carries_92 rfl 1 rfl ?_
      refine j_geta X gf_M_13_81 dM_carries_93 ?_
      refine j_iload X dM_carries_96 0 rfl ?_
      refine j_iald X sh_83 dM_carries_98 hf (fun x9 hf => ?_)
      refine j_iload_n X dM_carries_99 rfl 2 rfl ?_
      refine j_icmp_ne X (tgt := 160) rfl rfl dM_carries_100 (by decide) hf (fun hf => ?_) (fun hf => ?_)
      · refine j_iinc X (y := l5 + 1) (lv' := [(5, bz_i (l5 + 1)), (0, bz_rf E 81), (1, bz_i l1), (2, bz_i l2), (3, bz_rf E r3)]) dM_carries_160 0 rfl rfl (by decide) rfl ?_
        refine j_goto X (tgt := 83) dM_carries_163 (by decide) ?_
        exact ih _ _ hf
      · refine j_aload_n X dM_carries_103 rfl 1 rfl ?_
        refine j_geta X gf_M_17_81 dM_carries_104 ?_
        refine j_iload X dM_carries_107 0 rfl ?_
        refine j_iald X sh_84 dM_carries_109 hf (fun x10 hf => ?_)
        refine j_iload_n X dM_carries_110 rfl 3 rfl ?_
        refine j_icmp_ne X (tgt := 160) rfl rfl dM_carries_111 (by decide) hf (fun hf => ?_) (fun hf => ?_)
        · refine j_iinc X (y := l5 + 1) (lv' := [(5, bz_i (l5 + 1)), (0, bz_rf E 81), (1, bz_i l1), (2, bz_i l2), (3, bz_rf E r3)]) dM_carries_160 0 rfl rfl (by decide) rfl ?_
          refine j_goto X (tgt := 83) dM_carries_163 (by decide) ?_
          exact ih _ _ hf
        · refine j_aload_n X dM_carries_114 rfl 1 rfl ?_
          refine j_geta X gf_M_26_81 dM_carries_115 ?_
          refine j_iload X dM_carries_118 0 rfl ?_
          refine j_iald X sh_87 dM_carries_120 hf (fun x11 hf => ?_)
          refine j_aload_n X dM_carries_121 rfl 1 rfl ?_
          refine j_geti X gf_M_418_81 dM_carries_122 ?_
          refine j_icmp_le X (tgt := 131) rfl rfl dM_carries_125 (by decide) hf (fun hf => ?_) (fun hf => ?_)
          · refine j_aload_n X dM_carries_131 rfl 4 rfl ?_
            refine j_aload_n X dM_carries_132 rfl 1 rfl ?_
            refine j_geta X gf_M_20_81 dM_carries_133 ?_
            refine j_iload X dM_carries_136 0 rfl ?_
            refine j_iald X sh_85 dM_carries_138 hf (fun x12 hf => ?_)
            refine j_aload_n X dM_carries_139 rfl 1 rfl ?_
            refine j_geta X gf_M_23_81 dM_carries_140 ?_
            show bz_J _ _ 143 _ _ _
            refine j_iload X dM_carries_143 0 rfl ?_
            refine j_iald X sh_86 dM_carries_145 hf (fun x13 hf => ?_)
            refine j_iast X hr3 dM_carries_146 hf (fun m14 hf => ?_)
            refine j_aload_n X dM_carries_147 rfl 1 rfl ?_
            refine j_geta X gf_M_166_81 dM_carries_148 ?_
            refine j_aload_n X dM_carries_151 rfl 1 rfl ?_
            refine j_geta X gf_M_20_81 dM_carries_152 ?_
            refine j_iload X dM_carries_155 0 rfl ?_
            show bz_J _ _ 157 _ _ _
            refine j_iald X sh_85 dM_carries_157 hf (fun x15 hf => ?_)
            refine j_iconst X dM_carries_158 ?_
            refine j_zast X sh_221 (by decide +kernel) dM_carries_159 hf (fun m16 hf => ?_)
            refine j_iinc X (y := l5 + 1) (lv' := [(5, bz_i (l5 + 1)), (0, bz_rf E 81), (1, bz_i l1), (2, bz_i l2), (3, bz_rf E r3)]) dM_carries_160 0 rfl rfl (by decide) rfl ?_
            refine j_goto X (tgt := 83) dM_carries_163 (by decide) ?_
            exact ih _ _ hf
          · refine j_goto X (tgt := 160) dM_carries_128 (by decide) ?_
            refine j_iinc X (y := l5 + 1) (lv' := [(5, bz_i (l5 + 1)), (0, bz_rf E 81), (1, bz_i l1), (2, bz_i l2), (3, bz_rf E r3)]) dM_carries_160 0 rfl rfl (by decide) rfl ?_
            refine j_goto X (tgt := 83) dM_carries_163 (by decide) ?_
            exact ih _ _ hf
theorem lM_carries_L169 (E : bz_E) (F : Nat) {K : bz_K} {rv : Option Value} {M1 : bz_Mm} (X : bz_X K E prog_14_method_46_code 6 "UnitsWrongModel" none 1 20 rv M1) {r3 : Nat} {l1 : Int} (hr3 : bz_shl[r3]? = some (.inl (0, 260, 0))) {res : (bz_Mm)}
    (kx : ∀ (M : bz_Mm), some M = some res → bz_J K 6 208 [] [] M) :
    ∀ (n : Nat) (l5 : Int) (M : bz_Mm), M_carries_L169 F n r3 l1 l5 M = some res → bz_J K 6 169 [(5, bz_i l5), (0, bz_rf E 81), (1, bz_i l1), (3, bz_rf E r3)] [] M := by
  intro n
  induction n with
  | zero => intro l5 M hf; cases hf
  | succ n ih =>
    intro l5 M hf
    rw [M_carries_L169] at hf
    refine j_iload X dM_carries_169 0 rfl ?_
    refine j_sipush X dM_carries_171 rfl ?_
    refine j_icmp_ge X (tgt := 208) rfl (w32_lit rfl) dM_carries_174 (by decide) hf (fun hf => ?_) (fun hf => ?_)
    · exact j_sub [] rfl (kx _ hf)
    · refine j_iload_n X dM_carries_177 rfl 2 rfl ?_
      refine j_iconst X dM_carries_178 ?_
      refine j_icmp_ge X (tgt := 208) rfl (w32_lit rfl) dM_carries_179 (by decide) hf (fun hf => ?_) (fun hf => ?_)
      · exact j_sub [] rfl (kx _ hf)
      · refine j_aload_n X dM_carries_182 rfl 1 rfl ?_
        refine j_geta X gf_M_166_81 dM_carries_183 ?_
        refine j_iload X dM_carries_186 0 rfl ?_
        refine j_zald X sh_221 dM_carries_188 hf (fun x18 hf => ?_)
        refine j_if_ne X (tgt := 202) rfl dM_carries_189 (by decide) hf (fun hf => ?_) (fun hf => ?_)
        · refine j_iinc X (y := l5 + 1) (lv' := [(5, bz_i (l5 + 1)), (0, bz_rf E 81), (1, bz_i l1), (3, bz_rf E r3)]) dM_carries_202 0 rfl rfl (by decide) rfl ?_
          refine j_goto X (tgt := 169) dM_carries_205 (by decide) ?_
          exact ih _ _ hf
        · refine j_aload_n X dM_carries_192 rfl 3 rfl ?_
          refine j_iload X dM_carries_193 0 rfl ?_
          refine j_aload_n X dM_carries_195 rfl 3 rfl ?_
          refine j_iload X dM_carries_196 0 rfl ?_
          refine j_iconst X dM_carries_198 ?_
          refine j_isub X dM_carries_199 ?_
          refine j_iald X hr3 dM_carries_200 hf (fun x19 hf => ?_)
          show bz_J _ _ 201 _ _ _
          refine j_iast X hr3 dM_carries_201 hf (fun m20 hf => ?_)
          refine j_iinc X (y := l5 + 1) (lv' := [(5, bz_i (l5 + 1)), (0, bz_rf E 81), (1, bz_i l1), (3, bz_rf E r3)]) dM_carries_202 0 rfl rfl (by decide) rfl ?_
          refine j_goto X (tgt := 169) dM_carries_205 (by decide) ?_
          exact ih _ _ hf
def fM_carries (F : Nat) (M : bz_Mm) (r3 : Nat) (a1 : Int) (a2 : Int) : Option (bz_Mm) :=
  cl1_ (M_carries_L6 F F r3 a1 a2 0 M) fun m6 =>
  cl1_ (M_carries_L58 F F r3 a1 a2 0 m6) fun m8 =>
  cl1_ (M_carries_L83 F F r3 a1 a2 0 m8) fun m17 =>
  cl1_ (M_carries_L169 F F r3 a1 1 m17) fun m21 =>
  some m21
set_option maxHeartbeats 4000000 in
set_option maxRecDepth 20000 in
theorem cM_carries (E : bz_E) (F : Nat)  {M : bz_Mm} {r3 : Nat} {a1 : Int} {a2 : Int} {x0 : bz_Mm} (hr3 : bz_shl[r3]? = some (.inl (0, 260, 0))) (hf : fM_carries F M r3 a1 a2 = some x0) : bz_Ct E yM_carries (.code yM_carries prog_14_method_46_code 6 none) 1 20 [bz_rf E 81, bz_i a1, bz_i a2, bz_rf E r3] M (none) x0 := by
  refine bz_met (by decide +kernel) (Nat.le_of_ble_eq_true rfl) (fun K X => ?_)
  have X : bz_X K E prog_14_method_46_code 6 "UnitsWrongModel" none 1 20 _ _ := X
  unfold fM_carries at hf
  show bz_J K 6 0 [(0, bz_rf E 81), (1, bz_i a1), (2, bz_i a2), (3, bz_rf E r3)] [] M
  refine j_iconst X dM_carries_0 ?_
  refine j_istore X (lv' := [(4, bz_i ((-1))), (0, bz_rf E 81), (1, bz_i a1), (2, bz_i a2), (3, bz_rf E r3)]) dM_carries_1 (by decide) rfl ?_
  refine j_iconst X dM_carries_3 ?_
  refine j_istore X (lv' := [(5, bz_i 0), (4, bz_i ((-1))), (0, bz_rf E 81), (1, bz_i a1), (2, bz_i a2), (3, bz_rf E r3)]) dM_carries_4 (by decide) rfl ?_
  obtain ⟨res25, hz25, hk25⟩ := q_l1 hf
  clear hf
  refine j_sub [0, 2, 3, 4, 5] rfl ?_
  refine lM_carries_L6 E F X hr3 (fun m6 he => ?_) F 0 M hz25
  have hf := hk25 _ he
  refine j_iconst X dM_carries_55 ?_
  refine j_istore X (lv' := [(5, bz_i 0), (0, bz_rf E 81), (1, bz_i a1), (2, bz_i a2), (3, bz_rf E r3)]) dM_carries_56 (by decide) rfl ?_
  obtain ⟨res24, hz24, hk24⟩ := q_l1 hf
  clear hf
  refine lM_carries_L58 E F X hr3 (fun m8 he => ?_) F 0 m6 hz24
  have hf := hk24 _ he
  refine j_iconst X dM_carries_80 ?_
  refine j_istore X (lv' := [(5, bz_i 0), (0, bz_rf E 81), (1, bz_i a1), (2, bz_i a2), (3, bz_rf E r3)]) dM_carries_81 (by decide) rfl ?_
  obtain ⟨res23, hz23, hk23⟩ := q_l1 hf
  clear hf
  refine lM_carries_L83 E F X hr3 (fun m17 he => ?_) F 0 m8 hz23
  have hf := hk23 _ he
  refine j_iconst X dM_carries_166 ?_
  refine j_istore X (lv' := [(5, bz_i 1), (0, bz_rf E 81), (1, bz_i a1), (3, bz_rf E r3)]) dM_carries_167 (by decide) rfl ?_
  obtain ⟨res22, hz22, hk22⟩ := q_l1 hf
  clear hf
  refine lM_carries_L169 E F X hr3 (fun m21 he => ?_) F 1 m17 hz22
  have hf := hk22 _ he
  cases hf
  exact j_vret X dM_carries_208 rfl rfl
def M_knows_L7 (F : Nat) : Nat → Int → bz_Mm → Option (bz_Mm)
  | 0, _, _ => none
  | n + 1, l2, M =>
    if w32 l2 < 8 then
    (ra_ l2 8 fun i2 =>
    cl_ (fM_carries F M (158 + i2) 0 l2) fun m3 =>
    ra_ l2 8 fun i4 =>
    cl_ (fM_carries F m3 (171 + i4) 2 l2) fun m5 =>
    ra_ l2 8 fun i6 =>
    cl_ (fM_carries F m5 (180 + i6) 3 l2) fun m7 =>
    M_knows_L7 F n (l2 + 1) m7)
    else
    (some M)
def M_knows_L57 (F : Nat) : Nat → Int → bz_Mm → Option (bz_Mm)
  | 0, _, _ => none
  | n + 1, l2, M =>
    if w32 l2 < 260 then
    (ra_ 0 3 fun i9 =>
    wa_ M (167 + i9) l2 260 1000 fun m10 =>
    M_knows_L57 F n (l2 + 1) m10)
    else
    (some M)
theorem lM_knows_L7 (E : bz_E) (F : Nat) {K : bz_K} {rv : Option Value} {M1 : bz_Mm} (X : bz_X K E prog_14_method_47_code 3 "UnitsWrongModel" none 2 45 rv M1) {res : (bz_Mm)}
    (kx : ∀ (M : bz_Mm), some M = some res → bz_J K 3 55 [(0, bz_rf E 81)] [] M) :
    ∀ (n : Nat) (l2 : Int) (M : bz_Mm), M_knows_L7 F n l2 M = some res → bz_J K 3 7 [(2, bz_i l2), (0, bz_rf E 81)] [] M := by
  intro n
  induction n with
  | zero => intro l2 M hf; cases hf
  | succ n ih =>
    intro l2 M hf
    rw [M_knows_L7] at hf
    refine j_iload_n X dM_knows_7 rfl 0 rfl ?_
    refine j_bipush X dM_knows_8 rfl ?_
    refine j_icmp_ge X (tgt := 55) rfl (w32_lit rfl) dM_knows_10 (by decide) hf (fun hf => ?_) (fun hf => ?_)
    · exact j_sub [1] rfl (kx _ hf)
    · refine j_aload_n X dM_knows_13 rfl 1 rfl ?_
      refine j_iconst X dM_knows_14 ?_
      refine j_iload_n X dM_knows_15 rfl 0 rfl ?_
      refine j_aload_n X dM_knows_16 rfl 1 rfl ?_
      refine j_geta X gf_M_125_81 dM_knows_17 ?_
      refine j_iload_n X dM_knows_20 rfl 0 rfl ?_
      refine j_aald X sh_157 (by decide) (by decide) dM_knows_21 hf (fun i2 hi2 hf => ?_)
      show bz_J _ _ 22 _ _ _
      obtain ⟨m3, hz, hf⟩ := q_cl hf
      refine j_cv X (st := []) (cM_carries E F (sr_157 i2 hi2) hz) gyM_carries gv_M_carries_81 rfl (by decide) (by decide) wd_1627 rfl (Nat.le_of_ble_eq_true rfl) dM_knows_22 ?_
      clear hz
      refine j_aload_n X dM_knows_25 rfl 1 rfl ?_
      refine j_iconst X dM_knows_26 ?_
      refine j_iload_n X dM_knows_27 rfl 0 rfl ?_
      refine j_aload_n X dM_knows_28 rfl 1 rfl ?_
      refine j_geta X gf_M_131_81 dM_knows_29 ?_
      refine j_iload_n X dM_knows_32 rfl 0 rfl ?_
      refine j_aald X sh_170 (by decide) (by decide) dM_knows_33 hf (fun i4 hi4 hf => ?_)
      show bz_J _ _ 34 _ _ _
      obtain ⟨m5, hz, hf⟩ := q_cl hf
      refine j_cv X (st := []) (cM_carries E F (sr_170 i4 hi4) hz) gyM_carries gv_M_carries_81 rfl (by decide) (by decide) wd_1627 rfl (Nat.le_of_ble_eq_true rfl) dM_knows_34 ?_
      clear hz
      refine j_aload_n X dM_knows_37 rfl 1 rfl ?_
      refine j_iconst X dM_knows_38 ?_
      refine j_iload_n X dM_knows_39 rfl 0 rfl ?_
      refine j_aload_n X dM_knows_40 rfl 1 rfl ?_
      refine j_geta X gf_M_134_81 dM_knows_41 ?_
      refine j_iload_n X dM_knows_44 rfl 0 rfl ?_
      refine j_aald X sh_179 (by decide) (by decide) dM_knows_45 hf (fun i6 hi6 hf => ?_)
      show bz_J _ _ 46 _ _ _
      obtain ⟨m7, hz, hf⟩ := q_cl hf
      refine j_cv X (st := []) (cM_carries E F (sr_179 i6 hi6) hz) gyM_carries gv_M_carries_81 rfl (by decide) (by decide) wd_1627 rfl (Nat.le_of_ble_eq_true rfl) dM_knows_46 ?_
      clear hz
      refine j_iinc X (y := l2 + 1) (lv' := [(2, bz_i (l2 + 1)), (0, bz_rf E 81)]) dM_knows_49 0 rfl rfl (by decide) rfl ?_
      refine j_goto X (tgt := 7) dM_knows_52 (by decide) ?_
      exact ih _ _ hf
theorem lM_knows_L57 (E : bz_E) (F : Nat) {K : bz_K} {rv : Option Value} {M1 : bz_Mm} (X : bz_X K E prog_14_method_47_code 3 "UnitsWrongModel" none 2 45 rv M1) {res : (bz_Mm)}
    (kx : ∀ (M : bz_Mm), some M = some res → bz_J K 3 81 [(0, bz_rf E 81)] [] M) :
    ∀ (n : Nat) (l2 : Int) (M : bz_Mm), M_knows_L57 F n l2 M = some res → bz_J K 3 57 [(2, bz_i l2), (0, bz_rf E 81)] [] M := by
  intro n
  induction n with
  | zero => intro l2 M hf; cases hf
  | succ n ih =>
    intro l2 M hf
    rw [M_knows_L57] at hf
    refine j_iload_n X dM_knows_57 rfl 0 rfl ?_
    refine j_sipush X dM_knows_58 rfl ?_
    refine j_icmp_ge X (tgt := 81) rfl (w32_lit rfl) dM_knows_61 (by decide) hf (fun hf => ?_) (fun hf => ?_)
    · exact j_sub [1] rfl (kx _ hf)
    · refine j_aload_n X dM_knows_64 rfl 1 rfl ?_
      refine j_geta X gf_M_128_81 dM_knows_65 ?_
      refine j_iconst X dM_knows_68 ?_
      refine j_aald X sh_166 (by decide) (by decide) dM_knows_69 hf (fun i9 hi9 hf => ?_)
      refine j_iload_n X dM_knows_70 rfl 0 rfl ?_
      refine j_sipush X dM_knows_71 rfl ?_
      refine j_iast X (sr_166 i9 hi9) dM_knows_74 hf (fun m10 hf => ?_)
      show bz_J _ _ 75 _ _ _
      refine j_iinc X (y := l2 + 1) (lv' := [(2, bz_i (l2 + 1)), (0, bz_rf E 81)]) dM_knows_75 0 rfl rfl (by decide) rfl ?_
      refine j_goto X (tgt := 57) dM_knows_78 (by decide) ?_
      exact ih _ _ hf
def fM_knows (F : Nat) (M : bz_Mm) (a1 : Int) : Option (bz_Mm) :=
  wf_ M 81 61 a1 fun m1 =>
  cl1_ (M_knows_L7 F F 0 m1) fun m8 =>
  cl1_ (M_knows_L57 F F 0 m8) fun m11 =>
  ra_ 1 3 fun i12 =>
  cl_ (fM_carries F m11 (167 + i12) 1 1) fun m13 =>
  ra_ 2 3 fun i14 =>
  cl_ (fM_carries F m13 (167 + i14) 1 2) fun m15 =>
  some m15
set_option maxHeartbeats 4000000 in
set_option maxRecDepth 20000 in
theorem cM_knows (E : bz_E) (F : Nat)  {M : bz_Mm} {a1 : Int} {x0 : bz_Mm} (hf : fM_knows F M a1 = some x0) : bz_Ct E yM_knows (.code yM_knows prog_14_method_47_code 3 none) 2 45 [bz_rf E 81, bz_i a1] M (none) x0 := by
  refine bz_met (by decide +kernel) (Nat.le_of_ble_eq_true rfl) (fun K X => ?_)
  have X : bz_X K E prog_14_method_47_code 3 "UnitsWrongModel" none 2 45 _ _ := X
  unfold fM_knows at hf
  show bz_J K 3 0 [(0, bz_rf E 81), (1, bz_i a1)] [] M
  refine j_aload_n X dM_knows_0 rfl 0 rfl ?_
  refine j_iload_n X dM_knows_1 rfl 1 rfl ?_
  refine j_puti X pf_M_418_81 dM_knows_2 hf (fun m1 hf => ?_)
  refine j_iconst X dM_knows_5 ?_
  refine j_istore_n X (lv' := [(2, bz_i 0), (0, bz_rf E 81), (1, bz_i a1)]) dM_knows_6 rfl (by decide) rfl ?_
  obtain ⟨res17, hz17, hk17⟩ := q_l1 hf
  clear hf
  refine j_sub [0, 1] rfl ?_
  refine lM_knows_L7 E F X (fun m8 he => ?_) F 0 m1 hz17
  have hf := hk17 _ he
  refine j_iconst X dM_knows_55 ?_
  refine j_istore_n X (lv' := [(2, bz_i 0), (0, bz_rf E 81)]) dM_knows_56 rfl (by decide) rfl ?_
  obtain ⟨res16, hz16, hk16⟩ := q_l1 hf
  clear hf
  refine lM_knows_L57 E F X (fun m11 he => ?_) F 0 m8 hz16
  have hf := hk16 _ he
  refine j_aload_n X dM_knows_81 rfl 0 rfl ?_
  refine j_iconst X dM_knows_82 ?_
  refine j_iconst X dM_knows_83 ?_
  refine j_aload_n X dM_knows_84 rfl 0 rfl ?_
  refine j_geta X gf_M_128_81 dM_knows_85 ?_
  refine j_iconst X dM_knows_88 ?_
  refine j_aald X sh_166 (by decide) (by decide) dM_knows_89 hf (fun i12 hi12 hf => ?_)
  show bz_J _ _ 90 _ _ _
  obtain ⟨m13, hz, hf⟩ := q_cl hf
  refine j_cv X (st := []) (cM_carries E F (sr_166 i12 hi12) hz) gyM_carries gv_M_carries_81 rfl (by decide) (by decide) wd_1627 rfl (Nat.le_of_ble_eq_true rfl) dM_knows_90 ?_
  clear hz
  refine j_aload_n X dM_knows_93 rfl 0 rfl ?_
  refine j_iconst X dM_knows_94 ?_
  refine j_iconst X dM_knows_95 ?_
  refine j_aload_n X dM_knows_96 rfl 0 rfl ?_
  refine j_geta X gf_M_128_81 dM_knows_97 ?_
  refine j_iconst X dM_knows_100 ?_
  refine j_aald X sh_166 (by decide) (by decide) dM_knows_101 hf (fun i14 hi14 hf => ?_)
  show bz_J _ _ 102 _ _ _
  obtain ⟨m15, hz, hf⟩ := q_cl hf
  refine j_cv X (st := []) (cM_carries E F (sr_166 i14 hi14) hz) gyM_carries gv_M_carries_81 rfl (by decide) (by decide) wd_1627 rfl (Nat.le_of_ble_eq_true rfl) dM_knows_102 ?_
  clear hz
  cases hf
  exact j_vret X dM_knows_105 rfl rfl
def M_begins_L29 (F : Nat) : Nat → Int → Int → bz_Mm → Option (bz_Mm)
  | 0, _, _, _ => none
  | n + 1, l1, l2, M =>
    if w32 l2 < 8 then
    (ra_ l1 4 fun i4 =>
    wa_ M (191 + i4) l2 8 0 fun m5 =>
    M_begins_L29 F n l1 (l2 + 1) m5)
    else
    (some M)
def M_begins_L52 (F : Nat) : Nat → Int → Int → bz_Mm → Option (bz_Mm)
  | 0, _, _, _ => none
  | n + 1, l1, l2, M =>
    if w32 l2 < 20 then
    (ra_ l1 4 fun i7 =>
    wa_ M (206 + i7) l2 20 0 fun m8 =>
    M_begins_L52 F n l1 (l2 + 1) m8)
    else
    (some M)
def M_begins_L2 (F : Nat) : Nat → Int → bz_Mm → Option (bz_Mm)
  | 0, _, _ => none
  | n + 1, l1, M =>
    if w32 l1 < 4 then
    (rd_ M 93 l1 4 fun x1 =>
    wa_ M 188 l1 4 (w32 x1) fun m2 =>
    wa_ m2 210 l1 4 0 fun m3 =>
    cl1_ (M_begins_L29 F F l1 0 m3) fun m6 =>
    cl1_ (M_begins_L52 F F l1 0 m6) fun m9 =>
    M_begins_L2 F n (l1 + 1) m9)
    else
    (some M)
def M_begins_L81 (F : Nat) : Nat → Int → bz_Mm → Option (bz_Mm)
  | 0, _, _ => none
  | n + 1, l1, M =>
    if w32 l1 < w32 (M 81 35) then
    (wa_ M 189 l1 200 0 fun m13 =>
    M_begins_L81 F n (l1 + 1) m13)
    else
    (some M)
theorem lM_begins_L29 (E : bz_E) (F : Nat) {K : bz_K} {rv : Option Value} {M1 : bz_Mm} (X : bz_X K E prog_14_method_48_code 3 "UnitsWrongModel" none 0 0 rv M1) {l1 : Int} {res : (bz_Mm)}
    (kx : ∀ (M : bz_Mm), some M = some res → bz_J K 3 50 [(1, bz_i l1), (0, bz_rf E 81)] [] M) :
    ∀ (n : Nat) (l2 : Int) (M : bz_Mm), M_begins_L29 F n l1 l2 M = some res → bz_J K 3 29 [(2, bz_i l2), (1, bz_i l1), (0, bz_rf E 81)] [] M := by
  intro n
  induction n with
  | zero => intro l2 M hf; cases hf
  | succ n ih =>
    intro l2 M hf
    rw [M_begins_L29] at hf
    refine j_iload_n X dM_begins_29 rfl 0 rfl ?_
    refine j_bipush X dM_begins_30 rfl ?_
    refine j_icmp_ge X (tgt := 50) rfl (w32_lit rfl) dM_begins_32 (by decide) hf (fun hf => ?_) (fun hf => ?_)
    · exact j_sub [1, 2] rfl (kx _ hf)
    · refine j_aload_n X dM_begins_35 rfl 2 rfl ?_
      refine j_geta X gf_M_145_81 dM_begins_36 ?_
      refine j_iload_n X dM_begins_39 rfl 1 rfl ?_
      refine j_aald X sh_190 (by decide) (by decide) dM_begins_40 hf (fun i4 hi4 hf => ?_)
      refine j_iload_n X dM_begins_41 rfl 0 rfl ?_
      refine j_lconst X (v := 0) dM_begins_42 rfl ?_
      refine j_last X (sr_190 i4 hi4) dM_begins_43 hf (fun m5 hf => ?_)
      show bz_J _ _ 44 _ _ _
      refine j_iinc X (y := l2 + 1) (lv' := [(2, bz_i (l2 + 1)), (1, bz_i l1), (0, bz_rf E 81)]) dM_begins_44 0 rfl rfl (by decide) rfl ?_
      refine j_goto X (tgt := 29) dM_begins_47 (by decide) ?_
      exact ih _ _ hf
theorem lM_begins_L52 (E : bz_E) (F : Nat) {K : bz_K} {rv : Option Value} {M1 : bz_Mm} (X : bz_X K E prog_14_method_48_code 3 "UnitsWrongModel" none 0 0 rv M1) {l1 : Int} {res : (bz_Mm)}
    (kx : ∀ (M : bz_Mm), some M = some res → bz_J K 3 73 [(1, bz_i l1), (0, bz_rf E 81)] [] M) :
    ∀ (n : Nat) (l2 : Int) (M : bz_Mm), M_begins_L52 F n l1 l2 M = some res → bz_J K 3 52 [(2, bz_i l2), (1, bz_i l1), (0, bz_rf E 81)] [] M := by
  intro n
  induction n with
  | zero => intro l2 M hf; cases hf
  | succ n ih =>
    intro l2 M hf
    rw [M_begins_L52] at hf
    refine j_iload_n X dM_begins_52 rfl 0 rfl ?_
    refine j_bipush X dM_begins_53 rfl ?_
    refine j_icmp_ge X (tgt := 73) rfl (w32_lit rfl) dM_begins_55 (by decide) hf (fun hf => ?_) (fun hf => ?_)
    · exact j_sub [1, 2] rfl (kx _ hf)
    · refine j_aload_n X dM_begins_58 rfl 2 rfl ?_
      refine j_geta X gf_M_154_81 dM_begins_59 ?_
      refine j_iload_n X dM_begins_62 rfl 1 rfl ?_
      refine j_aald X sh_205 (by decide) (by decide) dM_begins_63 hf (fun i7 hi7 hf => ?_)
      refine j_iload_n X dM_begins_64 rfl 0 rfl ?_
      refine j_lconst X (v := 0) dM_begins_65 rfl ?_
      refine j_last X (sr_205 i7 hi7) dM_begins_66 hf (fun m8 hf => ?_)
      show bz_J _ _ 67 _ _ _
      refine j_iinc X (y := l2 + 1) (lv' := [(2, bz_i (l2 + 1)), (1, bz_i l1), (0, bz_rf E 81)]) dM_begins_67 0 rfl rfl (by decide) rfl ?_
      refine j_goto X (tgt := 52) dM_begins_70 (by decide) ?_
      exact ih _ _ hf
theorem lM_begins_L2 (E : bz_E) (F : Nat) {K : bz_K} {rv : Option Value} {M1 : bz_Mm} (X : bz_X K E prog_14_method_48_code 3 "UnitsWrongModel" none 0 0 rv M1) {res : (bz_Mm)}
    (kx : ∀ (M : bz_Mm), some M = some res → bz_J K 3 79 [(0, bz_rf E 81)] [] M) :
    ∀ (n : Nat) (l1 : Int) (M : bz_Mm), M_begins_L2 F n l1 M = some res → bz_J K 3 2 [(1, bz_i l1), (0, bz_rf E 81)] [] M := by
  intro n
  induction n with
  | zero => intro l1 M hf; cases hf
  | succ n ih =>
    intro l1 M hf
    rw [M_begins_L2] at hf
    refine j_iload_n X dM_begins_2 rfl 0 rfl ?_
    refine j_iconst X dM_begins_3 ?_
    refine j_icmp_ge X (tgt := 79) rfl (w32_lit rfl) dM_begins_4 (by decide) hf (fun hf => ?_) (fun hf => ?_)
    · exact j_sub [1] rfl (kx _ hf)
    · refine j_aload_n X dM_begins_7 rfl 1 rfl ?_
      refine j_geta X gf_M_137_81 dM_begins_8 ?_
      refine j_iload_n X dM_begins_11 rfl 0 rfl ?_
      refine j_aload_n X dM_begins_12 rfl 1 rfl ?_
      refine j_geta X gf_M_44_81 dM_begins_13 ?_
      refine j_iload_n X dM_begins_16 rfl 0 rfl ?_
      refine j_iald X sh_93 dM_begins_17 hf (fun x1 hf => ?_)
      show bz_J _ _ 18 _ _ _
      refine j_i2l X rfl dM_begins_18 ?_
      refine j_last X sh_188 dM_begins_19 hf (fun m2 hf => ?_)
      refine j_aload_n X dM_begins_20 rfl 1 rfl ?_
      refine j_geta X gf_M_157_81 dM_begins_21 ?_
      refine j_iload_n X dM_begins_24 rfl 0 rfl ?_
      refine j_lconst X (v := 0) dM_begins_25 rfl ?_
      refine j_last X sh_210 dM_begins_26 hf (fun m3 hf => ?_)
      refine j_iconst X dM_begins_27 ?_
      show bz_J _ _ 28 _ _ _
      refine j_istore_n X (lv' := [(2, bz_i 0), (1, bz_i l1), (0, bz_rf E 81)]) dM_begins_28 rfl (by decide) rfl ?_
      obtain ⟨res11, hz11, hk11⟩ := q_l1 hf
      clear hf
      refine lM_begins_L29 E F X (fun m6 he => ?_) F 0 m3 hz11
      have hf := hk11 _ he
      refine j_iconst X dM_begins_50 ?_
      refine j_istore_n X (lv' := [(2, bz_i 0), (1, bz_i l1), (0, bz_rf E 81)]) dM_begins_51 rfl (by decide) rfl ?_
      obtain ⟨res10, hz10, hk10⟩ := q_l1 hf
      clear hf
      refine lM_begins_L52 E F X (fun m9 he => ?_) F 0 m6 hz10
      have hf := hk10 _ he
      refine j_iinc X (y := l1 + 1) (lv' := [(1, bz_i (l1 + 1)), (0, bz_rf E 81)]) dM_begins_73 0 rfl rfl (by decide) rfl ?_
      refine j_goto X (tgt := 2) dM_begins_76 (by decide) ?_
      exact ih _ _ hf
theorem lM_begins_L81 (E : bz_E) (F : Nat) {K : bz_K} {rv : Option Value} {M1 : bz_Mm} (X : bz_X K E prog_14_method_48_code 3 "UnitsWrongModel" none 0 0 rv M1) {res : (bz_Mm)}
    (kx : ∀ (M : bz_Mm), some M = some res → bz_J K 3 102 [] [] M) :
    ∀ (n : Nat) (l1 : Int) (M : bz_Mm), M_begins_L81 F n l1 M = some res → bz_J K 3 81 [(1, bz_i l1), (0, bz_rf E 81)] [] M := by
  intro n
  induction n with
  | zero => intro l1 M hf; cases hf
  | succ n ih =>
    intro l1 M hf
    rw [M_begins_L81] at hf
    refine j_iload_n X dM_begins_81 rfl 0 rfl ?_
    refine j_aload_n X dM_begins_82 rfl 1 rfl ?_
    refine j_geti X gf_M_302_81 dM_begins_83 ?_
    refine j_icmp_ge X (tgt := 102) rfl rfl dM_begins_86 (by decide) hf (fun hf => ?_) (fun hf => ?_)
    · exact j_sub [] rfl (kx _ hf)
    · refine j_aload_n X dM_begins_89 rfl 1 rfl ?_
      refine j_geta X gf_M_140_81 dM_begins_90 ?_
      refine j_iload_n X dM_begins_93 rfl 0 rfl ?_
      refine j_lconst X (v := 0) dM_begins_94 rfl ?_
      refine j_last X sh_189 dM_begins_95 hf (fun m13 hf => ?_)
      refine j_iinc X (y := l1 + 1) (lv' := [(1, bz_i (l1 + 1)), (0, bz_rf E 81)]) dM_begins_96 0 rfl rfl (by decide) rfl ?_
      refine j_goto X (tgt := 81) dM_begins_99 (by decide) ?_
      exact ih _ _ hf
def fM_begins (F : Nat) (M : bz_Mm) : Option (bz_Mm) :=
  cl1_ (M_begins_L2 F F 0 M) fun m12 =>
  cl1_ (M_begins_L81 F F 0 m12) fun m14 =>
  some m14
set_option maxHeartbeats 4000000 in
set_option maxRecDepth 20000 in
theorem cM_begins (E : bz_E) (F : Nat)  {M : bz_Mm} {x0 : bz_Mm} (hf : fM_begins F M = some x0) : bz_Ct E yM_begins (.code yM_begins prog_14_method_48_code 3 none) 0 0 [bz_rf E 81] M (none) x0 := by
  refine bz_met (by decide +kernel) (Nat.le_of_ble_eq_true rfl) (fun K X => ?_)
  have X : bz_X K E prog_14_method_48_code 3 "UnitsWrongModel" none 0 0 _ _ := X
  unfold fM_begins at hf
  show bz_J K 3 0 [(0, bz_rf E 81)] [] M
  refine j_iconst X dM_begins_0 ?_
  refine j_istore_n X (lv' := [(1, bz_i 0), (0, bz_rf E 81)]) dM_begins_1 rfl (by decide) rfl ?_
  obtain ⟨res16, hz16, hk16⟩ := q_l1 hf
  clear hf
  refine lM_begins_L2 E F X (fun m12 he => ?_) F 0 M hz16
  have hf := hk16 _ he
  refine j_iconst X dM_begins_79 ?_
  refine j_istore_n X (lv' := [(1, bz_i 0), (0, bz_rf E 81)]) dM_begins_80 rfl (by decide) rfl ?_
  obtain ⟨res15, hz15, hk15⟩ := q_l1 hf
  clear hf
  refine lM_begins_L81 E F X (fun m14 he => ?_) F 0 m12 hz15
  have hf := hk15 _ he
  cases hf
  exact j_vret X dM_begins_102 rfl rfl
def gM_near (a0 : Int) (a1 : Int) (a2 : Int) : Option Int :=
  if w64 a0 < w64 a1 then
  (some a1)
  else
  (if w64 a2 < w64 a0 then
  (some a2)
  else
  (some a0))
def fM_near (a0 : Int) (a1 : Int) (a2 : Int) : Int :=
  if w64 a0 < w64 a1 then
  (a1)
  else
  (if w64 a2 < w64 a0 then
  (a2)
  else
  (a0))
theorem tM_near (a0 : Int) (a1 : Int) (a2 : Int) : gM_near a0 a1 a2 = some (fM_near a0 a1 a2) := by
  unfold gM_near fM_near
  (repeat' (first | rfl | split))
set_option maxHeartbeats 4000000 in
set_option maxRecDepth 20000 in
theorem cM_near (E : bz_E) {M : bz_Mm} {a0 : Int} {a1 : Int} {a2 : Int} : bz_Ct E yM_near (.code yM_near prog_14_method_3_code 6 (some .long)) 0 0 [bz_l a0, bz_l a1, bz_l a2] M (some (bz_l (fM_near a0 a1 a2))) M := by
  have hf := tM_near a0 a1 a2
  refine bz_met (by decide +kernel) (Nat.le_of_ble_eq_true rfl) (fun K X => ?_)
  have X : bz_X K E prog_14_method_3_code 6 "UnitsWrongModel" (some .long) 0 0 _ _ := X
  unfold gM_near at hf
  generalize fM_near a0 a1 a2 = rr at hf X
  show bz_J K 6 0 [(0, bz_l a0), (2, bz_l a1), (4, bz_l a2)] [] M
  refine j_lload_n X dM_near_0 rfl 0 rfl ?_
  refine j_lload_n X dM_near_1 rfl 1 rfl ?_
  refine j_lcmp_ge X (tgt := 10) rfl rfl dM_near_2 dM_near_3 (by decide) hf (fun hf => ?_) (fun hf => ?_)
  · refine j_lload_n X dM_near_10 rfl 0 rfl ?_
    refine j_lload X dM_near_11 2 rfl ?_
    refine j_lcmp_le X (tgt := 22) rfl rfl dM_near_13 dM_near_14 (by decide) hf (fun hf => ?_) (fun hf => ?_)
    · refine j_lload_n X dM_near_22 rfl 0 rfl ?_
      cases hf
      exact j_lret X dM_near_23 rfl rfl
    · refine j_lload X dM_near_17 2 rfl ?_
      refine j_goto X (tgt := 23) dM_near_19 (by decide) ?_
      cases hf
      exact j_lret X dM_near_23 rfl rfl
  · refine j_lload_n X dM_near_6 rfl 1 rfl ?_
    refine j_goto X (tgt := 23) dM_near_7 (by decide) ?_
    cases hf
    exact j_lret X dM_near_23 rfl rfl
def M_papers_L2 (F : Nat) : Nat → Int → Int → Int → bz_Mm → Option (bz_Mm)
  | 0, _, _, _, _ => none
  | n + 1, l1, l2, l3, M =>
    if w32 l3 < 8 then
    (ra_ l1 4 fun i1 =>
    ra_ l1 4 fun i2 =>
    rd_ M (191 + i2) l3 8 fun x3 =>
    ra_ l3 8 fun i4 =>
    rd_ M (180 + i4) l2 260 fun x5 =>
    wa_ M (191 + i1) l3 8 (fM_near ((w64 (x3 * (w32 x5))).tdiv 1000) ((-1000000)) 1000000) fun m6 =>
    M_papers_L2 F n l1 l2 (l3 + 1) m6)
    else
    (some M)
def M_papers_L55 (F : Nat) : Nat → Int → Int → Int → bz_Mm → Option (bz_Mm)
  | 0, _, _, _, _ => none
  | n + 1, l1, l2, l3, M =>
    if w32 l3 < 8 then
    (rd_ M 188 l1 4 fun x8 =>
    ra_ l1 4 fun i9 =>
    rd_ M (191 + i9) l3 8 fun x10 =>
    ra_ l3 8 fun i11 =>
    rd_ M (171 + i11) l2 260 fun x12 =>
    rd_ M 92 l3 8 fun x13 =>
    ra_ x13 3 fun i14 =>
    rd_ M (167 + i14) l2 260 fun x15 =>
    wa_ M 188 l1 4 (x8 + ((w64 ((x10 * (w32 x12)) * (w32 x15))).tdiv 1000)) fun m16 =>
    M_papers_L55 F n l1 l2 (l3 + 1) m16)
    else
    (some M)
def M_papers_L115 (F : Nat) : Nat → Int → Int → Int → bz_Mm → Option (bz_Mm)
  | 0, _, _, _, _ => none
  | n + 1, l1, l2, l3, M =>
    if w32 l3 < w32 (M 81 27) then
    (rd_ M 97 l3 120 fun x18 =>
    if w32 x18 = w32 l1 then
    (rd_ M 99 l3 120 fun x19 =>
    if w32 x19 = w32 l2 then
    (rd_ M 102 l3 120 fun x20 =>
    if w32 (M 81 61) < w32 x20 then
    (M_papers_L115 F n l1 l2 (l3 + 1) M)
    else
    (ra_ l1 4 fun i21 =>
    rd_ M 98 l3 120 fun x22 =>
    ra_ l1 4 fun i23 =>
    rd_ M 98 l3 120 fun x24 =>
    rd_ M (191 + i23) x24 8 fun x25 =>
    rd_ M 100 l3 120 fun x26 =>
    wa_ M (191 + i21) x22 8 (fM_near (x25 + (w32 x26)) ((-1000000)) 1000000) fun m27 =>
    rd_ m27 188 l1 4 fun x28 =>
    rd_ m27 101 l3 120 fun x29 =>
    wa_ m27 188 l1 4 (x28 + (w32 x29)) fun m30 =>
    M_papers_L115 F n l1 l2 (l3 + 1) m30))
    else
    (M_papers_L115 F n l1 l2 (l3 + 1) M))
    else
    (M_papers_L115 F n l1 l2 (l3 + 1) M))
    else
    (some M)
theorem lM_papers_L2 (E : bz_E) (F : Nat) {K : bz_K} {rv : Option Value} {M1 : bz_Mm} (X : bz_X K E prog_14_method_49_code 4 "UnitsWrongModel" none 1 25 rv M1) {l1 : Int} {l2 : Int} {res : (bz_Mm)}
    (kx : ∀ (M : bz_Mm), some M = some res → bz_J K 4 53 [(0, bz_rf E 81), (1, bz_i l1), (2, bz_i l2)] [] M) :
    ∀ (n : Nat) (l3 : Int) (M : bz_Mm), M_papers_L2 F n l1 l2 l3 M = some res → bz_J K 4 2 [(3, bz_i l3), (0, bz_rf E 81), (1, bz_i l1), (2, bz_i l2)] [] M := by
  intro n
  induction n with
  | zero => intro l3 M hf; cases hf
  | succ n ih =>
    intro l3 M hf
    rw [M_papers_L2] at hf
    refine j_iload_n X dM_papers_2 rfl 0 rfl ?_
    refine j_bipush X dM_papers_3 rfl ?_
    refine j_icmp_ge X (tgt := 53) rfl (w32_lit rfl) dM_papers_5 (by decide) hf (fun hf => ?_) (fun hf => ?_)
    · exact j_sub [1, 2, 3] rfl (kx _ hf)
    · refine j_aload_n X dM_papers_8 rfl 1 rfl ?_
      refine j_geta X gf_M_145_81 dM_papers_9 ?_
      refine j_iload_n X dM_papers_12 rfl 2 rfl ?_
      refine j_aald X sh_190 (by decide) (by decide) dM_papers_13 hf (fun i1 hi1 hf => ?_)
      refine j_iload_n X dM_papers_14 rfl 0 rfl ?_
      refine j_aload_n X dM_papers_15 rfl 1 rfl ?_
      refine j_geta X gf_M_145_81 dM_papers_16 ?_
      show bz_J _ _ 19 _ _ _
      refine j_iload_n X dM_papers_19 rfl 2 rfl ?_
      refine j_aald X sh_190 (by decide) (by decide) dM_papers_20 hf (fun i2 hi2 hf => ?_)
      refine j_iload_n X dM_papers_21 rfl 0 rfl ?_
      refine j_lald X (sr_190 i2 hi2) dM_papers_22 hf (fun x3 hf => ?_)
      refine j_aload_n X dM_papers_23 rfl 1 rfl ?_
      refine j_geta X gf_M_134_81 dM_papers_24 ?_
      refine j_iload_n X dM_papers_27 rfl 0 rfl ?_
      refine j_aald X sh_179 (by decide) (by decide) dM_papers_28 hf (fun i4 hi4 hf => ?_)
      show bz_J _ _ 29 _ _ _
      refine j_iload_n X dM_papers_29 rfl 3 rfl ?_
      refine j_iald X (sr_179 i4 hi4) dM_papers_30 hf (fun x5 hf => ?_)
      refine j_i2l X rfl dM_papers_31 ?_
      refine j_lmul X dM_papers_32 ?_
      refine j_ldc2 X (v := 1000) wd_1439 dM_papers_33 ?_
      refine j_ldl X (w64_lit rfl) (by decide) dM_papers_36 ?_
      refine j_ldc2 X (v := -1000000) wd_1643 dM_papers_37 ?_
      refine j_ldc2 X (v := 1000000) wd_1644 dM_papers_40 ?_
      show bz_J _ _ 43 _ _ _
      refine j_cs X (st := [bz_i l3, bz_rf E (191 + i1)]) (cM_near E) gyM_near wd_1559 rfl (by decide) (by decide) wd_1558 rfl (Nat.le_of_ble_eq_true rfl) dM_papers_43 ?_
      refine j_last X (sr_190 i1 hi1) dM_papers_46 hf (fun m6 hf => ?_)
      refine j_iinc X (y := l3 + 1) (lv' := [(3, bz_i (l3 + 1)), (0, bz_rf E 81), (1, bz_i l1), (2, bz_i l2)]) dM_papers_47 0 rfl rfl (by decide) rfl ?_
      refine j_goto X (tgt := 2) dM_papers_50 (by decide) ?_
      exact ih _ _ hf
theorem lM_papers_L55 (E : bz_E) (F : Nat) {K : bz_K} {rv : Option Value} {M1 : bz_Mm} (X : bz_X K E prog_14_method_49_code 4 "UnitsWrongModel" none 1 25 rv M1) {l1 : Int} {l2 : Int} {res : (bz_Mm)}
    (kx : ∀ (M : bz_Mm), some M = some res → bz_J K 4 113 [(0, bz_rf E 81), (1, bz_i l1), (2, bz_i l2)] [] M) :
    ∀ (n : Nat) (l3 : Int) (M : bz_Mm), M_papers_L55 F n l1 l2 l3 M = some res → bz_J K 4 55 [(3, bz_i l3), (0, bz_rf E 81), (1, bz_i l1), (2, bz_i l2)] [] M := by
  intro n
  induction n with
  | zero => intro l3 M hf; cases hf
  | succ n ih =>
    intro l3 M hf
    rw [M_papers_L55] at hf
    refine j_iload_n X dM_papers_55 rfl 0 rfl ?_
    refine j_bipush X dM_papers_56 rfl ?_
    refine j_icmp_ge X (tgt := 113) rfl (w32_lit rfl) dM_papers_58 (by decide) hf (fun hf => ?_) (fun hf => ?_)
    · exact j_sub [1, 2, 3] rfl (kx _ hf)
    · refine j_aload_n X dM_papers_61 rfl 1 rfl ?_
      refine j_geta X gf_M_137_81 dM_papers_62 ?_
      refine j_iload_n X dM_papers_65 rfl 2 rfl ?_
      refine j_dup2 X dM_papers_66 rfl rfl ?_
      refine j_lald X sh_188 dM_papers_67 hf (fun x8 hf => ?_)
      refine j_aload_n X dM_papers_68 rfl 1 rfl ?_
      refine j_geta X gf_M_145_81 dM_papers_69 ?_
      show bz_J _ _ 72 _ _ _
      refine j_iload_n X dM_papers_72 rfl 2 rfl ?_
      refine j_aald X sh_190 (by decide) (by decide) dM_papers_73 hf (fun i9 hi9 hf => ?_)
      refine j_iload_n X dM_papers_74 rfl 0 rfl ?_
      refine j_lald X (sr_190 i9 hi9) dM_papers_75 hf (fun x10 hf => ?_)
      refine j_aload_n X dM_papers_76 rfl 1 rfl ?_
      refine j_geta X gf_M_131_81 dM_papers_77 ?_
      refine j_iload_n X dM_papers_80 rfl 0 rfl ?_
      refine j_aald X sh_170 (by decide) (by decide) dM_papers_81 hf (fun i11 hi11 hf => ?_)
      show bz_J _ _ 82 _ _ _
      refine j_iload_n X dM_papers_82 rfl 3 rfl ?_
      refine j_iald X (sr_170 i11 hi11) dM_papers_83 hf (fun x12 hf => ?_)
      refine j_i2l X rfl dM_papers_84 ?_
      refine j_lmul X dM_papers_85 ?_
      refine j_aload_n X dM_papers_86 rfl 1 rfl ?_
      refine j_geta X gf_M_128_81 dM_papers_87 ?_
      refine j_aload_n X dM_papers_90 rfl 1 rfl ?_
      refine j_geta X gf_M_41_81 dM_papers_91 ?_
      show bz_J _ _ 94 _ _ _
      refine j_iload_n X dM_papers_94 rfl 0 rfl ?_
      refine j_iald X sh_92 dM_papers_95 hf (fun x13 hf => ?_)
      refine j_aald X sh_166 (by decide) (by decide) dM_papers_96 hf (fun i14 hi14 hf => ?_)
      refine j_iload_n X dM_papers_97 rfl 3 rfl ?_
      refine j_iald X (sr_166 i14 hi14) dM_papers_98 hf (fun x15 hf => ?_)
      refine j_i2l X rfl dM_papers_99 ?_
      refine j_lmul X dM_papers_100 ?_
      refine j_ldc2 X (v := 1000) wd_1439 dM_papers_101 ?_
      show bz_J _ _ 104 _ _ _
      refine j_ldl X (w64_lit rfl) (by decide) dM_papers_104 ?_
      refine j_ladd X dM_papers_105 ?_
      refine j_last X sh_188 dM_papers_106 hf (fun m16 hf => ?_)
      refine j_iinc X (y := l3 + 1) (lv' := [(3, bz_i (l3 + 1)), (0, bz_rf E 81), (1, bz_i l1), (2, bz_i l2)]) dM_papers_107 0 rfl rfl (by decide) rfl ?_
      refine j_goto X (tgt := 55) dM_papers_110 (by decide) ?_
      exact ih _ _ hf
theorem lM_papers_L115 (E : bz_E) (F : Nat) {K : bz_K} {rv : Option Value} {M1 : bz_Mm} (X : bz_X K E prog_14_method_49_code 4 "UnitsWrongModel" none 1 25 rv M1) {l1 : Int} {l2 : Int} {res : (bz_Mm)}
    (kx : ∀ (M : bz_Mm), some M = some res → bz_J K 4 224 [] [] M) :
    ∀ (n : Nat) (l3 : Int) (M : bz_Mm), M_papers_L115 F n l1 l2 l3 M = some res → bz_J K 4 115 [(3, bz_i l3), (0, bz_rf E 81), (1, bz_i l1), (2, bz_i l2)] [] M := by
  intro n
  induction n with
  | zero => intro l3 M hf; cases hf
  | succ n ih =>
    intro l3 M hf
    rw [M_papers_L115] at hf
    refine j_iload_n X dM_papers_115 rfl 0 rfl ?_
    refine j_aload_n X dM_papers_116 rfl 1 rfl ?_
    refine j_geti X gf_M_294_81 dM_papers_117 ?_
    refine j_icmp_ge X (tgt := 224) rfl rfl dM_papers_120 (by decide) hf (fun hf => ?_) (fun hf => ?_)
    · exact j_sub [] rfl (kx _ hf)
    · refine j_aload_n X dM_papers_123 rfl 1 rfl ?_
      refine j_geta X gf_M_56_81 dM_papers_124 ?_
      refine j_iload_n X dM_papers_127 rfl 0 rfl ?_
      refine j_iald X sh_97 dM_papers_128 hf (fun x18 hf => ?_)
      refine j_iload_n X dM_papers_129 rfl 2 rfl ?_
      refine j_icmp_ne X (tgt := 218) rfl rfl dM_papers_130 (by decide) hf (fun hf => ?_) (fun hf => ?_)
      · refine j_iinc X (y := l3 + 1) (lv' := [(3, bz_i (l3 + 1)), (0, bz_rf E 81), (1, bz_i l1), (2, bz_i l2)]) dM_papers_218 0 rfl rfl (by decide) rfl ?_
        refine j_goto X (tgt := 115) dM_papers_221 (by decide) ?_
        exact ih _ _ hf
      · refine j_aload_n X dM_papers_133 rfl 1 rfl ?_
        refine j_geta X gf_M_62_81 dM_papers_134 ?_
        refine j_iload_n X dM_papers_137 rfl 0 rfl ?_
        refine j_iald X sh_99 dM_papers_138 hf (fun x19 hf => ?_)
        refine j_iload_n X dM_papers_139 rfl 3 rfl ?_
        refine j_icmp_ne X (tgt := 218) rfl rfl dM_papers_140 (by decide) hf (fun hf => ?_) (fun hf => ?_)
        · refine j_iinc X (y := l3 + 1) (lv' := [(3, bz_i (l3 + 1)), (0, bz_rf E 81), (1, bz_i l1), (2, bz_i l2)]) dM_papers_218 0 rfl rfl (by decide) rfl ?_
          refine j_goto X (tgt := 115) dM_papers_221 (by decide) ?_
          exact ih _ _ hf
        · refine j_aload_n X dM_papers_143 rfl 1 rfl ?_
          refine j_geta X gf_M_71_81 dM_papers_144 ?_
          refine j_iload_n X dM_papers_147 rfl 0 rfl ?_
          refine j_iald X sh_102 dM_papers_148 hf (fun x20 hf => ?_)
          refine j_aload_n X dM_papers_149 rfl 1 rfl ?_
          refine j_geti X gf_M_418_81 dM_papers_150 ?_
          refine j_icmp_le X (tgt := 159) rfl rfl dM_papers_153 (by decide) hf (fun hf => ?_) (fun hf => ?_)
          · refine j_aload_n X dM_papers_159 rfl 1 rfl ?_
            refine j_geta X gf_M_145_81 dM_papers_160 ?_
            refine j_iload_n X dM_papers_163 rfl 2 rfl ?_
            refine j_aald X sh_190 (by decide) (by decide) dM_papers_164 hf (fun i21 hi21 hf => ?_)
            refine j_aload_n X dM_papers_165 rfl 1 rfl ?_
            refine j_geta X gf_M_59_81 dM_papers_166 ?_
            refine j_iload_n X dM_papers_169 rfl 0 rfl ?_
            show bz_J _ _ 170 _ _ _
            refine j_iald X sh_98 dM_papers_170 hf (fun x22 hf => ?_)
            refine j_aload_n X dM_papers_171 rfl 1 rfl ?_
            refine j_geta X gf_M_145_81 dM_papers_172 ?_
            refine j_iload_n X dM_papers_175 rfl 2 rfl ?_
            refine j_aald X sh_190 (by decide) (by decide) dM_papers_176 hf (fun i23 hi23 hf => ?_)
            refine j_aload_n X dM_papers_177 rfl 1 rfl ?_
            refine j_geta X gf_M_59_81 dM_papers_178 ?_
            refine j_iload_n X dM_papers_181 rfl 0 rfl ?_
            show bz_J _ _ 182 _ _ _
            refine j_iald X sh_98 dM_papers_182 hf (fun x24 hf => ?_)
            refine j_lald X (sr_190 i23 hi23) dM_papers_183 hf (fun x25 hf => ?_)
            refine j_aload_n X dM_papers_184 rfl 1 rfl ?_
            refine j_geta X gf_M_65_81 dM_papers_185 ?_
            refine j_iload_n X dM_papers_188 rfl 0 rfl ?_
            refine j_iald X sh_100 dM_papers_189 hf (fun x26 hf => ?_)
            refine j_i2l X rfl dM_papers_190 ?_
            refine j_ladd X dM_papers_191 ?_
            show bz_J _ _ 192 _ _ _
            refine j_ldc2 X (v := -1000000) wd_1643 dM_papers_192 ?_
            refine j_ldc2 X (v := 1000000) wd_1644 dM_papers_195 ?_
            refine j_cs X (st := [bz_i x22, bz_rf E (191 + i21)]) (cM_near E) gyM_near wd_1559 rfl (by decide) (by decide) wd_1558 rfl (Nat.le_of_ble_eq_true rfl) dM_papers_198 ?_
            refine j_last X (sr_190 i21 hi21) dM_papers_201 hf (fun m27 hf => ?_)
            refine j_aload_n X dM_papers_202 rfl 1 rfl ?_
            refine j_geta X gf_M_137_81 dM_papers_203 ?_
            refine j_iload_n X dM_papers_206 rfl 2 rfl ?_
            refine j_dup2 X dM_papers_207 rfl rfl ?_
            show bz_J _ _ 208 _ _ _
            refine j_lald X sh_188 dM_papers_208 hf (fun x28 hf => ?_)
            refine j_aload_n X dM_papers_209 rfl 1 rfl ?_
            refine j_geta X gf_M_68_81 dM_papers_210 ?_
            refine j_iload_n X dM_papers_213 rfl 0 rfl ?_
            refine j_iald X sh_101 dM_papers_214 hf (fun x29 hf => ?_)
            refine j_i2l X rfl dM_papers_215 ?_
            refine j_ladd X dM_papers_216 ?_
            refine j_last X sh_188 dM_papers_217 hf (fun m30 hf => ?_)
            show bz_J _ _ 218 _ _ _
            refine j_iinc X (y := l3 + 1) (lv' := [(3, bz_i (l3 + 1)), (0, bz_rf E 81), (1, bz_i l1), (2, bz_i l2)]) dM_papers_218 0 rfl rfl (by decide) rfl ?_
            refine j_goto X (tgt := 115) dM_papers_221 (by decide) ?_
            exact ih _ _ hf
          · refine j_goto X (tgt := 218) dM_papers_156 (by decide) ?_
            refine j_iinc X (y := l3 + 1) (lv' := [(3, bz_i (l3 + 1)), (0, bz_rf E 81), (1, bz_i l1), (2, bz_i l2)]) dM_papers_218 0 rfl rfl (by decide) rfl ?_
            refine j_goto X (tgt := 115) dM_papers_221 (by decide) ?_
            exact ih _ _ hf
def fM_papers (F : Nat) (M : bz_Mm) (a1 : Int) (a2 : Int) : Option (bz_Mm) :=
  cl1_ (M_papers_L2 F F a1 a2 0 M) fun m7 =>
  cl1_ (M_papers_L55 F F a1 a2 0 m7) fun m17 =>
  cl1_ (M_papers_L115 F F a1 a2 0 m17) fun m31 =>
  some m31
set_option maxHeartbeats 4000000 in
set_option maxRecDepth 20000 in
theorem cM_papers (E : bz_E) (F : Nat)  {M : bz_Mm} {a1 : Int} {a2 : Int} {x0 : bz_Mm} (hf : fM_papers F M a1 a2 = some x0) : bz_Ct E yM_papers (.code yM_papers prog_14_method_49_code 4 none) 1 25 [bz_rf E 81, bz_i a1, bz_i a2] M (none) x0 := by
  refine bz_met (by decide +kernel) (Nat.le_of_ble_eq_true rfl) (fun K X => ?_)
  have X : bz_X K E prog_14_method_49_code 4 "UnitsWrongModel" none 1 25 _ _ := X
  unfold fM_papers at hf
  show bz_J K 4 0 [(0, bz_rf E 81), (1, bz_i a1), (2, bz_i a2)] [] M
  refine j_iconst X dM_papers_0 ?_
  refine j_istore_n X (lv' := [(3, bz_i 0), (0, bz_rf E 81), (1, bz_i a1), (2, bz_i a2)]) dM_papers_1 rfl (by decide) rfl ?_
  obtain ⟨res34, hz34, hk34⟩ := q_l1 hf
  clear hf
  refine lM_papers_L2 E F X (fun m7 he => ?_) F 0 M hz34
  have hf := hk34 _ he
  refine j_iconst X dM_papers_53 ?_
  refine j_istore_n X (lv' := [(3, bz_i 0), (0, bz_rf E 81), (1, bz_i a1), (2, bz_i a2)]) dM_papers_54 rfl (by decide) rfl ?_
  obtain ⟨res33, hz33, hk33⟩ := q_l1 hf
  clear hf
  refine lM_papers_L55 E F X (fun m17 he => ?_) F 0 m7 hz33
  have hf := hk33 _ he
  refine j_iconst X dM_papers_113 ?_
  refine j_istore_n X (lv' := [(3, bz_i 0), (0, bz_rf E 81), (1, bz_i a1), (2, bz_i a2)]) dM_papers_114 rfl (by decide) rfl ?_
  obtain ⟨res32, hz32, hk32⟩ := q_l1 hf
  clear hf
  refine lM_papers_L115 E F X (fun m31 he => ?_) F 0 m17 hz32
  have hf := hk32 _ he
  cases hf
  exact j_vret X dM_papers_224 rfl rfl
def M_feeds1_L2 (F : Nat) : Nat → Int → Int → Int → bz_Mm → Option (bz_Mm)
  | 0, _, _, _, _ => none
  | n + 1, l1, l2, l3, M =>
    if w32 l3 < w32 (M 81 35) then
    (rd_ M 103 l3 200 fun x1 =>
    if w32 x1 = w32 (16 + l1) then
    (rd_ M 106 l3 200 fun x2 =>
    if w32 x2 = w32 l2 then
    (rd_ M 188 l1 4 fun x3 =>
    rd_ M 105 l3 200 fun x4 =>
    if 0 < w32 x4 then
    (rd_ M 189 l3 200 fun x7 =>
    wa_ M 188 l1 4 (x3 + (-x7)) fun m8 =>
    M_feeds1_L2 F n l1 l2 (l3 + 1) m8)
    else
    (rd_ M 189 l3 200 fun x5 =>
    wa_ M 188 l1 4 (x3 + x5) fun m6 =>
    M_feeds1_L2 F n l1 l2 (l3 + 1) m6))
    else
    (M_feeds1_L2 F n l1 l2 (l3 + 1) M))
    else
    (M_feeds1_L2 F n l1 l2 (l3 + 1) M))
    else
    (some M)
theorem lM_feeds1_L2 (E : bz_E) (F : Nat) {K : bz_K} {rv : Option Value} {M1 : bz_Mm} (X : bz_X K E prog_14_method_50_code 4 "UnitsWrongModel" none 0 0 rv M1) {l1 : Int} {l2 : Int} {res : (bz_Mm)}
    (kx : ∀ (M : bz_Mm), some M = some res → bz_J K 4 76 [] [] M) :
    ∀ (n : Nat) (l3 : Int) (M : bz_Mm), M_feeds1_L2 F n l1 l2 l3 M = some res → bz_J K 4 2 [(3, bz_i l3), (0, bz_rf E 81), (1, bz_i l1), (2, bz_i l2)] [] M := by
  intro n
  induction n with
  | zero => intro l3 M hf; cases hf
  | succ n ih =>
    intro l3 M hf
    rw [M_feeds1_L2] at hf
    refine j_iload_n X dM_feeds1_2 rfl 0 rfl ?_
    refine j_aload_n X dM_feeds1_3 rfl 1 rfl ?_
    refine j_geti X gf_M_302_81 dM_feeds1_4 ?_
    refine j_icmp_ge X (tgt := 76) rfl rfl dM_feeds1_7 (by decide) hf (fun hf => ?_) (fun hf => ?_)
    · exact j_sub [] rfl (kx _ hf)
    · refine j_aload_n X dM_feeds1_10 rfl 1 rfl ?_
      refine j_geta X gf_M_74_81 dM_feeds1_11 ?_
      refine j_iload_n X dM_feeds1_14 rfl 0 rfl ?_
      refine j_iald X sh_103 dM_feeds1_15 hf (fun x1 hf => ?_)
      refine j_bipush X dM_feeds1_16 rfl ?_
      refine j_iload_n X dM_feeds1_18 rfl 2 rfl ?_
      refine j_iadd X dM_feeds1_19 ?_
      show bz_J _ _ 20 _ _ _
      refine j_icmp_ne X (tgt := 70) rfl rfl dM_feeds1_20 (by decide) hf (fun hf => ?_) (fun hf => ?_)
      · refine j_iinc X (y := l3 + 1) (lv' := [(3, bz_i (l3 + 1)), (0, bz_rf E 81), (1, bz_i l1), (2, bz_i l2)]) dM_feeds1_70 0 rfl rfl (by decide) rfl ?_
        refine j_goto X (tgt := 2) dM_feeds1_73 (by decide) ?_
        exact ih _ _ hf
      · refine j_aload_n X dM_feeds1_23 rfl 1 rfl ?_
        refine j_geta X gf_M_83_81 dM_feeds1_24 ?_
        refine j_iload_n X dM_feeds1_27 rfl 0 rfl ?_
        refine j_iald X sh_106 dM_feeds1_28 hf (fun x2 hf => ?_)
        refine j_iload_n X dM_feeds1_29 rfl 3 rfl ?_
        refine j_icmp_eq X (tgt := 36) rfl rfl dM_feeds1_30 (by decide) hf (fun hf => ?_) (fun hf => ?_)
        · refine j_aload_n X dM_feeds1_36 rfl 1 rfl ?_
          refine j_geta X gf_M_137_81 dM_feeds1_37 ?_
          refine j_iload_n X dM_feeds1_40 rfl 2 rfl ?_
          refine j_dup2 X dM_feeds1_41 rfl rfl ?_
          refine j_lald X sh_188 dM_feeds1_42 hf (fun x3 hf => ?_)
          refine j_aload_n X dM_feeds1_43 rfl 1 rfl ?_
          refine j_geta X gf_M_80_81 dM_feeds1_44 ?_
          show bz_J _ _ 47 _ _ _
          refine j_iload_n X dM_feeds1_47 rfl 0 rfl ?_
          refine j_iald X sh_105 dM_feeds1_48 hf (fun x4 hf => ?_)
          refine j_if_le X (tgt := 62) rfl dM_feeds1_49 (by decide) hf (fun hf => ?_) (fun hf => ?_)
          · refine j_aload_n X dM_feeds1_62 rfl 1 rfl ?_
            refine j_geta X gf_M_140_81 dM_feeds1_63 ?_
            refine j_iload_n X dM_feeds1_66 rfl 0 rfl ?_
            refine j_lald X sh_189 dM_feeds1_67 hf (fun x5 hf => ?_)
            refine j_ladd X dM_feeds1_68 ?_
            refine j_last X sh_188 dM_feeds1_69 hf (fun m6 hf => ?_)
            refine j_iinc X (y := l3 + 1) (lv' := [(3, bz_i (l3 + 1)), (0, bz_rf E 81), (1, bz_i l1), (2, bz_i l2)]) dM_feeds1_70 0 rfl rfl (by decide) rfl ?_
            show bz_J _ _ 73 _ _ _
            refine j_goto X (tgt := 2) dM_feeds1_73 (by decide) ?_
            exact ih _ _ hf
          · refine j_aload_n X dM_feeds1_52 rfl 1 rfl ?_
            refine j_geta X gf_M_140_81 dM_feeds1_53 ?_
            refine j_iload_n X dM_feeds1_56 rfl 0 rfl ?_
            refine j_lald X sh_189 dM_feeds1_57 hf (fun x7 hf => ?_)
            refine j_lneg X dM_feeds1_58 ?_
            refine j_goto X (tgt := 68) dM_feeds1_59 (by decide) ?_
            refine j_ladd X dM_feeds1_68 ?_
            show bz_J _ _ 69 _ _ _
            refine j_last X sh_188 dM_feeds1_69 hf (fun m8 hf => ?_)
            refine j_iinc X (y := l3 + 1) (lv' := [(3, bz_i (l3 + 1)), (0, bz_rf E 81), (1, bz_i l1), (2, bz_i l2)]) dM_feeds1_70 0 rfl rfl (by decide) rfl ?_
            refine j_goto X (tgt := 2) dM_feeds1_73 (by decide) ?_
            exact ih _ _ hf
        · refine j_goto X (tgt := 70) dM_feeds1_33 (by decide) ?_
          refine j_iinc X (y := l3 + 1) (lv' := [(3, bz_i (l3 + 1)), (0, bz_rf E 81), (1, bz_i l1), (2, bz_i l2)]) dM_feeds1_70 0 rfl rfl (by decide) rfl ?_
          refine j_goto X (tgt := 2) dM_feeds1_73 (by decide) ?_
          exact ih _ _ hf
def fM_feeds1 (F : Nat) (M : bz_Mm) (a1 : Int) (a2 : Int) : Option (bz_Mm) :=
  cl1_ (M_feeds1_L2 F F a1 a2 0 M) fun m9 =>
  some m9
set_option maxHeartbeats 4000000 in
set_option maxRecDepth 20000 in
theorem cM_feeds1 (E : bz_E) (F : Nat)  {M : bz_Mm} {a1 : Int} {a2 : Int} {x0 : bz_Mm} (hf : fM_feeds1 F M a1 a2 = some x0) : bz_Ct E yM_feeds1 (.code yM_feeds1 prog_14_method_50_code 4 none) 0 0 [bz_rf E 81, bz_i a1, bz_i a2] M (none) x0 := by
  refine bz_met (by decide +kernel) (Nat.le_of_ble_eq_true rfl) (fun K X => ?_)
  have X : bz_X K E prog_14_method_50_code 4 "UnitsWrongModel" none 0 0 _ _ := X
  unfold fM_feeds1 at hf
  show bz_J K 4 0 [(0, bz_rf E 81), (1, bz_i a1), (2, bz_i a2)] [] M
  refine j_iconst X dM_feeds1_0 ?_
  refine j_istore_n X (lv' := [(3, bz_i 0), (0, bz_rf E 81), (1, bz_i a1), (2, bz_i a2)]) dM_feeds1_1 rfl (by decide) rfl ?_
  obtain ⟨res10, hz10, hk10⟩ := q_l1 hf
  clear hf
  refine lM_feeds1_L2 E F X (fun m9 he => ?_) F 0 M hz10
  have hf := hk10 _ he
  cases hf
  exact j_vret X dM_feeds1_76 rfl rfl
def M_assets_L10 (F : Nat) : Nat → bz_Mm → Int → Int → Int → Int → Option (Int)
  | 0, _, _, _, _, _ => none
  | n + 1, M, l1, l2, l5, l3 =>
    if w32 l5 < 8 then
    (ra_ l1 4 fun i2 =>
    rd_ M (191 + i2) l5 8 fun x3 =>
    ra_ l5 8 fun i4 =>
    rd_ M (158 + i4) l2 260 fun x5 =>
    rd_ M 92 l5 8 fun x6 =>
    ra_ x6 3 fun i7 =>
    rd_ M (167 + i7) l2 260 fun x8 =>
    lt_ (l3 + ((w64 ((x3 * (w32 x5)) * (w32 x8))).tdiv 1000)) fun l3 =>
    M_assets_L10 F n M l1 l2 (l5 + 1) l3)
    else
    (some l3)
def M_assets_L69 (F : Nat) : Nat → bz_Mm → Int → Int → Int → Int → Option (Int)
  | 0, _, _, _, _, _ => none
  | n + 1, M, l1, l2, l5, l3 =>
    if w32 l5 < w32 l1 then
    (ra_ l5 4 fun i9 =>
    rd_ M (206 + i9) (16 + l1) 20 fun x10 =>
    ra_ l5 4 fun i11 =>
    rd_ M (196 + i11) l2 260 fun x12 =>
    lt_ (l3 + ((w64 (x10 * x12)).tdiv 100)) fun l3 =>
    M_assets_L69 F n M l1 l2 (l5 + 1) l3)
    else
    (some l3)
theorem lM_assets_L10 (E : bz_E) (F : Nat) {K : bz_K} {rv : Option Value} {M1 : bz_Mm} (X : bz_X K E prog_14_method_51_code 6 "UnitsWrongModel" (some .long) 0 0 rv M1) {M : bz_Mm} {l1 : Int} {l2 : Int} {res : (Int)}
    (kx : ∀ (l3 : Int), some l3 = some res → bz_J K 6 66 [(3, bz_l l3), (0, bz_rf E 81), (1, bz_i l1), (2, bz_i l2)] [] M) :
    ∀ (n : Nat) (l5 : Int) (l3 : Int), M_assets_L10 F n M l1 l2 l5 l3 = some res → bz_J K 6 10 [(5, bz_i l5), (3, bz_l l3), (0, bz_rf E 81), (1, bz_i l1), (2, bz_i l2)] [] M := by
  intro n
  induction n with
  | zero => intro l5 l3 hf; cases hf
  | succ n ih =>
    intro l5 l3 hf
    rw [M_assets_L10] at hf
    refine j_iload X dM_assets_10 0 rfl ?_
    refine j_bipush X dM_assets_12 rfl ?_
    refine j_icmp_ge X (tgt := 66) rfl (w32_lit rfl) dM_assets_14 (by decide) hf (fun hf => ?_) (fun hf => ?_)
    · exact j_sub [1, 2, 3, 4] rfl (kx _ hf)
    · refine j_lload_n X dM_assets_17 rfl 1 rfl ?_
      refine j_aload_n X dM_assets_18 rfl 2 rfl ?_
      refine j_geta X gf_M_145_81 dM_assets_19 ?_
      refine j_iload_n X dM_assets_22 rfl 3 rfl ?_
      refine j_aald X sh_190 (by decide) (by decide) dM_assets_23 hf (fun i2 hi2 hf => ?_)
      refine j_iload X dM_assets_24 0 rfl ?_
      refine j_lald X (sr_190 i2 hi2) dM_assets_26 hf (fun x3 hf => ?_)
      show bz_J _ _ 27 _ _ _
      refine j_aload_n X dM_assets_27 rfl 2 rfl ?_
      refine j_geta X gf_M_125_81 dM_assets_28 ?_
      refine j_iload X dM_assets_31 0 rfl ?_
      refine j_aald X sh_157 (by decide) (by decide) dM_assets_33 hf (fun i4 hi4 hf => ?_)
      refine j_iload_n X dM_assets_34 rfl 4 rfl ?_
      refine j_iald X (sr_157 i4 hi4) dM_assets_35 hf (fun x5 hf => ?_)
      refine j_i2l X rfl dM_assets_36 ?_
      refine j_lmul X dM_assets_37 ?_
      show bz_J _ _ 38 _ _ _
      refine j_aload_n X dM_assets_38 rfl 2 rfl ?_
      refine j_geta X gf_M_128_81 dM_assets_39 ?_
      refine j_aload_n X dM_assets_42 rfl 2 rfl ?_
      refine j_geta X gf_M_41_81 dM_assets_43 ?_
      refine j_iload X dM_assets_46 0 rfl ?_
      refine j_iald X sh_92 dM_assets_48 hf (fun x6 hf => ?_)
      refine j_aald X sh_166 (by decide) (by decide) dM_assets_49 hf (fun i7 hi7 hf => ?_)
      refine j_iload_n X dM_assets_50 rfl 4 rfl ?_
      show bz_J _ _ 51 _ _ _
      refine j_iald X (sr_166 i7 hi7) dM_assets_51 hf (fun x8 hf => ?_)
      refine j_i2l X rfl dM_assets_52 ?_
      refine j_lmul X dM_assets_53 ?_
      refine j_ldc2 X (v := 1000) wd_1439 dM_assets_54 ?_
      refine j_ldl X (w64_lit rfl) (by decide) dM_assets_57 ?_
      refine j_ladd X dM_assets_58 ?_
      refine j_lt (g := bz_l) hf (fun l3 hf => ?_)
      refine j_lstore_n X (lv' := [(3, bz_l l3), (5, bz_i l5), (0, bz_rf E 81), (1, bz_i l1), (2, bz_i l2)]) dM_assets_59 rfl (by decide) rfl ?_
      refine j_iinc X (y := l5 + 1) (lv' := [(5, bz_i (l5 + 1)), (3, bz_l l3), (0, bz_rf E 81), (1, bz_i l1), (2, bz_i l2)]) dM_assets_60 1 rfl rfl (by decide) rfl ?_
      show bz_J _ _ 63 _ _ _
      refine j_goto X (tgt := 10) dM_assets_63 (by decide) ?_
      exact ih _ _ hf
theorem lM_assets_L69 (E : bz_E) (F : Nat) {K : bz_K} {rv : Option Value} {M1 : bz_Mm} (X : bz_X K E prog_14_method_51_code 6 "UnitsWrongModel" (some .long) 0 0 rv M1) {M : bz_Mm} {l1 : Int} {l2 : Int} {res : (Int)}
    (kx : ∀ (l3 : Int), some l3 = some res → bz_J K 6 110 [(3, bz_l l3)] [] M) :
    ∀ (n : Nat) (l5 : Int) (l3 : Int), M_assets_L69 F n M l1 l2 l5 l3 = some res → bz_J K 6 69 [(5, bz_i l5), (3, bz_l l3), (0, bz_rf E 81), (1, bz_i l1), (2, bz_i l2)] [] M := by
  intro n
  induction n with
  | zero => intro l5 l3 hf; cases hf
  | succ n ih =>
    intro l5 l3 hf
    rw [M_assets_L69] at hf
    refine j_iload X dM_assets_69 0 rfl ?_
    refine j_iload_n X dM_assets_71 rfl 3 rfl ?_
    refine j_icmp_ge X (tgt := 110) rfl rfl dM_assets_72 (by decide) hf (fun hf => ?_) (fun hf => ?_)
    · exact j_sub [1] rfl (kx _ hf)
    · refine j_lload_n X dM_assets_75 rfl 1 rfl ?_
      refine j_aload_n X dM_assets_76 rfl 2 rfl ?_
      refine j_geta X gf_M_154_81 dM_assets_77 ?_
      refine j_iload X dM_assets_80 0 rfl ?_
      refine j_aald X sh_205 (by decide) (by decide) dM_assets_82 hf (fun i9 hi9 hf => ?_)
      refine j_bipush X dM_assets_83 rfl ?_
      refine j_iload_n X dM_assets_85 rfl 3 rfl ?_
      show bz_J _ _ 86 _ _ _
      refine j_iadd X dM_assets_86 ?_
      refine j_lald X (sr_205 i9 hi9) dM_assets_87 hf (fun x10 hf => ?_)
      refine j_aload_n X dM_assets_88 rfl 2 rfl ?_
      refine j_geta X gf_M_148_81 dM_assets_89 ?_
      refine j_iload X dM_assets_92 0 rfl ?_
      refine j_aald X sh_195 (by decide) (by decide) dM_assets_94 hf (fun i11 hi11 hf => ?_)
      refine j_iload_n X dM_assets_95 rfl 4 rfl ?_
      refine j_lald X (sr_195 i11 hi11) dM_assets_96 hf (fun x12 hf => ?_)
      show bz_J _ _ 97 _ _ _
      refine j_lmul X dM_assets_97 ?_
      refine j_ldc2 X (v := 100) wd_1440 dM_assets_98 ?_
      refine j_ldl X (w64_lit rfl) (by decide) dM_assets_101 ?_
      refine j_ladd X dM_assets_102 ?_
      refine j_lt (g := bz_l) hf (fun l3 hf => ?_)
      refine j_lstore_n X (lv' := [(3, bz_l l3), (5, bz_i l5), (0, bz_rf E 81), (1, bz_i l1), (2, bz_i l2)]) dM_assets_103 rfl (by decide) rfl ?_
      refine j_iinc X (y := l5 + 1) (lv' := [(5, bz_i (l5 + 1)), (3, bz_l l3), (0, bz_rf E 81), (1, bz_i l1), (2, bz_i l2)]) dM_assets_104 1 rfl rfl (by decide) rfl ?_
      refine j_goto X (tgt := 69) dM_assets_107 (by decide) ?_
      exact ih _ _ hf
def fM_assets (F : Nat) (M : bz_Mm) (a1 : Int) (a2 : Int) : Option (Int) :=
  rd_ M 188 a1 4 fun x1 =>
  cl1_ (M_assets_L10 F F M a1 a2 0 x1) fun l3 =>
  cl1_ (M_assets_L69 F F M a1 a2 0 l3) fun l3 =>
  some l3
set_option maxHeartbeats 4000000 in
set_option maxRecDepth 20000 in
theorem cM_assets (E : bz_E) (F : Nat)  {M : bz_Mm} {a1 : Int} {a2 : Int} {x0 : Int} (hf : fM_assets F M a1 a2 = some x0) : bz_Ct E yM_assets (.code yM_assets prog_14_method_51_code 6 (some .long)) 0 0 [bz_rf E 81, bz_i a1, bz_i a2] M (some (bz_l x0)) M := by
  refine bz_met (by decide +kernel) (Nat.le_of_ble_eq_true rfl) (fun K X => ?_)
  have X : bz_X K E prog_14_method_51_code 6 "UnitsWrongModel" (some .long) 0 0 _ _ := X
  unfold fM_assets at hf
  show bz_J K 6 0 [(0, bz_rf E 81), (1, bz_i a1), (2, bz_i a2)] [] M
  refine j_aload_n X dM_assets_0 rfl 0 rfl ?_
  refine j_geta X gf_M_137_81 dM_assets_1 ?_
  refine j_iload_n X dM_assets_4 rfl 1 rfl ?_
  refine j_lald X sh_188 dM_assets_5 hf (fun x1 hf => ?_)
  refine j_lstore_n X (lv' := [(3, bz_l x1), (0, bz_rf E 81), (1, bz_i a1), (2, bz_i a2)]) dM_assets_6 rfl (by decide) rfl ?_
  refine j_iconst X dM_assets_7 ?_
  refine j_istore X (lv' := [(5, bz_i 0), (3, bz_l x1), (0, bz_rf E 81), (1, bz_i a1), (2, bz_i a2)]) dM_assets_8 (by decide) rfl ?_
  obtain ⟨res14, hz14, hk14⟩ := q_l1 hf
  clear hf
  refine lM_assets_L10 E F X (fun l3 he => ?_) F 0 x1 hz14
  have hf := hk14 _ he
  refine j_iconst X dM_assets_66 ?_
  refine j_istore X (lv' := [(5, bz_i 0), (3, bz_l l3), (0, bz_rf E 81), (1, bz_i a1), (2, bz_i a2)]) dM_assets_67 (by decide) rfl ?_
  obtain ⟨res13, hz13, hk13⟩ := q_l1 hf
  clear hf
  refine lM_assets_L69 E F X (fun l3 he => ?_) F 0 l3 hz13
  have hf := hk13 _ he
  refine j_lload_n X dM_assets_110 rfl 0 rfl ?_
  cases hf
  exact j_lret X dM_assets_111 rfl rfl
def fM_dealtOf (F : Nat) (M : bz_Mm) (a1 : Int) (a2 : Int) (a3 : Int) : Option (Int) :=
  if w32 a2 = 0 then
  (rd_ M 107 a1 200 fun x4 =>
  some (w32 x4))
  else
  (rd_ M 105 a1 200 fun x1 =>
  if 0 < w32 x1 then
  (rd_ M 105 a1 200 fun x3 =>
  some (w32 x3))
  else
  (rd_ M 105 a1 200 fun x2 =>
  some (-(fM_near (w32 (-x2)) 0 a3))))
set_option maxHeartbeats 4000000 in
set_option maxRecDepth 20000 in
theorem cM_dealtOf (E : bz_E) (F : Nat)  {M : bz_Mm} {a1 : Int} {a2 : Int} {a3 : Int} {x0 : Int} (hf : fM_dealtOf F M a1 a2 a3 = some x0) : bz_Ct E yM_dealtOf (.code yM_dealtOf prog_14_method_52_code 5 (some .long)) 1 25 [bz_rf E 81, bz_i a1, bz_i a2, bz_l a3] M (some (bz_l x0)) M := by
  refine bz_met (by decide +kernel) (Nat.le_of_ble_eq_true rfl) (fun K X => ?_)
  have X : bz_X K E prog_14_method_52_code 5 "UnitsWrongModel" (some .long) 1 25 _ _ := X
  unfold fM_dealtOf at hf
  show bz_J K 5 0 [(0, bz_rf E 81), (1, bz_i a1), (2, bz_i a2), (3, bz_l a3)] [] M
  refine j_iload_n X dM_dealtOf_0 rfl 2 rfl ?_
  refine j_if_ne X (tgt := 12) rfl dM_dealtOf_1 (by decide) hf (fun hf => ?_) (fun hf => ?_)
  · refine j_aload_n X dM_dealtOf_12 rfl 0 rfl ?_
    refine j_geta X gf_M_80_81 dM_dealtOf_13 ?_
    refine j_iload_n X dM_dealtOf_16 rfl 1 rfl ?_
    refine j_iald X sh_105 dM_dealtOf_17 hf (fun x1 hf => ?_)
    refine j_if_le X (tgt := 31) rfl dM_dealtOf_18 (by decide) hf (fun hf => ?_) (fun hf => ?_)
    · refine j_aload_n X dM_dealtOf_31 rfl 0 rfl ?_
      refine j_geta X gf_M_80_81 dM_dealtOf_32 ?_
      refine j_iload_n X dM_dealtOf_35 rfl 1 rfl ?_
      refine j_iald X sh_105 dM_dealtOf_36 hf (fun x2 hf => ?_)
      refine j_ineg X dM_dealtOf_37 ?_
      refine j_i2l X rfl dM_dealtOf_38 ?_
      refine j_lconst X (v := 0) dM_dealtOf_39 rfl ?_
      show bz_J _ _ 40 _ _ _
      refine j_lload_n X dM_dealtOf_40 rfl 3 rfl ?_
      refine j_cs X (st := []) (cM_near E) gyM_near wd_1559 rfl (by decide) (by decide) wd_1558 rfl (Nat.le_of_ble_eq_true rfl) dM_dealtOf_41 ?_
      refine j_lneg X dM_dealtOf_44 ?_
      cases hf
      exact j_lret X dM_dealtOf_45 rfl rfl
    · refine j_aload_n X dM_dealtOf_21 rfl 0 rfl ?_
      refine j_geta X gf_M_80_81 dM_dealtOf_22 ?_
      refine j_iload_n X dM_dealtOf_25 rfl 1 rfl ?_
      refine j_iald X sh_105 dM_dealtOf_26 hf (fun x3 hf => ?_)
      refine j_i2l X rfl dM_dealtOf_27 ?_
      refine j_goto X (tgt := 45) dM_dealtOf_28 (by decide) ?_
      cases hf
      exact j_lret X dM_dealtOf_45 rfl rfl
  · refine j_aload_n X dM_dealtOf_4 rfl 0 rfl ?_
    refine j_geta X gf_M_86_81 dM_dealtOf_5 ?_
    refine j_iload_n X dM_dealtOf_8 rfl 1 rfl ?_
    refine j_iald X sh_107 dM_dealtOf_9 hf (fun x4 hf => ?_)
    refine j_i2l X rfl dM_dealtOf_10 ?_
    cases hf
    exact j_lret X dM_dealtOf_11 rfl rfl
def M_flow_L6 (F : Nat) : Nat → Int → Int → Int → Int → Int → bz_Mm → Option (bz_Mm)
  | 0, _, _, _, _, _, _ => none
  | n + 1, l4, l1, l2, l3, l6, M =>
    if w32 l6 < 20 then
    (ra_ l1 4 fun i1 =>
    rd_ M (206 + i1) l6 20 fun x2 =>
    wa_ M 222 l6 20 x2 fun m3 =>
    M_flow_L6 F n l4 l1 l2 l3 (l6 + 1) m3)
    else
    (some M)
def M_flow_L38 (F : Nat) : Nat → Int → Int → Int → Int → Int → bz_Mm → Option (Int × bz_Mm)
  | 0, _, _, _, _, _, _ => none
  | n + 1, l1, l2, l3, l6, l4, M =>
    if w32 l6 < w32 (M 81 35) then
    (rd_ M 104 l6 200 fun x5 =>
    if w32 x5 = w32 l1 then
    (rd_ M 106 l6 200 fun x6 =>
    if w32 x6 = w32 l2 then
    (rd_ M 103 l6 200 fun x7 =>
    rd_ M 222 x7 20 fun x8 =>
    cl_ (fM_dealtOf F M l6 l3 x8) fun x9 =>
    rd_ M 103 l6 200 fun x10 =>
    rd_ M 222 x10 20 fun x11 =>
    wa_ M 222 x10 20 (x11 + x9) fun m12 =>
    lt_ (l4 + x9) fun l4 =>
    M_flow_L38 F n l1 l2 l3 (l6 + 1) l4 m12)
    else
    (M_flow_L38 F n l1 l2 l3 (l6 + 1) l4 M))
    else
    (M_flow_L38 F n l1 l2 l3 (l6 + 1) l4 M))
    else
    (some (l4, M))
theorem lM_flow_L6 (E : bz_E) (F : Nat) {K : bz_K} {rv : Option Value} {M1 : bz_Mm} (X : bz_X K E prog_14_method_53_code 9 "UnitsWrongModel" (some .long) 2 49 rv M1) {l4 : Int} {l1 : Int} {l2 : Int} {l3 : Int} {res : (bz_Mm)}
    (kx : ∀ (M : bz_Mm), some M = some res → bz_J K 9 35 [(4, bz_l l4), (0, bz_rf E 81), (1, bz_i l1), (2, bz_i l2), (3, bz_i l3)] [] M) :
    ∀ (n : Nat) (l6 : Int) (M : bz_Mm), M_flow_L6 F n l4 l1 l2 l3 l6 M = some res → bz_J K 9 6 [(6, bz_i l6), (4, bz_l l4), (0, bz_rf E 81), (1, bz_i l1), (2, bz_i l2), (3, bz_i l3)] [] M := by
  intro n
  induction n with
  | zero => intro l6 M hf; cases hf
  | succ n ih =>
    intro l6 M hf
    rw [M_flow_L6] at hf
    refine j_iload X dM_flow_6 0 rfl ?_
    refine j_bipush X dM_flow_8 rfl ?_
    refine j_icmp_ge X (tgt := 35) rfl (w32_lit rfl) dM_flow_10 (by decide) hf (fun hf => ?_) (fun hf => ?_)
    · exact j_sub [1, 2, 3, 4, 5] rfl (kx _ hf)
    · refine j_aload_n X dM_flow_13 rfl 2 rfl ?_
      refine j_geta X gf_M_169_81 dM_flow_14 ?_
      refine j_iload X dM_flow_17 0 rfl ?_
      refine j_aload_n X dM_flow_19 rfl 2 rfl ?_
      refine j_geta X gf_M_154_81 dM_flow_20 ?_
      refine j_iload_n X dM_flow_23 rfl 3 rfl ?_
      refine j_aald X sh_205 (by decide) (by decide) dM_flow_24 hf (fun i1 hi1 hf => ?_)
      show bz_J _ _ 25 _ _ _
      refine j_iload X dM_flow_25 0 rfl ?_
      refine j_lald X (sr_205 i1 hi1) dM_flow_27 hf (fun x2 hf => ?_)
      refine j_last X sh_222 dM_flow_28 hf (fun m3 hf => ?_)
      refine j_iinc X (y := l6 + 1) (lv' := [(6, bz_i (l6 + 1)), (4, bz_l l4), (0, bz_rf E 81), (1, bz_i l1), (2, bz_i l2), (3, bz_i l3)]) dM_flow_29 0 rfl rfl (by decide) rfl ?_
      refine j_goto X (tgt := 6) dM_flow_32 (by decide) ?_
      exact ih _ _ hf
theorem lM_flow_L38 (E : bz_E) (F : Nat) {K : bz_K} {rv : Option Value} {M1 : bz_Mm} (X : bz_X K E prog_14_method_53_code 9 "UnitsWrongModel" (some .long) 2 49 rv M1) {l1 : Int} {l2 : Int} {l3 : Int} {res : (Int × bz_Mm)}
    (kx : ∀ (l4 : Int) (M : bz_Mm), some (l4, M) = some res → bz_J K 9 123 [(4, bz_l l4)] [] M) :
    ∀ (n : Nat) (l6 : Int) (l4 : Int) (M : bz_Mm), M_flow_L38 F n l1 l2 l3 l6 l4 M = some res → bz_J K 9 38 [(6, bz_i l6), (4, bz_l l4), (0, bz_rf E 81), (1, bz_i l1), (2, bz_i l2), (3, bz_i l3)] [] M := by
  intro n
  induction n with
  | zero => intro l6 l4 M hf; cases hf
  | succ n ih =>
    intro l6 l4 M hf
    rw [M_flow_L38] at hf
    refine j_iload X dM_flow_38 0 rfl ?_
    refine j_aload_n X dM_flow_40 rfl 2 rfl ?_
    refine j_geti X gf_M_302_81 dM_flow_41 ?_
    refine j_icmp_ge X (tgt := 123) rfl rfl dM_flow_44 (by decide) hf (fun hf => ?_) (fun hf => ?_)
    · exact j_sub [1] rfl (kx _ _ hf)
    · refine j_aload_n X dM_flow_47 rfl 2 rfl ?_
      refine j_geta X gf_M_77_81 dM_flow_48 ?_
      refine j_iload X dM_flow_51 0 rfl ?_
      refine j_iald X sh_104 dM_flow_53 hf (fun x5 hf => ?_)
      refine j_iload_n X dM_flow_54 rfl 3 rfl ?_
      refine j_icmp_ne X (tgt := 117) rfl rfl dM_flow_55 (by decide) hf (fun hf => ?_) (fun hf => ?_)
      · refine j_iinc X (y := l6 + 1) (lv' := [(6, bz_i (l6 + 1)), (4, bz_l l4), (0, bz_rf E 81), (1, bz_i l1), (2, bz_i l2), (3, bz_i l3)]) dM_flow_117 0 rfl rfl (by decide) rfl ?_
        refine j_goto X (tgt := 38) dM_flow_120 (by decide) ?_
        exact ih _ _ _ hf
      · refine j_aload_n X dM_flow_58 rfl 2 rfl ?_
        refine j_geta X gf_M_83_81 dM_flow_59 ?_
        refine j_iload X dM_flow_62 0 rfl ?_
        refine j_iald X sh_106 dM_flow_64 hf (fun x6 hf => ?_)
        refine j_iload_n X dM_flow_65 rfl 4 rfl ?_
        refine j_icmp_eq X (tgt := 72) rfl rfl dM_flow_66 (by decide) hf (fun hf => ?_) (fun hf => ?_)
        · refine j_aload_n X dM_flow_72 rfl 2 rfl ?_
          refine j_iload X dM_flow_73 0 rfl ?_
          refine j_iload_n X dM_flow_75 rfl 5 rfl ?_
          refine j_aload_n X dM_flow_76 rfl 2 rfl ?_
          refine j_geta X gf_M_169_81 dM_flow_77 ?_
          refine j_aload_n X dM_flow_80 rfl 2 rfl ?_
          refine j_geta X gf_M_74_81 dM_flow_81 ?_
          show bz_J _ _ 84 _ _ _
          refine j_iload X dM_flow_84 0 rfl ?_
          refine j_iald X sh_103 dM_flow_86 hf (fun x7 hf => ?_)
          refine j_lald X sh_222 dM_flow_87 hf (fun x8 hf => ?_)
          obtain ⟨x9, hzx9, hf⟩ := q_cl hf
          refine j_cv X (st := []) (cM_dealtOf E F hzx9) gyM_dealtOf gv_M_dealtOf_81 rfl (by decide) (by decide) wd_1662 rfl (Nat.le_of_ble_eq_true rfl) dM_flow_88 ?_
          refine j_lstore X (lv' := [(7, bz_l x9), (6, bz_i l6), (4, bz_l l4), (0, bz_rf E 81), (1, bz_i l1), (2, bz_i l2), (3, bz_i l3)]) dM_flow_91 (by decide) rfl ?_
          refine j_aload_n X dM_flow_93 rfl 3 rfl ?_
          refine j_geta X gf_M_169_81 dM_flow_94 ?_
          refine j_aload_n X dM_flow_97 rfl 3 rfl ?_
          show bz_J _ _ 98 _ _ _
          refine j_geta X gf_M_74_81 dM_flow_98 ?_
          refine j_iload X dM_flow_101 1 rfl ?_
          refine j_iald X sh_103 dM_flow_103 hf (fun x10 hf => ?_)
          refine j_dup2 X dM_flow_104 rfl rfl ?_
          refine j_lald X sh_222 dM_flow_105 hf (fun x11 hf => ?_)
          refine j_lload X dM_flow_106 0 rfl ?_
          refine j_ladd X dM_flow_108 ?_
          refine j_last X sh_222 dM_flow_109 hf (fun m12 hf => ?_)
          show bz_J _ _ 110 _ _ _
          refine j_lload X dM_flow_110 2 rfl ?_
          refine j_lload X dM_flow_112 0 rfl ?_
          refine j_ladd X dM_flow_114 ?_
          refine j_lt (g := bz_l) hf (fun l4 hf => ?_)
          refine j_lstore X (lv' := [(4, bz_l l4), (7, bz_l x9), (6, bz_i l6), (0, bz_rf E 81), (1, bz_i l1), (2, bz_i l2), (3, bz_i l3)]) dM_flow_115 (by decide) rfl ?_
          refine j_iinc X (y := l6 + 1) (lv' := [(6, bz_i (l6 + 1)), (4, bz_l l4), (7, bz_l x9), (0, bz_rf E 81), (1, bz_i l1), (2, bz_i l2), (3, bz_i l3)]) dM_flow_117 2 rfl rfl (by decide) rfl ?_
          refine j_goto X (tgt := 38) dM_flow_120 (by decide) ?_
          exact j_sub [0, 1, 3, 4, 5, 6] rfl (ih _ _ _ hf)
        · refine j_goto X (tgt := 117) dM_flow_69 (by decide) ?_
          refine j_iinc X (y := l6 + 1) (lv' := [(6, bz_i (l6 + 1)), (4, bz_l l4), (0, bz_rf E 81), (1, bz_i l1), (2, bz_i l2), (3, bz_i l3)]) dM_flow_117 0 rfl rfl (by decide) rfl ?_
          refine j_goto X (tgt := 38) dM_flow_120 (by decide) ?_
          exact ih _ _ _ hf
def fM_flow (F : Nat) (M : bz_Mm) (a1 : Int) (a2 : Int) (a3 : Int) : Option (Int × bz_Mm) :=
  cl1_ (M_flow_L6 F F 0 a1 a2 a3 0 M) fun m4 =>
  cl2_ (M_flow_L38 F F a1 a2 a3 0 0 m4) fun l4 m13 =>
  some ((l4, m13))
set_option maxHeartbeats 4000000 in
set_option maxRecDepth 20000 in
theorem cM_flow (E : bz_E) (F : Nat)  {M : bz_Mm} {a1 : Int} {a2 : Int} {a3 : Int} {x0 : Int × bz_Mm} (hf : fM_flow F M a1 a2 a3 = some x0) : bz_Ct E yM_flow (.code yM_flow prog_14_method_53_code 9 (some .long)) 2 49 [bz_rf E 81, bz_i a1, bz_i a2, bz_i a3] M (some (bz_l x0.1)) x0.2 := by
  refine bz_met (by decide +kernel) (Nat.le_of_ble_eq_true rfl) (fun K X => ?_)
  have X : bz_X K E prog_14_method_53_code 9 "UnitsWrongModel" (some .long) 2 49 _ _ := X
  unfold fM_flow at hf
  show bz_J K 9 0 [(0, bz_rf E 81), (1, bz_i a1), (2, bz_i a2), (3, bz_i a3)] [] M
  refine j_lconst X (v := 0) dM_flow_0 rfl ?_
  refine j_lstore X (lv' := [(4, bz_l 0), (0, bz_rf E 81), (1, bz_i a1), (2, bz_i a2), (3, bz_i a3)]) dM_flow_1 (by decide) rfl ?_
  refine j_iconst X dM_flow_3 ?_
  refine j_istore X (lv' := [(6, bz_i 0), (4, bz_l 0), (0, bz_rf E 81), (1, bz_i a1), (2, bz_i a2), (3, bz_i a3)]) dM_flow_4 (by decide) rfl ?_
  obtain ⟨res15, hz15, hk15⟩ := q_l1 hf
  clear hf
  refine lM_flow_L6 E F X (fun m4 he => ?_) F 0 M hz15
  have hf := hk15 _ he
  refine j_iconst X dM_flow_35 ?_
  refine j_istore X (lv' := [(6, bz_i 0), (4, bz_l 0), (0, bz_rf E 81), (1, bz_i a1), (2, bz_i a2), (3, bz_i a3)]) dM_flow_36 (by decide) rfl ?_
  obtain ⟨res14, hz14, hk14⟩ := q_l2 hf
  clear hf
  refine lM_flow_L38 E F X (fun l4 m13 he => ?_) F 0 0 m4 hz14
  have hf := hk14 _ _ he
  refine j_lload X dM_flow_123 0 rfl ?_
  cases hf
  exact j_lret X dM_flow_125 rfl rfl
def fM_swung (F : Nat) (M : bz_Mm) (a1 : Int) (a2 : Int) (a3 : Int) (a4 : Int) : Option (Int) :=
  cl1_ (if w64 a4 < 0 then
  (some (-a4))
  else
  (some (a4))) fun v2 =>
  cl_ (fM_ruleOf F M a1 a2 2) fun x3 =>
  rd_ M 210 a1 4 fun x4 =>
  if w64 ((w32 x3) * x4) < w64 (10000 * v2) then
  (cl1_ (if w64 a4 < 0 then
  (cl_ (fM_ruleOf F M a1 a2 1) fun x8 =>
  some (10000 - (w32 x8)))
  else
  (cl_ (fM_ruleOf F M a1 a2 1) fun x7 =>
  some (10000 + (w32 x7)))) fun v6 =>
  some (fM_near ((w64 (a3 * v6)).tdiv 10000) 0 10000000))
  else
  (some a3)
set_option maxHeartbeats 4000000 in
set_option maxRecDepth 20000 in
theorem cM_swung (E : bz_E) (F : Nat)  {M : bz_Mm} {a1 : Int} {a2 : Int} {a3 : Int} {a4 : Int} {x0 : Int} (hf : fM_swung F M a1 a2 a3 a4 = some x0) : bz_Ct E yM_swung (.code yM_swung prog_14_method_54_code 11 (some .long)) 1 25 [bz_rf E 81, bz_i a1, bz_i a2, bz_l a3, bz_l a4] M (some (bz_l x0)) M := by
  refine bz_met (by decide +kernel) (Nat.le_of_ble_eq_true rfl) (fun K X => ?_)
  have X : bz_X K E prog_14_method_54_code 11 "UnitsWrongModel" (some .long) 1 25 _ _ := X
  unfold fM_swung at hf
  show bz_J K 11 0 [(0, bz_rf E 81), (1, bz_i a1), (2, bz_i a2), (3, bz_l a3), (5, bz_l a4)] [] M
  refine j_lload X dM_swung_0 4 rfl ?_
  refine j_lconst X (v := 0) dM_swung_2 rfl ?_
  obtain ⟨resJ1, hf0, hkJ1⟩ := q_l1 hf
  have J1 : ∀ (v2 : Int), some v2 = some resJ1 → bz_J K 11 15 [(0, bz_rf E 81), (1, bz_i a1), (2, bz_i a2), (3, bz_l a3), (5, bz_l a4)] [bz_l v2] M := by
    intro v2 he
    have hf := hkJ1 _ he
    refine j_lstore X (lv' := [(7, bz_l v2), (0, bz_rf E 81), (1, bz_i a1), (2, bz_i a2), (3, bz_l a3), (5, bz_l a4)]) dM_swung_15 (by decide) rfl ?_
    refine j_ldc2 X (v := 10000) wd_1437 dM_swung_17 ?_
    refine j_lload X dM_swung_20 0 rfl ?_
    refine j_lmul X dM_swung_22 ?_
    refine j_aload_n X dM_swung_23 rfl 1 rfl ?_
    refine j_iload_n X dM_swung_24 rfl 2 rfl ?_
    refine j_iload_n X dM_swung_25 rfl 3 rfl ?_
    show bz_J _ _ 26 _ _ _
    refine j_iconst X dM_swung_26 ?_
    obtain ⟨x3, hzx3, hf⟩ := q_cl hf
    refine j_cv X (st := [bz_l (10000 * v2)]) (cM_ruleOf E F hzx3) gyM_ruleOf gv_M_ruleOf_81 rfl (by decide) (by decide) wd_1499 rfl (Nat.le_of_ble_eq_true rfl) dM_swung_27 ?_
    refine j_i2l X rfl dM_swung_30 ?_
    refine j_aload_n X dM_swung_31 rfl 1 rfl ?_
    refine j_geta X gf_M_157_81 dM_swung_32 ?_
    refine j_iload_n X dM_swung_35 rfl 2 rfl ?_
    refine j_lald X sh_210 dM_swung_36 hf (fun x4 hf => ?_)
    refine j_lmul X dM_swung_37 ?_
    show bz_J _ _ 38 _ _ _
    refine j_lcmp_gt X (tgt := 44) rfl rfl dM_swung_38 dM_swung_39 (by decide) hf (fun hf => ?_) (fun hf => ?_)
    · refine j_lload X dM_swung_44 5 rfl ?_
      refine j_lconst X (v := 0) dM_swung_46 rfl ?_
      obtain ⟨resJ5, hf0, hkJ5⟩ := q_l1 hf
      have J5 : ∀ (v6 : Int), some v6 = some resJ5 → bz_J K 11 78 [(3, bz_l a3)] [bz_l v6] M := by
        intro v6 he
        have hf := hkJ5 _ he
        refine j_lstore X (lv' := [(9, bz_l v6), (3, bz_l a3)]) dM_swung_78 (by decide) rfl ?_
        refine j_lload_n X dM_swung_80 rfl 1 rfl ?_
        refine j_lload X dM_swung_81 0 rfl ?_
        refine j_lmul X dM_swung_83 ?_
        refine j_ldc2 X (v := 10000) wd_1437 dM_swung_84 ?_
        refine j_ldl X (w64_lit rfl) (by decide) dM_swung_87 ?_
        refine j_lconst X (v := 0) dM_swung_88 rfl ?_
        show bz_J _ _ 89 _ _ _
        refine j_ldc2 X (v := 10000000) wd_1657 dM_swung_89 ?_
        refine j_cs X (st := []) (cM_near E) gyM_near wd_1559 rfl (by decide) (by decide) wd_1558 rfl (Nat.le_of_ble_eq_true rfl) dM_swung_92 ?_
        cases hf
        exact j_lret X dM_swung_95 rfl rfl
      clear hf
      have hf := hf0
      clear hf0
      refine j_lcmp_ge X (tgt := 66) rfl (w64_lit rfl) dM_swung_47 dM_swung_48 (by decide) hf (fun hf => ?_) (fun hf => ?_)
      · refine j_ldc2 X (v := 10000) wd_1437 dM_swung_66 ?_
        refine j_aload_n X dM_swung_69 rfl 1 rfl ?_
        refine j_iload_n X dM_swung_70 rfl 2 rfl ?_
        refine j_iload_n X dM_swung_71 rfl 3 rfl ?_
        refine j_iconst X dM_swung_72 ?_
        obtain ⟨x7, hzx7, hf⟩ := q_cl hf
        refine j_cv X (st := [bz_l 10000]) (cM_ruleOf E F hzx7) gyM_ruleOf gv_M_ruleOf_81 rfl (by decide) (by decide) wd_1499 rfl (Nat.le_of_ble_eq_true rfl) dM_swung_73 ?_
        refine j_i2l X rfl dM_swung_76 ?_
        show bz_J _ _ 77 _ _ _
        refine j_ladd X dM_swung_77 ?_
        exact j_sub [4] rfl (J5 _ hf)
      · refine j_ldc2 X (v := 10000) wd_1437 dM_swung_51 ?_
        refine j_aload_n X dM_swung_54 rfl 1 rfl ?_
        refine j_iload_n X dM_swung_55 rfl 2 rfl ?_
        refine j_iload_n X dM_swung_56 rfl 3 rfl ?_
        refine j_iconst X dM_swung_57 ?_
        obtain ⟨x8, hzx8, hf⟩ := q_cl hf
        refine j_cv X (st := [bz_l 10000]) (cM_ruleOf E F hzx8) gyM_ruleOf gv_M_ruleOf_81 rfl (by decide) (by decide) wd_1499 rfl (Nat.le_of_ble_eq_true rfl) dM_swung_58 ?_
        refine j_i2l X rfl dM_swung_61 ?_
        show bz_J _ _ 62 _ _ _
        refine j_lsub X dM_swung_62 ?_
        refine j_goto X (tgt := 78) dM_swung_63 (by decide) ?_
        exact j_sub [4] rfl (J5 _ hf)
    · refine j_lload_n X dM_swung_42 rfl 4 rfl ?_
      cases hf
      exact j_lret X dM_swung_43 rfl rfl
  clear hf
  have hf := hf0
  clear hf0
  refine j_lcmp_ge X (tgt := 13) rfl (w64_lit rfl) dM_swung_3 dM_swung_4 (by decide) hf (fun hf => ?_) (fun hf => ?_)
  · refine j_lload X dM_swung_13 4 rfl ?_
    exact J1 _ hf
  · refine j_lload X dM_swung_7 4 rfl ?_
    refine j_lneg X dM_swung_9 ?_
    refine j_goto X (tgt := 15) dM_swung_10 (by decide) ?_
    exact J1 _ hf
def fM_prices (F : Nat) (M : bz_Mm) (a1 : Int) (a2 : Int) (a3 : Int) : Option (bz_Mm) :=
  cl_ (fM_assets F M a1 a2) fun x1 =>
  cl1_ (if w64 x1 < 0 then
  (some (0))
  else
  (cl_ (fM_ruleOf F M a1 a2 0) fun x4 =>
  some ((w64 (x1 * (w32 x4))).tdiv 1000000))) fun v3 =>
  rd_ M 188 a1 4 fun x5 =>
  wa_ M 188 a1 4 (x5 - v3) fun m6 =>
  ra_ a1 4 fun i7 =>
  wa_ m6 (201 + i7) a2 260 v3 fun m8 =>
  rd_ m8 210 a1 4 fun x9 =>
  cl1_ (if w64 x9 = 0 then
  (some (10000))
  else
  (rd_ m8 210 a1 4 fun x12 =>
  dv_ ((x1 - v3) * 100) x12 fun x13 =>
  some (fM_near x13 0 10000000))) fun v11 =>
  ra_ a1 4 fun i14 =>
  cl2_ (fM_flow F m8 a1 a2 a3) fun x16 m15 =>
  cl_ (fM_swung F m15 a1 a2 v11 x16) fun x17 =>
  wa_ m15 (196 + i14) a2 260 x17 fun m18 =>
  some m18
set_option maxHeartbeats 4000000 in
set_option maxRecDepth 20000 in
theorem cM_prices (E : bz_E) (F : Nat)  {M : bz_Mm} {a1 : Int} {a2 : Int} {a3 : Int} {x0 : bz_Mm} (hf : fM_prices F M a1 a2 a3 = some x0) : bz_Ct E yM_prices (.code yM_prices prog_14_method_55_code 10 none) 3 77 [bz_rf E 81, bz_i a1, bz_i a2, bz_i a3] M (none) x0 := by
  refine bz_met (by decide +kernel) (Nat.le_of_ble_eq_true rfl) (fun K X => ?_)
  have X : bz_X K E prog_14_method_55_code 10 "UnitsWrongModel" none 3 77 _ _ := X
  unfold fM_prices at hf
  show bz_J K 10 0 [(0, bz_rf E 81), (1, bz_i a1), (2, bz_i a2), (3, bz_i a3)] [] M
  refine j_aload_n X dM_prices_0 rfl 0 rfl ?_
  refine j_iload_n X dM_prices_1 rfl 1 rfl ?_
  refine j_iload_n X dM_prices_2 rfl 2 rfl ?_
  obtain ⟨x1, hzx1, hf⟩ := q_cl hf
  refine j_cv X (st := []) (cM_assets E F hzx1) gyM_assets gv_M_assets_81 rfl (by decide) (by decide) wd_1653 rfl (Nat.le_of_ble_eq_true rfl) dM_prices_3 ?_
  refine j_lstore X (lv' := [(4, bz_l x1), (0, bz_rf E 81), (1, bz_i a1), (2, bz_i a2), (3, bz_i a3)]) dM_prices_6 (by decide) rfl ?_
  refine j_lload X dM_prices_8 0 rfl ?_
  refine j_lconst X (v := 0) dM_prices_10 rfl ?_
  show bz_J _ _ 11 _ _ _
  obtain ⟨resJ2, hf0, hkJ2⟩ := q_l1 hf
  have J2 : ∀ (v3 : Int), some v3 = some resJ2 → bz_J K 10 34 [(4, bz_l x1), (0, bz_rf E 81), (1, bz_i a1), (2, bz_i a2), (3, bz_i a3)] [bz_l v3] M := by
    intro v3 he
    have hf := hkJ2 _ he
    refine j_lstore X (lv' := [(6, bz_l v3), (4, bz_l x1), (0, bz_rf E 81), (1, bz_i a1), (2, bz_i a2), (3, bz_i a3)]) dM_prices_34 (by decide) rfl ?_
    refine j_aload_n X dM_prices_36 rfl 2 rfl ?_
    refine j_geta X gf_M_137_81 dM_prices_37 ?_
    refine j_iload_n X dM_prices_40 rfl 3 rfl ?_
    refine j_dup2 X dM_prices_41 rfl rfl ?_
    refine j_lald X sh_188 dM_prices_42 hf (fun x5 hf => ?_)
    refine j_lload X dM_prices_43 0 rfl ?_
    show bz_J _ _ 45 _ _ _
    refine j_lsub X dM_prices_45 ?_
    refine j_last X sh_188 dM_prices_46 hf (fun m6 hf => ?_)
    refine j_aload_n X dM_prices_47 rfl 2 rfl ?_
    refine j_geta X gf_M_151_81 dM_prices_48 ?_
    refine j_iload_n X dM_prices_51 rfl 3 rfl ?_
    refine j_aald X sh_200 (by decide) (by decide) dM_prices_52 hf (fun i7 hi7 hf => ?_)
    refine j_iload_n X dM_prices_53 rfl 4 rfl ?_
    refine j_lload X dM_prices_54 0 rfl ?_
    show bz_J _ _ 56 _ _ _
    refine j_last X (sr_200 i7 hi7) dM_prices_56 hf (fun m8 hf => ?_)
    refine j_aload_n X dM_prices_57 rfl 2 rfl ?_
    refine j_geta X gf_M_157_81 dM_prices_58 ?_
    refine j_iload_n X dM_prices_61 rfl 3 rfl ?_
    refine j_lald X sh_210 dM_prices_62 hf (fun x9 hf => ?_)
    refine j_lconst X (v := 0) dM_prices_63 rfl ?_
    obtain ⟨resJ10, hf0, hkJ10⟩ := q_l1 hf
    have J10 : ∀ (v11 : Int), some v11 = some resJ10 → bz_J K 10 97 [(0, bz_rf E 81), (1, bz_i a1), (2, bz_i a2), (3, bz_i a3)] [bz_l v11] m8 := by
      intro v11 he
      have hf := hkJ10 _ he
      refine j_lstore X (lv' := [(8, bz_l v11), (0, bz_rf E 81), (1, bz_i a1), (2, bz_i a2), (3, bz_i a3)]) dM_prices_97 (by decide) rfl ?_
      refine j_aload_n X dM_prices_99 rfl 1 rfl ?_
      refine j_geta X gf_M_148_81 dM_prices_100 ?_
      refine j_iload_n X dM_prices_103 rfl 2 rfl ?_
      refine j_aald X sh_195 (by decide) (by decide) dM_prices_104 hf (fun i14 hi14 hf => ?_)
      refine j_iload_n X dM_prices_105 rfl 3 rfl ?_
      refine j_aload_n X dM_prices_106 rfl 1 rfl ?_
      show bz_J _ _ 107 _ _ _
      refine j_iload_n X dM_prices_107 rfl 2 rfl ?_
      refine j_iload_n X dM_prices_108 rfl 3 rfl ?_
      refine j_lload X dM_prices_109 0 rfl ?_
      refine j_aload_n X dM_prices_111 rfl 1 rfl ?_
      refine j_iload_n X dM_prices_112 rfl 2 rfl ?_
      refine j_iload_n X dM_prices_113 rfl 3 rfl ?_
      refine j_iload_n X dM_prices_114 rfl 4 rfl ?_
      obtain ⟨x16, m15, hz, hf⟩ := q_cl2 hf
      refine j_cv X (st := [bz_l v11, bz_i a2, bz_i a1, bz_rf E 81, bz_i a2, bz_rf E (196 + i14)]) (cM_flow E F hz) gyM_flow gv_M_flow_81 rfl (by decide) (by decide) wd_1658 rfl (Nat.le_of_ble_eq_true rfl) dM_prices_115 ?_
      clear hz
      show bz_J _ _ 118 _ _ _
      obtain ⟨x17, hzx17, hf⟩ := q_cl hf
      refine j_cv X (st := [bz_i a2, bz_rf E (196 + i14)]) (cM_swung E F hzx17) gyM_swung gv_M_swung_81 rfl (by decide) (by decide) wd_1666 rfl (Nat.le_of_ble_eq_true rfl) dM_prices_118 ?_
      refine j_last X (sr_195 i14 hi14) dM_prices_121 hf (fun m18 hf => ?_)
      cases hf
      exact j_vret X dM_prices_122 rfl rfl
    clear hf
    have hf := hf0
    clear hf0
    refine j_lcmp_ne X (tgt := 74) rfl (w64_lit rfl) dM_prices_64 dM_prices_65 (by decide) hf (fun hf => ?_) (fun hf => ?_)
    · refine j_lload X dM_prices_74 1 rfl ?_
      refine j_lload X dM_prices_76 0 rfl ?_
      refine j_lsub X dM_prices_78 ?_
      refine j_ldc2 X (v := 100) wd_1440 dM_prices_79 ?_
      refine j_lmul X dM_prices_82 ?_
      refine j_aload_n X dM_prices_83 rfl 2 rfl ?_
      refine j_geta X gf_M_157_81 dM_prices_84 ?_
      show bz_J _ _ 87 _ _ _
      refine j_iload_n X dM_prices_87 rfl 3 rfl ?_
      refine j_lald X sh_210 dM_prices_88 hf (fun x12 hf => ?_)
      refine j_ldiv X dM_prices_89 hf (fun x13 hf => ?_)
      refine j_lconst X (v := 0) dM_prices_90 rfl ?_
      refine j_ldc2 X (v := 10000000) wd_1657 dM_prices_91 ?_
      refine j_cs X (st := []) (cM_near E) gyM_near wd_1559 rfl (by decide) (by decide) wd_1558 rfl (Nat.le_of_ble_eq_true rfl) dM_prices_94 ?_
      exact j_sub [2, 3, 4, 5] rfl (J10 _ hf)
    · refine j_ldc2 X (v := 10000) wd_1437 dM_prices_68 ?_
      refine j_goto X (tgt := 97) dM_prices_71 (by decide) ?_
      exact j_sub [2, 3, 4, 5] rfl (J10 _ hf)
  clear hf
  have hf := hf0
  clear hf0
  refine j_lcmp_ge X (tgt := 19) rfl (w64_lit rfl) dM_prices_11 dM_prices_12 (by decide) hf (fun hf => ?_) (fun hf => ?_)
  · refine j_lload X dM_prices_19 0 rfl ?_
    refine j_aload_n X dM_prices_21 rfl 1 rfl ?_
    refine j_iload_n X dM_prices_22 rfl 2 rfl ?_
    refine j_iload_n X dM_prices_23 rfl 3 rfl ?_
    refine j_iconst X dM_prices_24 ?_
    obtain ⟨x4, hzx4, hf⟩ := q_cl hf
    refine j_cv X (st := [bz_l x1]) (cM_ruleOf E F hzx4) gyM_ruleOf gv_M_ruleOf_81 rfl (by decide) (by decide) wd_1499 rfl (Nat.le_of_ble_eq_true rfl) dM_prices_25 ?_
    refine j_i2l X rfl dM_prices_28 ?_
    show bz_J _ _ 29 _ _ _
    refine j_lmul X dM_prices_29 ?_
    refine j_ldc2 X (v := 1000000) wd_1644 dM_prices_30 ?_
    refine j_ldl X (w64_lit rfl) (by decide) dM_prices_33 ?_
    exact J2 _ hf
  · refine j_lconst X (v := 0) dM_prices_15 rfl ?_
    refine j_goto X (tgt := 34) dM_prices_16 (by decide) ?_
    exact J2 _ hf
def M_deals_L3 (F : Nat) : Nat → Int → Int → Int → Int → Int → bz_Mm → Option (bz_Mm)
  | 0, _, _, _, _, _, _ => none
  | n + 1, l1, l2, l3, l4, l5, M =>
    if w32 l5 < w32 (M 81 35) then
    (rd_ M 104 l5 200 fun x1 =>
    if w32 x1 = w32 l1 then
    (rd_ M 106 l5 200 fun x2 =>
    if w32 x2 = w32 l2 then
    (ra_ l1 4 fun i3 =>
    rd_ M 103 l5 200 fun x4 =>
    rd_ M (206 + i3) x4 20 fun x5 =>
    cl_ (fM_dealtOf F M l5 l4 x5) fun x6 =>
    cl1_ (if w32 l3 = 0 then
    (if 0 < w64 x6 then
    (ra_ l1 4 fun i11 =>
    rd_ M (196 + i11) l2 260 fun x12 =>
    wa_ M 189 l5 200 ((w64 ((x6 * x12) + 99)).tdiv 100) fun m13 =>
    some (m13))
    else
    (ra_ l1 4 fun i8 =>
    rd_ M (196 + i8) l2 260 fun x9 =>
    wa_ M 189 l5 200 ((w64 ((-x6) * x9)).tdiv 100) fun m10 =>
    some (m10)))
    else
    (rd_ M 109 l5 200 fun x14 =>
    wa_ M 189 l5 200 x14 fun m15 =>
    some (m15))) fun m16 =>
    rd_ m16 188 l1 4 fun x17 =>
    cl1_ (if 0 < w64 x6 then
    (rd_ m16 189 l5 200 fun x21 =>
    some (x21))
    else
    (rd_ m16 189 l5 200 fun x20 =>
    some (-x20))) fun v19 =>
    wa_ m16 188 l1 4 (x17 + v19) fun m22 =>
    ra_ l1 4 fun i23 =>
    rd_ m22 103 l5 200 fun x24 =>
    rd_ m22 (206 + i23) x24 20 fun x25 =>
    wa_ m22 (206 + i23) x24 20 (x25 + x6) fun m26 =>
    rd_ m26 210 l1 4 fun x27 =>
    wa_ m26 210 l1 4 (x27 + x6) fun m28 =>
    if w32 l4 = 0 then
    (M_deals_L3 F n l1 l2 l3 l4 (l5 + 1) m28)
    else
    (wa_ m28 107 l5 200 x6 fun m29 =>
    M_deals_L3 F n l1 l2 l3 l4 (l5 + 1) m29))
    else
    (M_deals_L3 F n l1 l2 l3 l4 (l5 + 1) M))
    else
    (M_deals_L3 F n l1 l2 l3 l4 (l5 + 1) M))
    else
    (some M)
theorem lM_deals_L3 (E : bz_E) (F : Nat) {K : bz_K} {rv : Option Value} {M1 : bz_Mm} (X : bz_X K E prog_14_method_56_code 8 "UnitsWrongModel" none 2 49 rv M1) {l1 : Int} {l2 : Int} {l3 : Int} {l4 : Int} {res : (bz_Mm)}
    (kx : ∀ (M : bz_Mm), some M = some res → bz_J K 8 219 [] [] M) :
    ∀ (n : Nat) (l5 : Int) (M : bz_Mm), M_deals_L3 F n l1 l2 l3 l4 l5 M = some res → bz_J K 8 3 [(5, bz_i l5), (0, bz_rf E 81), (1, bz_i l1), (2, bz_i l2), (3, bz_i l3), (4, bz_i l4)] [] M := by
  intro n
  induction n with
  | zero => intro l5 M hf; cases hf
  | succ n ih =>
    intro l5 M hf
    rw [M_deals_L3] at hf
    refine j_iload X dM_deals_3 0 rfl ?_
    refine j_aload_n X dM_deals_5 rfl 1 rfl ?_
    refine j_geti X gf_M_302_81 dM_deals_6 ?_
    refine j_icmp_ge X (tgt := 219) rfl rfl dM_deals_9 (by decide) hf (fun hf => ?_) (fun hf => ?_)
    · exact j_sub [] rfl (kx _ hf)
    · refine j_aload_n X dM_deals_12 rfl 1 rfl ?_
      refine j_geta X gf_M_77_81 dM_deals_13 ?_
      refine j_iload X dM_deals_16 0 rfl ?_
      refine j_iald X sh_104 dM_deals_18 hf (fun x1 hf => ?_)
      refine j_iload_n X dM_deals_19 rfl 2 rfl ?_
      refine j_icmp_ne X (tgt := 213) rfl rfl dM_deals_20 (by decide) hf (fun hf => ?_) (fun hf => ?_)
      · refine j_iinc X (y := l5 + 1) (lv' := [(5, bz_i (l5 + 1)), (0, bz_rf E 81), (1, bz_i l1), (2, bz_i l2), (3, bz_i l3), (4, bz_i l4)]) dM_deals_213 0 rfl rfl (by decide) rfl ?_
        refine j_goto X (tgt := 3) dM_deals_216 (by decide) ?_
        exact ih _ _ hf
      · refine j_aload_n X dM_deals_23 rfl 1 rfl ?_
        refine j_geta X gf_M_83_81 dM_deals_24 ?_
        refine j_iload X dM_deals_27 0 rfl ?_
        refine j_iald X sh_106 dM_deals_29 hf (fun x2 hf => ?_)
        refine j_iload_n X dM_deals_30 rfl 3 rfl ?_
        refine j_icmp_eq X (tgt := 37) rfl rfl dM_deals_31 (by decide) hf (fun hf => ?_) (fun hf => ?_)
        · refine j_aload_n X dM_deals_37 rfl 1 rfl ?_
          refine j_iload X dM_deals_38 0 rfl ?_
          refine j_iload X dM_deals_40 5 rfl ?_
          refine j_aload_n X dM_deals_42 rfl 1 rfl ?_
          refine j_geta X gf_M_154_81 dM_deals_43 ?_
          refine j_iload_n X dM_deals_46 rfl 2 rfl ?_
          refine j_aald X sh_205 (by decide) (by decide) dM_deals_47 hf (fun i3 hi3 hf => ?_)
          show bz_J _ _ 48 _ _ _
          refine j_aload_n X dM_deals_48 rfl 1 rfl ?_
          refine j_geta X gf_M_74_81 dM_deals_49 ?_
          refine j_iload X dM_deals_52 0 rfl ?_
          refine j_iald X sh_103 dM_deals_54 hf (fun x4 hf => ?_)
          refine j_lald X (sr_205 i3 hi3) dM_deals_55 hf (fun x5 hf => ?_)
          obtain ⟨x6, hzx6, hf⟩ := q_cl hf
          refine j_cv X (st := []) (cM_dealtOf E F hzx6) gyM_dealtOf gv_M_dealtOf_81 rfl (by decide) (by decide) wd_1662 rfl (Nat.le_of_ble_eq_true rfl) dM_deals_56 ?_
          refine j_lstore X (lv' := [(6, bz_l x6), (5, bz_i l5), (0, bz_rf E 81), (1, bz_i l1), (2, bz_i l2), (3, bz_i l3), (4, bz_i l4)]) dM_deals_59 (by decide) rfl ?_
          refine j_iload_n X dM_deals_61 rfl 5 rfl ?_
          show bz_J _ _ 62 _ _ _
          obtain ⟨resJ7, hf0, hkJ7⟩ := q_l1 hf
          have J7 : ∀ (m16 : bz_Mm), some m16 = some resJ7 → bz_J K 8 134 [(6, bz_l x6), (5, bz_i l5), (0, bz_rf E 81), (1, bz_i l1), (2, bz_i l2), (3, bz_i l3), (4, bz_i l4)] [] m16 := by
            intro m16 he
            have hf := hkJ7 _ he
            refine j_aload_n X dM_deals_134 rfl 2 rfl ?_
            refine j_geta X gf_M_137_81 dM_deals_135 ?_
            refine j_iload_n X dM_deals_138 rfl 3 rfl ?_
            refine j_dup2 X dM_deals_139 rfl rfl ?_
            refine j_lald X sh_188 dM_deals_140 hf (fun x17 hf => ?_)
            refine j_lload X dM_deals_141 0 rfl ?_
            refine j_lconst X (v := 0) dM_deals_143 rfl ?_
            show bz_J _ _ 144 _ _ _
            obtain ⟨resJ18, hf0, hkJ18⟩ := q_l1 hf
            have J18 : ∀ (v19 : Int), some v19 = some resJ18 → bz_J K 8 166 [(6, bz_l x6), (5, bz_i l5), (0, bz_rf E 81), (1, bz_i l1), (2, bz_i l2), (3, bz_i l3), (4, bz_i l4)] [bz_l v19, bz_l x17, bz_i l1, bz_rf E 188] m16 := by
              intro v19 he
              have hf := hkJ18 _ he
              refine j_ladd X dM_deals_166 ?_
              refine j_last X sh_188 dM_deals_167 hf (fun m22 hf => ?_)
              refine j_aload_n X dM_deals_168 rfl 2 rfl ?_
              refine j_geta X gf_M_154_81 dM_deals_169 ?_
              refine j_iload_n X dM_deals_172 rfl 3 rfl ?_
              refine j_aald X sh_205 (by decide) (by decide) dM_deals_173 hf (fun i23 hi23 hf => ?_)
              refine j_aload_n X dM_deals_174 rfl 2 rfl ?_
              show bz_J _ _ 175 _ _ _
              refine j_geta X gf_M_74_81 dM_deals_175 ?_
              refine j_iload X dM_deals_178 1 rfl ?_
              refine j_iald X sh_103 dM_deals_180 hf (fun x24 hf => ?_)
              refine j_dup2 X dM_deals_181 rfl rfl ?_
              refine j_lald X (sr_205 i23 hi23) dM_deals_182 hf (fun x25 hf => ?_)
              refine j_lload X dM_deals_183 0 rfl ?_
              refine j_ladd X dM_deals_185 ?_
              refine j_last X (sr_205 i23 hi23) dM_deals_186 hf (fun m26 hf => ?_)
              show bz_J _ _ 187 _ _ _
              refine j_aload_n X dM_deals_187 rfl 2 rfl ?_
              refine j_geta X gf_M_157_81 dM_deals_188 ?_
              refine j_iload_n X dM_deals_191 rfl 3 rfl ?_
              refine j_dup2 X dM_deals_192 rfl rfl ?_
              refine j_lald X sh_210 dM_deals_193 hf (fun x27 hf => ?_)
              refine j_lload X dM_deals_194 0 rfl ?_
              refine j_ladd X dM_deals_196 ?_
              refine j_last X sh_210 dM_deals_197 hf (fun m28 hf => ?_)
              show bz_J _ _ 198 _ _ _
              refine j_iload X dM_deals_198 6 rfl ?_
              refine j_if_eq X (tgt := 213) rfl dM_deals_200 (by decide) hf (fun hf => ?_) (fun hf => ?_)
              · refine j_iinc X (y := l5 + 1) (lv' := [(5, bz_i (l5 + 1)), (6, bz_l x6), (0, bz_rf E 81), (1, bz_i l1), (2, bz_i l2), (3, bz_i l3), (4, bz_i l4)]) dM_deals_213 1 rfl rfl (by decide) rfl ?_
                refine j_goto X (tgt := 3) dM_deals_216 (by decide) ?_
                exact j_sub [0, 2, 3, 4, 5, 6] rfl (ih _ _ hf)
              · refine j_aload_n X dM_deals_203 rfl 2 rfl ?_
                refine j_geta X gf_M_86_81 dM_deals_204 ?_
                refine j_iload X dM_deals_207 1 rfl ?_
                refine j_lload X dM_deals_209 0 rfl ?_
                refine j_l2i X dM_deals_211 ?_
                refine j_iast X sh_107 dM_deals_212 hf (fun m29 hf => ?_)
                refine j_iinc X (y := l5 + 1) (lv' := [(5, bz_i (l5 + 1)), (6, bz_l x6), (0, bz_rf E 81), (1, bz_i l1), (2, bz_i l2), (3, bz_i l3), (4, bz_i l4)]) dM_deals_213 1 rfl rfl (by decide) rfl ?_
                show bz_J _ _ 216 _ _ _
                refine j_goto X (tgt := 3) dM_deals_216 (by decide) ?_
                exact j_sub [0, 2, 3, 4, 5, 6] rfl (ih _ _ hf)
            clear hf
            have hf := hf0
            clear hf0
            refine j_lcmp_le X (tgt := 158) rfl (w64_lit rfl) dM_deals_144 dM_deals_145 (by decide) hf (fun hf => ?_) (fun hf => ?_)
            · refine j_aload_n X dM_deals_158 rfl 2 rfl ?_
              refine j_geta X gf_M_140_81 dM_deals_159 ?_
              refine j_iload X dM_deals_162 1 rfl ?_
              refine j_lald X sh_189 dM_deals_164 hf (fun x20 hf => ?_)
              refine j_lneg X dM_deals_165 ?_
              exact J18 _ hf
            · refine j_aload_n X dM_deals_148 rfl 2 rfl ?_
              refine j_geta X gf_M_140_81 dM_deals_149 ?_
              refine j_iload X dM_deals_152 1 rfl ?_
              refine j_lald X sh_189 dM_deals_154 hf (fun x21 hf => ?_)
              refine j_goto X (tgt := 166) dM_deals_155 (by decide) ?_
              exact J18 _ hf
          clear hf
          have hf := hf0
          clear hf0
          refine j_if_eq X (tgt := 82) rfl dM_deals_62 (by decide) hf (fun hf => ?_) (fun hf => ?_)
          · refine j_aload_n X dM_deals_82 rfl 2 rfl ?_
            refine j_geta X gf_M_140_81 dM_deals_83 ?_
            refine j_iload X dM_deals_86 1 rfl ?_
            refine j_lload X dM_deals_88 0 rfl ?_
            refine j_lconst X (v := 0) dM_deals_90 rfl ?_
            refine j_lcmp_le X (tgt := 117) rfl (w64_lit rfl) dM_deals_91 dM_deals_92 (by decide) hf (fun hf => ?_) (fun hf => ?_)
            · refine j_lload X dM_deals_117 0 rfl ?_
              refine j_lneg X dM_deals_119 ?_
              refine j_aload_n X dM_deals_120 rfl 2 rfl ?_
              refine j_geta X gf_M_148_81 dM_deals_121 ?_
              refine j_iload_n X dM_deals_124 rfl 3 rfl ?_
              refine j_aald X sh_195 (by decide) (by decide) dM_deals_125 hf (fun i8 hi8 hf => ?_)
              refine j_iload_n X dM_deals_126 rfl 4 rfl ?_
              show bz_J _ _ 127 _ _ _
              refine j_lald X (sr_195 i8 hi8) dM_deals_127 hf (fun x9 hf => ?_)
              refine j_lmul X dM_deals_128 ?_
              refine j_ldc2 X (v := 100) wd_1440 dM_deals_129 ?_
              refine j_ldl X (w64_lit rfl) (by decide) dM_deals_132 ?_
              refine j_last X sh_189 dM_deals_133 hf (fun m10 hf => ?_)
              exact J7 _ hf
            · refine j_lload X dM_deals_95 0 rfl ?_
              refine j_aload_n X dM_deals_97 rfl 2 rfl ?_
              refine j_geta X gf_M_148_81 dM_deals_98 ?_
              refine j_iload_n X dM_deals_101 rfl 3 rfl ?_
              refine j_aald X sh_195 (by decide) (by decide) dM_deals_102 hf (fun i11 hi11 hf => ?_)
              refine j_iload_n X dM_deals_103 rfl 4 rfl ?_
              refine j_lald X (sr_195 i11 hi11) dM_deals_104 hf (fun x12 hf => ?_)
              show bz_J _ _ 105 _ _ _
              refine j_lmul X dM_deals_105 ?_
              refine j_ldc2 X (v := 99) wd_1674 dM_deals_106 ?_
              refine j_ladd X dM_deals_109 ?_
              refine j_ldc2 X (v := 100) wd_1440 dM_deals_110 ?_
              refine j_ldl X (w64_lit rfl) (by decide) dM_deals_113 ?_
              refine j_goto X (tgt := 133) dM_deals_114 (by decide) ?_
              refine j_last X sh_189 dM_deals_133 hf (fun m13 hf => ?_)
              exact J7 _ hf
          · refine j_aload_n X dM_deals_65 rfl 2 rfl ?_
            refine j_geta X gf_M_140_81 dM_deals_66 ?_
            refine j_iload X dM_deals_69 1 rfl ?_
            refine j_aload_n X dM_deals_71 rfl 2 rfl ?_
            refine j_geta X gf_M_92_81 dM_deals_72 ?_
            refine j_iload X dM_deals_75 1 rfl ?_
            refine j_lald X sh_109 dM_deals_77 hf (fun x14 hf => ?_)
            show bz_J _ _ 78 _ _ _
            refine j_last X sh_189 dM_deals_78 hf (fun m15 hf => ?_)
            refine j_goto X (tgt := 134) dM_deals_79 (by decide) ?_
            exact J7 _ hf
        · refine j_goto X (tgt := 213) dM_deals_34 (by decide) ?_
          refine j_iinc X (y := l5 + 1) (lv' := [(5, bz_i (l5 + 1)), (0, bz_rf E 81), (1, bz_i l1), (2, bz_i l2), (3, bz_i l3), (4, bz_i l4)]) dM_deals_213 0 rfl rfl (by decide) rfl ?_
          refine j_goto X (tgt := 3) dM_deals_216 (by decide) ?_
          exact ih _ _ hf
def fM_deals (F : Nat) (M : bz_Mm) (a1 : Int) (a2 : Int) (a3 : Int) (a4 : Int) : Option (bz_Mm) :=
  cl1_ (M_deals_L3 F F a1 a2 a3 a4 0 M) fun m30 =>
  some m30
set_option maxHeartbeats 4000000 in
set_option maxRecDepth 20000 in
theorem cM_deals (E : bz_E) (F : Nat)  {M : bz_Mm} {a1 : Int} {a2 : Int} {a3 : Int} {a4 : Int} {x0 : bz_Mm} (hf : fM_deals F M a1 a2 a3 a4 = some x0) : bz_Ct E yM_deals (.code yM_deals prog_14_method_56_code 8 none) 2 49 [bz_rf E 81, bz_i a1, bz_i a2, bz_i a3, bz_i a4] M (none) x0 := by
  refine bz_met (by decide +kernel) (Nat.le_of_ble_eq_true rfl) (fun K X => ?_)
  have X : bz_X K E prog_14_method_56_code 8 "UnitsWrongModel" none 2 49 _ _ := X
  unfold fM_deals at hf
  show bz_J K 8 0 [(0, bz_rf E 81), (1, bz_i a1), (2, bz_i a2), (3, bz_i a3), (4, bz_i a4)] [] M
  refine j_iconst X dM_deals_0 ?_
  refine j_istore X (lv' := [(5, bz_i 0), (0, bz_rf E 81), (1, bz_i a1), (2, bz_i a2), (3, bz_i a3), (4, bz_i a4)]) dM_deals_1 (by decide) rfl ?_
  obtain ⟨res31, hz31, hk31⟩ := q_l1 hf
  clear hf
  refine lM_deals_L3 E F X (fun m30 he => ?_) F 0 M hz31
  have hf := hk31 _ he
  cases hf
  exact j_vret X dM_deals_219 rfl rfl
def M_goesThrough_L36 (F : Nat) : Nat → Int → Int → Int → Int → bz_Mm → Option (bz_Mm)
  | 0, _, _, _, _, _ => none
  | n + 1, l5, l4, l1, l6, M =>
    if w32 l6 < w32 (M 81 19) then
    (cl_ (fM_papers F M l6 l1) fun m5 =>
    cl_ (fM_feeds1 F m5 l6 l1) fun m6 =>
    cl_ (fM_isOpen F m6 l1) fun x7 =>
    if w32 x7 = 0 then
    (M_goesThrough_L36 F n l5 l4 l1 (l6 + 1) m6)
    else
    (cl1_ (if w32 l5 = 0 then
    (cl_ (fM_prices F m6 l6 l1 l4) fun m9 =>
    some (m9))
    else
    (rd_ m6 188 l6 4 fun x10 =>
    ra_ l6 4 fun i11 =>
    rd_ m6 (217 + i11) l1 260 fun x12 =>
    wa_ m6 188 l6 4 (x10 - x12) fun m13 =>
    some (m13))) fun m14 =>
    cl_ (fM_deals F m14 l6 l1 l5 l4) fun m15 =>
    M_goesThrough_L36 F n l5 l4 l1 (l6 + 1) m15))
    else
    (some M)
theorem lM_goesThrough_L36 (E : bz_E) (F : Nat) {K : bz_K} {rv : Option Value} {M1 : bz_Mm} (X : bz_X K E prog_14_method_57_code 7 "UnitsWrongModel" none 4 106 rv M1) {l5 : Int} {l4 : Int} {l1 : Int} {res : (bz_Mm)}
    (kx : ∀ (M : bz_Mm), some M = some res → bz_J K 7 123 [] [] M) :
    ∀ (n : Nat) (l6 : Int) (M : bz_Mm), M_goesThrough_L36 F n l5 l4 l1 l6 M = some res → bz_J K 7 36 [(6, bz_i l6), (5, bz_i l5), (4, bz_i l4), (0, bz_rf E 81), (1, bz_i l1)] [] M := by
  intro n
  induction n with
  | zero => intro l6 M hf; cases hf
  | succ n ih =>
    intro l6 M hf
    rw [M_goesThrough_L36] at hf
    refine j_iload X dM_goesThrough_36 0 rfl ?_
    refine j_aload_n X dM_goesThrough_38 rfl 3 rfl ?_
    refine j_geti X gf_M_275_81 dM_goesThrough_39 ?_
    refine j_icmp_ge X (tgt := 123) rfl rfl dM_goesThrough_42 (by decide) hf (fun hf => ?_) (fun hf => ?_)
    · exact j_sub [] rfl (kx _ hf)
    · refine j_aload_n X dM_goesThrough_45 rfl 3 rfl ?_
      refine j_iload X dM_goesThrough_46 0 rfl ?_
      refine j_iload_n X dM_goesThrough_48 rfl 4 rfl ?_
      obtain ⟨m5, hz, hf⟩ := q_cl hf
      refine j_cv X (st := []) (cM_papers E F hz) gyM_papers gv_M_papers_81 rfl (by decide) (by decide) wd_1639 rfl (Nat.le_of_ble_eq_true rfl) dM_goesThrough_49 ?_
      clear hz
      refine j_aload_n X dM_goesThrough_52 rfl 3 rfl ?_
      refine j_iload X dM_goesThrough_53 0 rfl ?_
      refine j_iload_n X dM_goesThrough_55 rfl 4 rfl ?_
      show bz_J _ _ 56 _ _ _
      obtain ⟨m6, hz, hf⟩ := q_cl hf
      refine j_cv X (st := []) (cM_feeds1 E F hz) gyM_feeds1 gv_M_feeds1_81 rfl (by decide) (by decide) wd_1645 rfl (Nat.le_of_ble_eq_true rfl) dM_goesThrough_56 ?_
      clear hz
      refine j_aload_n X dM_goesThrough_59 rfl 3 rfl ?_
      refine j_iload_n X dM_goesThrough_60 rfl 4 rfl ?_
      obtain ⟨x7, hzx7, hf⟩ := q_cl hf
      refine j_cv X (st := []) (cM_isOpen E F hzx7) gyM_isOpen gv_M_isOpen_81 rfl (by decide) (by decide) wd_1420 rfl (Nat.le_of_ble_eq_true rfl) dM_goesThrough_61 ?_
      refine j_if_ne X (tgt := 70) rfl dM_goesThrough_64 (by decide) hf (fun hf => ?_) (fun hf => ?_)
      · refine j_iload X dM_goesThrough_70 1 rfl ?_
        obtain ⟨resJ8, hf0, hkJ8⟩ := q_l1 hf
        have J8 : ∀ (m14 : bz_Mm), some m14 = some resJ8 → bz_J K 7 106 [(6, bz_i l6), (5, bz_i l5), (4, bz_i l4), (0, bz_rf E 81), (1, bz_i l1)] [] m14 := by
          intro m14 he
          have hf := hkJ8 _ he
          refine j_aload_n X dM_goesThrough_106 rfl 3 rfl ?_
          refine j_iload X dM_goesThrough_107 0 rfl ?_
          refine j_iload_n X dM_goesThrough_109 rfl 4 rfl ?_
          refine j_iload X dM_goesThrough_110 1 rfl ?_
          refine j_iload X dM_goesThrough_112 2 rfl ?_
          obtain ⟨m15, hz, hf⟩ := q_cl hf
          refine j_cv X (st := []) (cM_deals E F hz) gyM_deals gv_M_deals_81 rfl (by decide) (by decide) wd_1670 rfl (Nat.le_of_ble_eq_true rfl) dM_goesThrough_114 ?_
          clear hz
          refine j_iinc X (y := l6 + 1) (lv' := [(6, bz_i (l6 + 1)), (5, bz_i l5), (4, bz_i l4), (0, bz_rf E 81), (1, bz_i l1)]) dM_goesThrough_117 0 rfl rfl (by decide) rfl ?_
          show bz_J _ _ 120 _ _ _
          refine j_goto X (tgt := 36) dM_goesThrough_120 (by decide) ?_
          exact ih _ _ hf
        clear hf
        have hf := hf0
        clear hf0
        refine j_if_eq X (tgt := 97) rfl dM_goesThrough_72 (by decide) hf (fun hf => ?_) (fun hf => ?_)
        · refine j_aload_n X dM_goesThrough_97 rfl 3 rfl ?_
          refine j_iload X dM_goesThrough_98 0 rfl ?_
          refine j_iload_n X dM_goesThrough_100 rfl 4 rfl ?_
          refine j_iload X dM_goesThrough_101 2 rfl ?_
          obtain ⟨m9, hz, hf⟩ := q_cl hf
          refine j_cv X (st := []) (cM_prices E F hz) gyM_prices gv_M_prices_81 rfl (by decide) (by decide) wd_1649 rfl (Nat.le_of_ble_eq_true rfl) dM_goesThrough_103 ?_
          clear hz
          exact J8 _ hf
        · refine j_aload_n X dM_goesThrough_75 rfl 3 rfl ?_
          refine j_geta X gf_M_137_81 dM_goesThrough_76 ?_
          refine j_iload X dM_goesThrough_79 0 rfl ?_
          refine j_dup2 X dM_goesThrough_81 rfl rfl ?_
          refine j_lald X sh_188 dM_goesThrough_82 hf (fun x10 hf => ?_)
          refine j_aload_n X dM_goesThrough_83 rfl 3 rfl ?_
          refine j_geta X gf_M_163_81 dM_goesThrough_84 ?_
          show bz_J _ _ 87 _ _ _
          refine j_iload X dM_goesThrough_87 0 rfl ?_
          refine j_aald X sh_216 (by decide) (by decide) dM_goesThrough_89 hf (fun i11 hi11 hf => ?_)
          refine j_iload_n X dM_goesThrough_90 rfl 4 rfl ?_
          refine j_lald X (sr_216 i11 hi11) dM_goesThrough_91 hf (fun x12 hf => ?_)
          refine j_lsub X dM_goesThrough_92 ?_
          refine j_last X sh_188 dM_goesThrough_93 hf (fun m13 hf => ?_)
          refine j_goto X (tgt := 106) dM_goesThrough_94 (by decide) ?_
          exact J8 _ hf
      · refine j_goto X (tgt := 117) dM_goesThrough_67 (by decide) ?_
        refine j_iinc X (y := l6 + 1) (lv' := [(6, bz_i (l6 + 1)), (5, bz_i l5), (4, bz_i l4), (0, bz_rf E 81), (1, bz_i l1)]) dM_goesThrough_117 0 rfl rfl (by decide) rfl ?_
        refine j_goto X (tgt := 36) dM_goesThrough_120 (by decide) ?_
        exact ih _ _ hf
def fM_goesThrough (F : Nat) (M : bz_Mm) (a1 : Int) (a2 : Int) (a3 : Int) : Option (bz_Mm) :=
  cl1_ (if w32 a2 = 1 then
  (if w32 a1 = w32 a3 then
  (some (1))
  else
  (some (0)))
  else
  (some (0))) fun v2 =>
  cl1_ (if w32 a2 = 0 then
  (some (0))
  else
  (if w32 v2 = 0 then
  (some (1))
  else
  (some (0)))) fun v4 =>
  cl1_ (M_goesThrough_L36 F F v4 v2 a1 0 M) fun m16 =>
  some m16
set_option maxHeartbeats 4000000 in
set_option maxRecDepth 20000 in
theorem cM_goesThrough (E : bz_E) (F : Nat)  {M : bz_Mm} {a1 : Int} {a2 : Int} {a3 : Int} {x0 : bz_Mm} (hf : fM_goesThrough F M a1 a2 a3 = some x0) : bz_Ct E yM_goesThrough (.code yM_goesThrough prog_14_method_57_code 7 none) 4 106 [bz_rf E 81, bz_i a1, bz_i a2, bz_i a3] M (none) x0 := by
  refine bz_met (by decide +kernel) (Nat.le_of_ble_eq_true rfl) (fun K X => ?_)
  have X : bz_X K E prog_14_method_57_code 7 "UnitsWrongModel" none 4 106 _ _ := X
  unfold fM_goesThrough at hf
  show bz_J K 7 0 [(0, bz_rf E 81), (1, bz_i a1), (2, bz_i a2), (3, bz_i a3)] [] M
  refine j_iload_n X dM_goesThrough_0 rfl 2 rfl ?_
  refine j_iconst X dM_goesThrough_1 ?_
  obtain ⟨resJ1, hf0, hkJ1⟩ := q_l1 hf
  have J1 : ∀ (v2 : Int), some v2 = some resJ1 → bz_J K 7 15 [(0, bz_rf E 81), (1, bz_i a1), (2, bz_i a2)] [bz_i v2] M := by
    intro v2 he
    have hf := hkJ1 _ he
    refine j_istore X (lv' := [(4, bz_i v2), (0, bz_rf E 81), (1, bz_i a1), (2, bz_i a2)]) dM_goesThrough_15 (by decide) rfl ?_
    refine j_iload_n X dM_goesThrough_17 rfl 3 rfl ?_
    obtain ⟨resJ3, hf0, hkJ3⟩ := q_l1 hf
    have J3 : ∀ (v4 : Int), some v4 = some resJ3 → bz_J K 7 31 [(4, bz_i v2), (0, bz_rf E 81), (1, bz_i a1)] [bz_i v4] M := by
      intro v4 he
      have hf := hkJ3 _ he
      refine j_istore X (lv' := [(5, bz_i v4), (4, bz_i v2), (0, bz_rf E 81), (1, bz_i a1)]) dM_goesThrough_31 (by decide) rfl ?_
      refine j_iconst X dM_goesThrough_33 ?_
      refine j_istore X (lv' := [(6, bz_i 0), (5, bz_i v4), (4, bz_i v2), (0, bz_rf E 81), (1, bz_i a1)]) dM_goesThrough_34 (by decide) rfl ?_
      obtain ⟨res17, hz17, hk17⟩ := q_l1 hf
      clear hf
      refine lM_goesThrough_L36 E F X (fun m16 he => ?_) F 0 M hz17
      have hf := hk17 _ he
      cases hf
      exact j_vret X dM_goesThrough_123 rfl rfl
    clear hf
    have hf := hf0
    clear hf0
    refine j_if_eq X (tgt := 30) rfl dM_goesThrough_18 (by decide) hf (fun hf => ?_) (fun hf => ?_)
    · refine j_iconst X dM_goesThrough_30 ?_
      exact j_sub [0, 1, 2] rfl (J3 _ hf)
    · refine j_iload X dM_goesThrough_21 0 rfl ?_
      refine j_if_ne X (tgt := 30) rfl dM_goesThrough_23 (by decide) hf (fun hf => ?_) (fun hf => ?_)
      · refine j_iconst X dM_goesThrough_30 ?_
        exact j_sub [0, 1, 2] rfl (J3 _ hf)
      · refine j_iconst X dM_goesThrough_26 ?_
        refine j_goto X (tgt := 31) dM_goesThrough_27 (by decide) ?_
        exact j_sub [0, 1, 2] rfl (J3 _ hf)
  clear hf
  have hf := hf0
  clear hf0
  refine j_icmp_ne X (tgt := 14) rfl (w32_lit rfl) dM_goesThrough_2 (by decide) hf (fun hf => ?_) (fun hf => ?_)
  · refine j_iconst X dM_goesThrough_14 ?_
    exact j_sub [0, 1, 2] rfl (J1 _ hf)
  · refine j_iload_n X dM_goesThrough_5 rfl 1 rfl ?_
    refine j_iload_n X dM_goesThrough_6 rfl 3 rfl ?_
    refine j_icmp_ne X (tgt := 14) rfl rfl dM_goesThrough_7 (by decide) hf (fun hf => ?_) (fun hf => ?_)
    · refine j_iconst X dM_goesThrough_14 ?_
      exact j_sub [0, 1, 2] rfl (J1 _ hf)
    · refine j_iconst X dM_goesThrough_10 ?_
      refine j_goto X (tgt := 15) dM_goesThrough_11 (by decide) ?_
      exact j_sub [0, 1, 2] rfl (J1 _ hf)
def M_through_L12 (F : Nat) : Nat → Int → Int → Int → bz_Mm → Option (bz_Mm)
  | 0, _, _, _, _ => none
  | n + 1, l1, l3, l4, M =>
    if w32 l1 < w32 l4 then
    (some M)
    else
    (cl_ (fM_goesThrough F M l4 l3 l1) fun m3 =>
    M_through_L12 F n l1 l3 (l4 + 1) m3)
theorem lM_through_L12 (E : bz_E) (F : Nat) {K : bz_K} {rv : Option Value} {M1 : bz_Mm} (X : bz_X K E prog_14_method_58_code 5 "UnitsWrongModel" none 5 132 rv M1) {l1 : Int} {l3 : Int} {res : (bz_Mm)}
    (kx : ∀ (M : bz_Mm), some M = some res → bz_J K 5 32 [] [] M) :
    ∀ (n : Nat) (l4 : Int) (M : bz_Mm), M_through_L12 F n l1 l3 l4 M = some res → bz_J K 5 12 [(4, bz_i l4), (0, bz_rf E 81), (1, bz_i l1), (3, bz_i l3)] [] M := by
  intro n
  induction n with
  | zero => intro l4 M hf; cases hf
  | succ n ih =>
    intro l4 M hf
    rw [M_through_L12] at hf
    refine j_iload X dM_through_12 0 rfl ?_
    refine j_iload_n X dM_through_14 rfl 2 rfl ?_
    refine j_icmp_gt X (tgt := 32) rfl rfl dM_through_15 (by decide) hf (fun hf => ?_) (fun hf => ?_)
    · exact j_sub [] rfl (kx _ hf)
    · refine j_aload_n X dM_through_18 rfl 1 rfl ?_
      refine j_iload X dM_through_19 0 rfl ?_
      refine j_iload_n X dM_through_21 rfl 3 rfl ?_
      refine j_iload_n X dM_through_22 rfl 2 rfl ?_
      obtain ⟨m3, hz, hf⟩ := q_cl hf
      refine j_cv X (st := []) (cM_goesThrough E F hz) gyM_goesThrough gv_M_goesThrough_81 rfl (by decide) (by decide) wd_1635 rfl (Nat.le_of_ble_eq_true rfl) dM_through_23 ?_
      clear hz
      refine j_iinc X (y := l4 + 1) (lv' := [(4, bz_i (l4 + 1)), (0, bz_rf E 81), (1, bz_i l1), (3, bz_i l3)]) dM_through_26 0 rfl rfl (by decide) rfl ?_
      refine j_goto X (tgt := 12) dM_through_29 (by decide) ?_
      exact ih _ _ hf
def fM_through (F : Nat) (M : bz_Mm) (a1 : Int) (a2 : Int) (a3 : Int) : Option (bz_Mm) :=
  cl_ (fM_knows F M a2) fun m1 =>
  cl_ (fM_begins F m1) fun m2 =>
  cl1_ (M_through_L12 F F a1 a3 0 m2) fun m4 =>
  some m4
set_option maxHeartbeats 4000000 in
set_option maxRecDepth 20000 in
theorem cM_through (E : bz_E) (F : Nat)  {M : bz_Mm} {a1 : Int} {a2 : Int} {a3 : Int} {x0 : bz_Mm} (hf : fM_through F M a1 a2 a3 = some x0) : bz_Ct E yM_through (.code yM_through prog_14_method_58_code 5 none) 5 132 [bz_rf E 81, bz_i a1, bz_i a2, bz_i a3] M (none) x0 := by
  refine bz_met (by decide +kernel) (Nat.le_of_ble_eq_true rfl) (fun K X => ?_)
  have X : bz_X K E prog_14_method_58_code 5 "UnitsWrongModel" none 5 132 _ _ := X
  unfold fM_through at hf
  show bz_J K 5 0 [(0, bz_rf E 81), (1, bz_i a1), (2, bz_i a2), (3, bz_i a3)] [] M
  refine j_aload_n X dM_through_0 rfl 0 rfl ?_
  refine j_iload_n X dM_through_1 rfl 2 rfl ?_
  obtain ⟨m1, hz, hf⟩ := q_cl hf
  refine j_cv X (st := []) (cM_knows E F hz) gyM_knows gv_M_knows_81 rfl (by decide) (by decide) wd_1623 rfl (Nat.le_of_ble_eq_true rfl) dM_through_2 ?_
  clear hz
  refine j_aload_n X dM_through_5 rfl 0 rfl ?_
  obtain ⟨m2, hz, hf⟩ := q_cl hf
  refine j_cv X (st := []) (cM_begins E F hz) gyM_begins gv_M_begins_81 rfl (by decide) (by decide) wd_1631 rfl (Nat.le_of_ble_eq_true rfl) dM_through_6 ?_
  clear hz
  refine j_iconst X dM_through_9 ?_
  refine j_istore X (lv' := [(4, bz_i 0), (0, bz_rf E 81), (1, bz_i a1), (2, bz_i a2), (3, bz_i a3)]) dM_through_10 (by decide) rfl ?_
  obtain ⟨res5, hz5, hk5⟩ := q_l1 hf
  clear hf
  refine j_sub [0, 1, 2, 4] rfl ?_
  refine lM_through_L12 E F X (fun m4 he => ?_) F 0 m2 hz5
  have hf := hk5 _ he
  cases hf
  exact j_vret X dM_through_32 rfl rfl
def M_books_L15 (F : Nat) : Nat → Int → bz_Mm → Option (bz_Mm)
  | 0, _, _ => none
  | n + 1, l1, M =>
    if w32 l1 < w32 (M 81 19) then
    (ra_ l1 4 fun i2 =>
    ra_ l1 4 fun i3 =>
    rd_ M (196 + i3) (M 81 0) 260 fun x4 =>
    wa_ M (212 + i2) (M 81 0) 260 x4 fun m5 =>
    ra_ l1 4 fun i6 =>
    cl_ (fM_isOpen F m5 (m5 81 0)) fun x7 =>
    if w32 x7 = 0 then
    (wa_ m5 (217 + i6) (m5 81 0) 260 0 fun m8 =>
    M_books_L15 F n (l1 + 1) m8)
    else
    (ra_ l1 4 fun i9 =>
    rd_ m5 (201 + i9) (m5 81 0) 260 fun x10 =>
    wa_ m5 (217 + i6) (m5 81 0) 260 x10 fun m11 =>
    M_books_L15 F n (l1 + 1) m11))
    else
    (some M)
def M_books_L90 (F : Nat) : Nat → Int → bz_Mm → Option (bz_Mm)
  | 0, _, _ => none
  | n + 1, l1, M =>
    if w32 l1 < w32 (M 81 35) then
    (rd_ M 106 l1 200 fun x13 =>
    if w32 x13 = w32 (M 81 0) then
    (cl_ (fM_isOpen F M (M 81 0)) fun x14 =>
    if w32 x14 = 0 then
    (M_books_L90 F n (l1 + 1) M)
    else
    (rd_ M 189 l1 200 fun x15 =>
    wa_ M 109 l1 200 x15 fun m16 =>
    wa_ m16 108 l1 200 1 fun m17 =>
    M_books_L90 F n (l1 + 1) m17))
    else
    (M_books_L90 F n (l1 + 1) M))
    else
    (some M)
theorem lM_books_L15 (E : bz_E) (F : Nat) {K : bz_K} {rv : Option Value} {M1 : bz_Mm} (X : bz_X K E prog_14_method_59_code 2 "UnitsWrongModel" none 6 156 rv M1) {res : (bz_Mm)}
    (kx : ∀ (M : bz_Mm), some M = some res → bz_J K 2 88 [(0, bz_rf E 81)] [] M) :
    ∀ (n : Nat) (l1 : Int) (M : bz_Mm), M_books_L15 F n l1 M = some res → bz_J K 2 15 [(1, bz_i l1), (0, bz_rf E 81)] [] M := by
  intro n
  induction n with
  | zero => intro l1 M hf; cases hf
  | succ n ih =>
    intro l1 M hf
    rw [M_books_L15] at hf
    refine j_iload_n X dM_books_15 rfl 0 rfl ?_
    refine j_aload_n X dM_books_16 rfl 1 rfl ?_
    refine j_geti X gf_M_275_81 dM_books_17 ?_
    refine j_icmp_ge X (tgt := 88) rfl rfl dM_books_20 (by decide) hf (fun hf => ?_) (fun hf => ?_)
    · exact j_sub [1] rfl (kx _ hf)
    · refine j_aload_n X dM_books_23 rfl 1 rfl ?_
      refine j_geta X gf_M_160_81 dM_books_24 ?_
      refine j_iload_n X dM_books_27 rfl 0 rfl ?_
      refine j_aald X sh_211 (by decide) (by decide) dM_books_28 hf (fun i2 hi2 hf => ?_)
      refine j_aload_n X dM_books_29 rfl 1 rfl ?_
      refine j_geti X gf_M_216_81 dM_books_30 ?_
      refine j_aload_n X dM_books_33 rfl 1 rfl ?_
      show bz_J _ _ 34 _ _ _
      refine j_geta X gf_M_148_81 dM_books_34 ?_
      refine j_iload_n X dM_books_37 rfl 0 rfl ?_
      refine j_aald X sh_195 (by decide) (by decide) dM_books_38 hf (fun i3 hi3 hf => ?_)
      refine j_aload_n X dM_books_39 rfl 1 rfl ?_
      refine j_geti X gf_M_216_81 dM_books_40 ?_
      refine j_lald X (sr_195 i3 hi3) dM_books_43 hf (fun x4 hf => ?_)
      refine j_last X (sr_211 i2 hi2) dM_books_44 hf (fun m5 hf => ?_)
      refine j_aload_n X dM_books_45 rfl 1 rfl ?_
      show bz_J _ _ 46 _ _ _
      refine j_geta X gf_M_163_81 dM_books_46 ?_
      refine j_iload_n X dM_books_49 rfl 0 rfl ?_
      refine j_aald X sh_216 (by decide) (by decide) dM_books_50 hf (fun i6 hi6 hf => ?_)
      refine j_aload_n X dM_books_51 rfl 1 rfl ?_
      refine j_geti X gf_M_216_81 dM_books_52 ?_
      refine j_aload_n X dM_books_55 rfl 1 rfl ?_
      refine j_aload_n X dM_books_56 rfl 1 rfl ?_
      refine j_geti X gf_M_216_81 dM_books_57 ?_
      show bz_J _ _ 60 _ _ _
      obtain ⟨x7, hzx7, hf⟩ := q_cl hf
      refine j_cv X (st := [bz_i (m5 81 0), bz_rf E (217 + i6)]) (cM_isOpen E F hzx7) gyM_isOpen gv_M_isOpen_81 rfl (by decide) (by decide) wd_1420 rfl (Nat.le_of_ble_eq_true rfl) dM_books_60 ?_
      refine j_if_eq X (tgt := 80) rfl dM_books_63 (by decide) hf (fun hf => ?_) (fun hf => ?_)
      · refine j_lconst X (v := 0) dM_books_80 rfl ?_
        refine j_last X (sr_216 i6 hi6) dM_books_81 hf (fun m8 hf => ?_)
        refine j_iinc X (y := l1 + 1) (lv' := [(1, bz_i (l1 + 1)), (0, bz_rf E 81)]) dM_books_82 0 rfl rfl (by decide) rfl ?_
        refine j_goto X (tgt := 15) dM_books_85 (by decide) ?_
        exact ih _ _ hf
      · refine j_aload_n X dM_books_66 rfl 1 rfl ?_
        refine j_geta X gf_M_151_81 dM_books_67 ?_
        refine j_iload_n X dM_books_70 rfl 0 rfl ?_
        refine j_aald X sh_200 (by decide) (by decide) dM_books_71 hf (fun i9 hi9 hf => ?_)
        refine j_aload_n X dM_books_72 rfl 1 rfl ?_
        refine j_geti X gf_M_216_81 dM_books_73 ?_
        refine j_lald X (sr_200 i9 hi9) dM_books_76 hf (fun x10 hf => ?_)
        show bz_J _ _ 77 _ _ _
        refine j_goto X (tgt := 81) dM_books_77 (by decide) ?_
        refine j_last X (sr_216 i6 hi6) dM_books_81 hf (fun m11 hf => ?_)
        refine j_iinc X (y := l1 + 1) (lv' := [(1, bz_i (l1 + 1)), (0, bz_rf E 81)]) dM_books_82 0 rfl rfl (by decide) rfl ?_
        refine j_goto X (tgt := 15) dM_books_85 (by decide) ?_
        exact ih _ _ hf
theorem lM_books_L90 (E : bz_E) (F : Nat) {K : bz_K} {rv : Option Value} {M1 : bz_Mm} (X : bz_X K E prog_14_method_59_code 2 "UnitsWrongModel" none 6 156 rv M1) {res : (bz_Mm)}
    (kx : ∀ (M : bz_Mm), some M = some res → bz_J K 2 150 [] [] M) :
    ∀ (n : Nat) (l1 : Int) (M : bz_Mm), M_books_L90 F n l1 M = some res → bz_J K 2 90 [(1, bz_i l1), (0, bz_rf E 81)] [] M := by
  intro n
  induction n with
  | zero => intro l1 M hf; cases hf
  | succ n ih =>
    intro l1 M hf
    rw [M_books_L90] at hf
    refine j_iload_n X dM_books_90 rfl 0 rfl ?_
    refine j_aload_n X dM_books_91 rfl 1 rfl ?_
    refine j_geti X gf_M_302_81 dM_books_92 ?_
    refine j_icmp_ge X (tgt := 150) rfl rfl dM_books_95 (by decide) hf (fun hf => ?_) (fun hf => ?_)
    · exact j_sub [] rfl (kx _ hf)
    · refine j_aload_n X dM_books_98 rfl 1 rfl ?_
      refine j_geta X gf_M_83_81 dM_books_99 ?_
      refine j_iload_n X dM_books_102 rfl 0 rfl ?_
      refine j_iald X sh_106 dM_books_103 hf (fun x13 hf => ?_)
      refine j_aload_n X dM_books_104 rfl 1 rfl ?_
      refine j_geti X gf_M_216_81 dM_books_105 ?_
      refine j_icmp_ne X (tgt := 144) rfl rfl dM_books_108 (by decide) hf (fun hf => ?_) (fun hf => ?_)
      · refine j_iinc X (y := l1 + 1) (lv' := [(1, bz_i (l1 + 1)), (0, bz_rf E 81)]) dM_books_144 0 rfl rfl (by decide) rfl ?_
        refine j_goto X (tgt := 90) dM_books_147 (by decide) ?_
        exact ih _ _ hf
      · refine j_aload_n X dM_books_111 rfl 1 rfl ?_
        refine j_aload_n X dM_books_112 rfl 1 rfl ?_
        refine j_geti X gf_M_216_81 dM_books_113 ?_
        obtain ⟨x14, hzx14, hf⟩ := q_cl hf
        refine j_cv X (st := []) (cM_isOpen E F hzx14) gyM_isOpen gv_M_isOpen_81 rfl (by decide) (by decide) wd_1420 rfl (Nat.le_of_ble_eq_true rfl) dM_books_116 ?_
        refine j_if_ne X (tgt := 125) rfl dM_books_119 (by decide) hf (fun hf => ?_) (fun hf => ?_)
        · refine j_aload_n X dM_books_125 rfl 1 rfl ?_
          refine j_geta X gf_M_92_81 dM_books_126 ?_
          refine j_iload_n X dM_books_129 rfl 0 rfl ?_
          refine j_aload_n X dM_books_130 rfl 1 rfl ?_
          refine j_geta X gf_M_140_81 dM_books_131 ?_
          refine j_iload_n X dM_books_134 rfl 0 rfl ?_
          refine j_lald X sh_189 dM_books_135 hf (fun x15 hf => ?_)
          show bz_J _ _ 136 _ _ _
          refine j_last X sh_109 dM_books_136 hf (fun m16 hf => ?_)
          refine j_aload_n X dM_books_137 rfl 1 rfl ?_
          refine j_geta X gf_M_89_81 dM_books_138 ?_
          refine j_iload_n X dM_books_141 rfl 0 rfl ?_
          refine j_iconst X dM_books_142 ?_
          refine j_zast X sh_108 (by decide +kernel) dM_books_143 hf (fun m17 hf => ?_)
          refine j_iinc X (y := l1 + 1) (lv' := [(1, bz_i (l1 + 1)), (0, bz_rf E 81)]) dM_books_144 0 rfl rfl (by decide) rfl ?_
          refine j_goto X (tgt := 90) dM_books_147 (by decide) ?_
          exact ih _ _ hf
        · refine j_goto X (tgt := 144) dM_books_122 (by decide) ?_
          refine j_iinc X (y := l1 + 1) (lv' := [(1, bz_i (l1 + 1)), (0, bz_rf E 81)]) dM_books_144 0 rfl rfl (by decide) rfl ?_
          refine j_goto X (tgt := 90) dM_books_147 (by decide) ?_
          exact ih _ _ hf
def fM_books (F : Nat) (M : bz_Mm) : Option (bz_Mm) :=
  cl_ (fM_through F M (M 81 0) (M 81 0) 1) fun m1 =>
  cl1_ (M_books_L15 F F 0 m1) fun m12 =>
  cl1_ (M_books_L90 F F 0 m12) fun m18 =>
  some m18
set_option maxHeartbeats 4000000 in
set_option maxRecDepth 20000 in
theorem cM_books (E : bz_E) (F : Nat)  {M : bz_Mm} {x0 : bz_Mm} (hf : fM_books F M = some x0) : bz_Ct E yM_books (.code yM_books prog_14_method_59_code 2 none) 6 156 [bz_rf E 81] M (none) x0 := by
  refine bz_met (by decide +kernel) (Nat.le_of_ble_eq_true rfl) (fun K X => ?_)
  have X : bz_X K E prog_14_method_59_code 2 "UnitsWrongModel" none 6 156 _ _ := X
  unfold fM_books at hf
  show bz_J K 2 0 [(0, bz_rf E 81)] [] M
  refine j_aload_n X dM_books_0 rfl 0 rfl ?_
  refine j_aload_n X dM_books_1 rfl 0 rfl ?_
  refine j_geti X gf_M_216_81 dM_books_2 ?_
  refine j_aload_n X dM_books_5 rfl 0 rfl ?_
  refine j_geti X gf_M_216_81 dM_books_6 ?_
  refine j_iconst X dM_books_9 ?_
  obtain ⟨m1, hz, hf⟩ := q_cl hf
  refine j_cv X (st := []) (cM_through E F hz) gyM_through gv_M_through_81 rfl (by decide) (by decide) wd_1619 rfl (Nat.le_of_ble_eq_true rfl) dM_books_10 ?_
  clear hz
  show bz_J _ _ 13 _ _ _
  refine j_iconst X dM_books_13 ?_
  refine j_istore_n X (lv' := [(1, bz_i 0), (0, bz_rf E 81)]) dM_books_14 rfl (by decide) rfl ?_
  obtain ⟨res20, hz20, hk20⟩ := q_l1 hf
  clear hf
  refine lM_books_L15 E F X (fun m12 he => ?_) F 0 m1 hz20
  have hf := hk20 _ he
  refine j_iconst X dM_books_88 ?_
  refine j_istore_n X (lv' := [(1, bz_i 0), (0, bz_rf E 81)]) dM_books_89 rfl (by decide) rfl ?_
  obtain ⟨res19, hz19, hk19⟩ := q_l1 hf
  clear hf
  refine lM_books_L90 E F X (fun m18 he => ?_) F 0 m12 hz19
  have hf := hk19 _ he
  cases hf
  exact j_vret X dM_books_150 rfl rfl
def M_go_L16 (F : Nat) : Nat → Int → Int → bz_Mm → Option (bz_Mm)
  | 0, _, _, _ => none
  | n + 1, l1, l2, M =>
    if w32 l2 < w32 l1 then
    (if w32 (M 81 0) < 260 then
    (cl_ (fM_books F M) fun m1 =>
    wf_ m1 81 0 ((m1 81 0) + 1) fun m2 =>
    M_go_L16 F n l1 (l2 + 1) m2)
    else
    (some M))
    else
    (some M)
theorem lM_go_L16 (E : bz_E) (F : Nat) {K : bz_K} {rv : Option Value} {M1 : bz_Mm} (X : bz_X K E prog_14_method_60_code 3 "UnitsWrongModel" (some .int) 7 177 rv M1) {l1 : Int} {res : (bz_Mm)}
    (kx : ∀ (M : bz_Mm), some M = some res → bz_J K 3 51 [(0, bz_rf E 81)] [] M) :
    ∀ (n : Nat) (l2 : Int) (M : bz_Mm), M_go_L16 F n l1 l2 M = some res → bz_J K 3 16 [(2, bz_i l2), (0, bz_rf E 81), (1, bz_i l1)] [] M := by
  intro n
  induction n with
  | zero => intro l2 M hf; cases hf
  | succ n ih =>
    intro l2 M hf
    rw [M_go_L16] at hf
    refine j_iload_n X dM_go_16 rfl 0 rfl ?_
    refine j_iload_n X dM_go_17 rfl 2 rfl ?_
    refine j_icmp_ge X (tgt := 51) rfl rfl dM_go_18 (by decide) hf (fun hf => ?_) (fun hf => ?_)
    · exact j_sub [1] rfl (kx _ hf)
    · refine j_aload_n X dM_go_21 rfl 1 rfl ?_
      refine j_geti X gf_M_216_81 dM_go_22 ?_
      refine j_sipush X dM_go_25 rfl ?_
      refine j_icmp_ge X (tgt := 51) rfl (w32_lit rfl) dM_go_28 (by decide) hf (fun hf => ?_) (fun hf => ?_)
      · exact j_sub [1] rfl (kx _ hf)
      · refine j_aload_n X dM_go_31 rfl 1 rfl ?_
        obtain ⟨m1, hz, hf⟩ := q_cl hf
        refine j_cv X (st := []) (cM_books E F hz) gyM_books gv_M_books_81 rfl (by decide) (by decide) wd_1615 rfl (Nat.le_of_ble_eq_true rfl) dM_go_32 ?_
        clear hz
        refine j_aload_n X dM_go_35 rfl 1 rfl ?_
        refine j_dup X dM_go_36 rfl ?_
        refine j_geti X gf_M_216_81 dM_go_37 ?_
        refine j_iconst X dM_go_40 ?_
        refine j_iadd X dM_go_41 ?_
        show bz_J _ _ 42 _ _ _
        refine j_puti X pf_M_216_81 dM_go_42 hf (fun m2 hf => ?_)
        refine j_iinc X (y := l2 + 1) (lv' := [(2, bz_i (l2 + 1)), (0, bz_rf E 81), (1, bz_i l1)]) dM_go_45 0 rfl rfl (by decide) rfl ?_
        refine j_goto X (tgt := 16) dM_go_48 (by decide) ?_
        exact ih _ _ hf
def fM_go (F : Nat) (M : bz_Mm) (a1 : Int) : Option (Int × bz_Mm) :=
  if w32 (fM_in (w32 a1) 0 40) = 0 then
  (some (((-1), M)))
  else
  (cl1_ (M_go_L16 F F a1 0 M) fun m3 =>
  some ((m3 81 0, m3)))
set_option maxHeartbeats 4000000 in
set_option maxRecDepth 20000 in
theorem cM_go (E : bz_E) (F : Nat)  {M : bz_Mm} {a1 : Int} {x0 : Int × bz_Mm} (hf : fM_go F M a1 = some x0) : bz_Ct E yM_go (.code yM_go prog_14_method_60_code 3 (some .int)) 7 177 [bz_rf E 81, bz_i a1] M (some (bz_i x0.1)) x0.2 := by
  refine bz_met (by decide +kernel) (Nat.le_of_ble_eq_true rfl) (fun K X => ?_)
  have X : bz_X K E prog_14_method_60_code 3 "UnitsWrongModel" (some .int) 7 177 _ _ := X
  unfold fM_go at hf
  show bz_J K 3 0 [(0, bz_rf E 81), (1, bz_i a1)] [] M
  refine j_iload_n X dM_go_0 rfl 1 rfl ?_
  refine j_i2l X rfl dM_go_1 ?_
  refine j_lconst X (v := 0) dM_go_2 rfl ?_
  refine j_ldc2 X (v := 40) wd_1614 dM_go_3 ?_
  refine j_cs X (st := []) (cM_in E) gyM_in wd_1414 rfl (by decide) (by decide) wd_1413 rfl (Nat.le_of_ble_eq_true rfl) dM_go_6 ?_
  refine j_if_ne X (tgt := 14) rfl dM_go_9 (by decide) hf (fun hf => ?_) (fun hf => ?_)
  · refine j_iconst X dM_go_14 ?_
    refine j_istore_n X (lv' := [(2, bz_i 0), (0, bz_rf E 81), (1, bz_i a1)]) dM_go_15 rfl (by decide) rfl ?_
    obtain ⟨res4, hz4, hk4⟩ := q_l1 hf
    clear hf
    refine lM_go_L16 E F X (fun m3 he => ?_) F 0 M hz4
    have hf := hk4 _ he
    refine j_aload_n X dM_go_51 rfl 0 rfl ?_
    refine j_geti X gf_M_216_81 dM_go_52 ?_
    cases hf
    exact j_iret X dM_go_55 rfl rfl
  · refine j_iconst X dM_go_12 ?_
    cases hf
    exact j_iret X dM_go_13 rfl rfl
def fM_isOver (F : Nat) (M : bz_Mm) (a1 : Int) (a2 : Int) : Option (Int) :=
  if w32 (fM_isFund M a1) = 0 then
  (some 0)
  else
  (cl_ (fM_isOpen F M a2) fun x1 =>
  if w32 x1 = 0 then
  (some 0)
  else
  (if w32 a2 < w32 (M 81 0) then
  (some 1)
  else
  (some 0)))
set_option maxHeartbeats 4000000 in
set_option maxRecDepth 20000 in
theorem cM_isOver (E : bz_E) (F : Nat)  {M : bz_Mm} {a1 : Int} {a2 : Int} {x0 : Int} (hf : fM_isOver F M a1 a2 = some x0) : bz_Ct E yM_isOver (.code yM_isOver prog_14_method_61_code 3 (some .boolean)) 2 46 [bz_rf E 81, bz_i a1, bz_i a2] M (some (bz_i x0)) M := by
  refine bz_met (by decide +kernel) (Nat.le_of_ble_eq_true rfl) (fun K X => ?_)
  have X : bz_X K E prog_14_method_61_code 3 "UnitsWrongModel" (some .boolean) 2 46 _ _ := X
  unfold fM_isOver at hf
  show bz_J K 3 0 [(0, bz_rf E 81), (1, bz_i a1), (2, bz_i a2)] [] M
  refine j_aload_n X dM_isOver_0 rfl 0 rfl ?_
  refine j_iload_n X dM_isOver_1 rfl 1 rfl ?_
  refine j_cv X (st := []) (cM_isFund E) gyM_isFund gv_M_isFund_81 rfl (by decide) (by decide) wd_1484 rfl (Nat.le_of_ble_eq_true rfl) dM_isOver_2 ?_
  refine j_if_eq X (tgt := 28) rfl dM_isOver_5 (by decide) hf (fun hf => ?_) (fun hf => ?_)
  · refine j_iconst X dM_isOver_28 ?_
    cases hf
    exact j_zret X (by decide +kernel) dM_isOver_29 rfl rfl
  · refine j_aload_n X dM_isOver_8 rfl 0 rfl ?_
    refine j_iload_n X dM_isOver_9 rfl 2 rfl ?_
    obtain ⟨x1, hzx1, hf⟩ := q_cl hf
    refine j_cv X (st := []) (cM_isOpen E F hzx1) gyM_isOpen gv_M_isOpen_81 rfl (by decide) (by decide) wd_1420 rfl (Nat.le_of_ble_eq_true rfl) dM_isOver_10 ?_
    refine j_if_eq X (tgt := 28) rfl dM_isOver_13 (by decide) hf (fun hf => ?_) (fun hf => ?_)
    · refine j_iconst X dM_isOver_28 ?_
      cases hf
      exact j_zret X (by decide +kernel) dM_isOver_29 rfl rfl
    · refine j_iload_n X dM_isOver_16 rfl 2 rfl ?_
      refine j_aload_n X dM_isOver_17 rfl 0 rfl ?_
      refine j_geti X gf_M_216_81 dM_isOver_18 ?_
      refine j_icmp_ge X (tgt := 28) rfl rfl dM_isOver_21 (by decide) hf (fun hf => ?_) (fun hf => ?_)
      · refine j_iconst X dM_isOver_28 ?_
        cases hf
        exact j_zret X (by decide +kernel) dM_isOver_29 rfl rfl
      · refine j_iconst X dM_isOver_24 ?_
        refine j_goto X (tgt := 29) dM_isOver_25 (by decide) ?_
        cases hf
        exact j_zret X (by decide +kernel) dM_isOver_29 rfl rfl
def gM_told (a0 : Int) : Option Int :=
  some (fM_near a0 ((-2000000000)) 2000000000)
def fM_told (a0 : Int) : Int :=
  (fM_near a0 ((-2000000000)) 2000000000)
theorem tM_told (a0 : Int) : gM_told a0 = some (fM_told a0) := by
  unfold gM_told fM_told
  (repeat' (first | rfl | split))
set_option maxHeartbeats 4000000 in
set_option maxRecDepth 20000 in
theorem cM_told (E : bz_E) {M : bz_Mm} {a0 : Int} : bz_Ct E yM_told (.code yM_told prog_14_method_4_code 2 (some .int)) 1 25 [bz_l a0] M (some (bz_i (fM_told a0))) M := by
  have hf := tM_told a0
  refine bz_met (by decide +kernel) (Nat.le_of_ble_eq_true rfl) (fun K X => ?_)
  have X : bz_X K E prog_14_method_4_code 2 "UnitsWrongModel" (some .int) 1 25 _ _ := X
  unfold gM_told at hf
  generalize fM_told a0 = rr at hf X
  show bz_J K 2 0 [(0, bz_l a0)] [] M
  refine j_lload_n X dM_told_0 rfl 0 rfl ?_
  refine j_ldc2 X (v := -2000000000) wd_1686 dM_told_1 ?_
  refine j_ldc2 X (v := 2000000000) wd_1557 dM_told_4 ?_
  refine j_cs X (st := []) (cM_near E) gyM_near wd_1559 rfl (by decide) (by decide) wd_1558 rfl (Nat.le_of_ble_eq_true rfl) dM_told_7 ?_
  refine j_l2i X dM_told_10 ?_
  cases hf
  exact j_iret X dM_told_11 rfl rfl
def fM_booked (F : Nat) (M : bz_Mm) (a1 : Int) (a2 : Int) : Option (Int) :=
  cl_ (fM_isOver F M a1 a2) fun x1 =>
  if w32 x1 = 0 then
  (some ((-1)))
  else
  (ra_ a1 4 fun i2 =>
  rd_ M (212 + i2) a2 260 fun x3 =>
  some (fM_told x3))
set_option maxHeartbeats 4000000 in
set_option maxRecDepth 20000 in
theorem cM_booked (E : bz_E) (F : Nat)  {M : bz_Mm} {a1 : Int} {a2 : Int} {x0 : Int} (hf : fM_booked F M a1 a2 = some x0) : bz_Ct E yM_booked (.code yM_booked prog_14_method_62_code 3 (some .int)) 3 68 [bz_rf E 81, bz_i a1, bz_i a2] M (some (bz_i x0)) M := by
  refine bz_met (by decide +kernel) (Nat.le_of_ble_eq_true rfl) (fun K X => ?_)
  have X : bz_X K E prog_14_method_62_code 3 "UnitsWrongModel" (some .int) 3 68 _ _ := X
  unfold fM_booked at hf
  show bz_J K 3 0 [(0, bz_rf E 81), (1, bz_i a1), (2, bz_i a2)] [] M
  refine j_aload_n X dM_booked_0 rfl 0 rfl ?_
  refine j_iload_n X dM_booked_1 rfl 1 rfl ?_
  refine j_iload_n X dM_booked_2 rfl 2 rfl ?_
  obtain ⟨x1, hzx1, hf⟩ := q_cl hf
  refine j_cv X (st := []) (cM_isOver E F hzx1) gyM_isOver gv_M_isOver_81 rfl (by decide) (by decide) wd_1679 rfl (Nat.le_of_ble_eq_true rfl) dM_booked_3 ?_
  refine j_if_eq X (tgt := 23) rfl dM_booked_6 (by decide) hf (fun hf => ?_) (fun hf => ?_)
  · refine j_iconst X dM_booked_23 ?_
    cases hf
    exact j_iret X dM_booked_24 rfl rfl
  · refine j_aload_n X dM_booked_9 rfl 0 rfl ?_
    refine j_geta X gf_M_160_81 dM_booked_10 ?_
    refine j_iload_n X dM_booked_13 rfl 1 rfl ?_
    refine j_aald X sh_211 (by decide) (by decide) dM_booked_14 hf (fun i2 hi2 hf => ?_)
    refine j_iload_n X dM_booked_15 rfl 2 rfl ?_
    refine j_lald X (sr_211 i2 hi2) dM_booked_16 hf (fun x3 hf => ?_)
    refine j_cs X (st := []) (cM_told E) gyM_told wd_1684 rfl (by decide) (by decide) wd_1683 rfl (Nat.le_of_ble_eq_true rfl) dM_booked_17 ?_
    show bz_J _ _ 20 _ _ _
    refine j_goto X (tgt := 24) dM_booked_20 (by decide) ?_
    cases hf
    exact j_iret X dM_booked_24 rfl rfl
def fM_right (F : Nat) (M : bz_Mm) (a1 : Int) (a2 : Int) (a3 : Int) : Option (Int × bz_Mm) :=
  cl_ (fM_isOver F M a1 a2) fun x1 =>
  if w32 x1 = 0 then
  (some (((-1), M)))
  else
  (if w32 (fM_in (w32 a3) (w32 a2) (w32 (fM_known0 M))) = 0 then
  (some (((-1), M)))
  else
  (cl_ (fM_through F M a2 a3 0) fun m2 =>
  ra_ a1 4 fun i3 =>
  rd_ m2 (196 + i3) a2 260 fun x4 =>
  some ((fM_told x4, m2))))
set_option maxHeartbeats 4000000 in
set_option maxRecDepth 20000 in
theorem cM_right (E : bz_E) (F : Nat)  {M : bz_Mm} {a1 : Int} {a2 : Int} {a3 : Int} {x0 : Int × bz_Mm} (hf : fM_right F M a1 a2 a3 = some x0) : bz_Ct E yM_right (.code yM_right prog_14_method_63_code 4 (some .int)) 6 156 [bz_rf E 81, bz_i a1, bz_i a2, bz_i a3] M (some (bz_i x0.1)) x0.2 := by
  refine bz_met (by decide +kernel) (Nat.le_of_ble_eq_true rfl) (fun K X => ?_)
  have X : bz_X K E prog_14_method_63_code 4 "UnitsWrongModel" (some .int) 6 156 _ _ := X
  unfold fM_right at hf
  show bz_J K 4 0 [(0, bz_rf E 81), (1, bz_i a1), (2, bz_i a2), (3, bz_i a3)] [] M
  refine j_aload_n X dM_right_0 rfl 0 rfl ?_
  refine j_iload_n X dM_right_1 rfl 1 rfl ?_
  refine j_iload_n X dM_right_2 rfl 2 rfl ?_
  obtain ⟨x1, hzx1, hf⟩ := q_cl hf
  refine j_cv X (st := []) (cM_isOver E F hzx1) gyM_isOver gv_M_isOver_81 rfl (by decide) (by decide) wd_1679 rfl (Nat.le_of_ble_eq_true rfl) dM_right_3 ?_
  refine j_if_eq X (tgt := 24) rfl dM_right_6 (by decide) hf (fun hf => ?_) (fun hf => ?_)
  · refine j_iconst X dM_right_24 ?_
    cases hf
    exact j_iret X dM_right_25 rfl rfl
  · refine j_iload_n X dM_right_9 rfl 3 rfl ?_
    refine j_i2l X rfl dM_right_10 ?_
    refine j_iload_n X dM_right_11 rfl 2 rfl ?_
    refine j_i2l X rfl dM_right_12 ?_
    refine j_aload_n X dM_right_13 rfl 0 rfl ?_
    refine j_cv X (st := [bz_l (w32 a2), bz_l (w32 a3)]) (cM_known0 E) gyM_known0 gv_M_known0_81 rfl (by decide) (by decide) wd_1445 rfl (Nat.le_of_ble_eq_true rfl) dM_right_14 ?_
    refine j_i2l X rfl dM_right_17 ?_
    show bz_J _ _ 18 _ _ _
    refine j_cs X (st := []) (cM_in E) gyM_in wd_1414 rfl (by decide) (by decide) wd_1413 rfl (Nat.le_of_ble_eq_true rfl) dM_right_18 ?_
    refine j_if_ne X (tgt := 26) rfl dM_right_21 (by decide) hf (fun hf => ?_) (fun hf => ?_)
    · refine j_aload_n X dM_right_26 rfl 0 rfl ?_
      refine j_iload_n X dM_right_27 rfl 2 rfl ?_
      refine j_iload_n X dM_right_28 rfl 3 rfl ?_
      refine j_iconst X dM_right_29 ?_
      obtain ⟨m2, hz, hf⟩ := q_cl hf
      refine j_cv X (st := []) (cM_through E F hz) gyM_through gv_M_through_81 rfl (by decide) (by decide) wd_1619 rfl (Nat.le_of_ble_eq_true rfl) dM_right_30 ?_
      clear hz
      refine j_aload_n X dM_right_33 rfl 0 rfl ?_
      refine j_geta X gf_M_148_81 dM_right_34 ?_
      show bz_J _ _ 37 _ _ _
      refine j_iload_n X dM_right_37 rfl 1 rfl ?_
      refine j_aald X sh_195 (by decide) (by decide) dM_right_38 hf (fun i3 hi3 hf => ?_)
      refine j_iload_n X dM_right_39 rfl 2 rfl ?_
      refine j_lald X (sr_195 i3 hi3) dM_right_40 hf (fun x4 hf => ?_)
      refine j_cs X (st := []) (cM_told E) gyM_told wd_1684 rfl (by decide) (by decide) wd_1683 rfl (Nat.le_of_ble_eq_true rfl) dM_right_41 ?_
      cases hf
      exact j_iret X dM_right_44 rfl rfl
    · refine j_iconst X dM_right_24 ?_
      cases hf
      exact j_iret X dM_right_25 rfl rfl
def fM_fee (F : Nat) (M : bz_Mm) (a1 : Int) (a2 : Int) (a3 : Int) : Option (Int × bz_Mm) :=
  cl_ (fM_isOver F M a1 a2) fun x1 =>
  if w32 x1 = 0 then
  (some (((-1), M)))
  else
  (if w32 (fM_in (w32 a3) 0 1) = 0 then
  (some (((-1), M)))
  else
  (if w32 a3 = 0 then
  (ra_ a1 4 fun i5 =>
  rd_ M (217 + i5) a2 260 fun x6 =>
  some ((fM_told x6, M)))
  else
  (cl_ (fM_through F M a2 (fM_known0 M) 0) fun m2 =>
  ra_ a1 4 fun i3 =>
  rd_ m2 (201 + i3) a2 260 fun x4 =>
  some ((fM_told x4, m2)))))
set_option maxHeartbeats 4000000 in
set_option maxRecDepth 20000 in
theorem cM_fee (E : bz_E) (F : Nat)  {M : bz_Mm} {a1 : Int} {a2 : Int} {a3 : Int} {x0 : Int × bz_Mm} (hf : fM_fee F M a1 a2 a3 = some x0) : bz_Ct E yM_fee (.code yM_fee prog_14_method_64_code 4 (some .int)) 6 156 [bz_rf E 81, bz_i a1, bz_i a2, bz_i a3] M (some (bz_i x0.1)) x0.2 := by
  refine bz_met (by decide +kernel) (Nat.le_of_ble_eq_true rfl) (fun K X => ?_)
  have X : bz_X K E prog_14_method_64_code 4 "UnitsWrongModel" (some .int) 6 156 _ _ := X
  unfold fM_fee at hf
  show bz_J K 4 0 [(0, bz_rf E 81), (1, bz_i a1), (2, bz_i a2), (3, bz_i a3)] [] M
  refine j_aload_n X dM_fee_0 rfl 0 rfl ?_
  refine j_iload_n X dM_fee_1 rfl 1 rfl ?_
  refine j_iload_n X dM_fee_2 rfl 2 rfl ?_
  obtain ⟨x1, hzx1, hf⟩ := q_cl hf
  refine j_cv X (st := []) (cM_isOver E F hzx1) gyM_isOver gv_M_isOver_81 rfl (by decide) (by decide) wd_1679 rfl (Nat.le_of_ble_eq_true rfl) dM_fee_3 ?_
  refine j_if_eq X (tgt := 19) rfl dM_fee_6 (by decide) hf (fun hf => ?_) (fun hf => ?_)
  · refine j_iconst X dM_fee_19 ?_
    cases hf
    exact j_iret X dM_fee_20 rfl rfl
  · refine j_iload_n X dM_fee_9 rfl 3 rfl ?_
    refine j_i2l X rfl dM_fee_10 ?_
    refine j_lconst X (v := 0) dM_fee_11 rfl ?_
    refine j_lconst X (v := 1) dM_fee_12 rfl ?_
    refine j_cs X (st := []) (cM_in E) gyM_in wd_1414 rfl (by decide) (by decide) wd_1413 rfl (Nat.le_of_ble_eq_true rfl) dM_fee_13 ?_
    refine j_if_ne X (tgt := 21) rfl dM_fee_16 (by decide) hf (fun hf => ?_) (fun hf => ?_)
    · refine j_iload_n X dM_fee_21 rfl 3 rfl ?_
      refine j_if_ne X (tgt := 37) rfl dM_fee_22 (by decide) hf (fun hf => ?_) (fun hf => ?_)
      · refine j_aload_n X dM_fee_37 rfl 0 rfl ?_
        refine j_iload_n X dM_fee_38 rfl 2 rfl ?_
        refine j_aload_n X dM_fee_39 rfl 0 rfl ?_
        refine j_cv X (st := [bz_i a2, bz_rf E 81]) (cM_known0 E) gyM_known0 gv_M_known0_81 rfl (by decide) (by decide) wd_1445 rfl (Nat.le_of_ble_eq_true rfl) dM_fee_40 ?_
        refine j_iconst X dM_fee_43 ?_
        obtain ⟨m2, hz, hf⟩ := q_cl hf
        refine j_cv X (st := []) (cM_through E F hz) gyM_through gv_M_through_81 rfl (by decide) (by decide) wd_1619 rfl (Nat.le_of_ble_eq_true rfl) dM_fee_44 ?_
        clear hz
        refine j_aload_n X dM_fee_47 rfl 0 rfl ?_
        show bz_J _ _ 48 _ _ _
        refine j_geta X gf_M_151_81 dM_fee_48 ?_
        refine j_iload_n X dM_fee_51 rfl 1 rfl ?_
        refine j_aald X sh_200 (by decide) (by decide) dM_fee_52 hf (fun i3 hi3 hf => ?_)
        refine j_iload_n X dM_fee_53 rfl 2 rfl ?_
        refine j_lald X (sr_200 i3 hi3) dM_fee_54 hf (fun x4 hf => ?_)
        refine j_cs X (st := []) (cM_told E) gyM_told wd_1684 rfl (by decide) (by decide) wd_1683 rfl (Nat.le_of_ble_eq_true rfl) dM_fee_55 ?_
        cases hf
        exact j_iret X dM_fee_58 rfl rfl
      · refine j_aload_n X dM_fee_25 rfl 0 rfl ?_
        refine j_geta X gf_M_163_81 dM_fee_26 ?_
        refine j_iload_n X dM_fee_29 rfl 1 rfl ?_
        refine j_aald X sh_216 (by decide) (by decide) dM_fee_30 hf (fun i5 hi5 hf => ?_)
        refine j_iload_n X dM_fee_31 rfl 2 rfl ?_
        refine j_lald X (sr_216 i5 hi5) dM_fee_32 hf (fun x6 hf => ?_)
        refine j_cs X (st := []) (cM_told E) gyM_told wd_1684 rfl (by decide) (by decide) wd_1683 rfl (Nat.le_of_ble_eq_true rfl) dM_fee_33 ?_
        show bz_J _ _ 36 _ _ _
        cases hf
        exact j_iret X dM_fee_36 rfl rfl
    · refine j_iconst X dM_fee_19 ?_
      cases hf
      exact j_iret X dM_fee_20 rfl rfl
def fM_error (F : Nat) (M : bz_Mm) (a1 : Int) (a2 : Int) (a3 : Int) : Option (Int × bz_Mm) :=
  cl_ (fM_isOver F M a1 a2) fun x1 =>
  if w32 x1 = 0 then
  (some (((-2147483648), M)))
  else
  (if w32 (fM_in (w32 a3) (w32 a2) (w32 (fM_known0 M))) = 0 then
  (some (((-2147483648), M)))
  else
  (cl_ (fM_through F M a2 a3 0) fun m2 =>
  ra_ a1 4 fun i3 =>
  rd_ m2 (212 + i3) a2 260 fun x4 =>
  ra_ a1 4 fun i5 =>
  rd_ m2 (196 + i5) a2 260 fun x6 =>
  some ((fM_told (x4 - x6), m2))))
set_option maxHeartbeats 4000000 in
set_option maxRecDepth 20000 in
theorem cM_error (E : bz_E) (F : Nat)  {M : bz_Mm} {a1 : Int} {a2 : Int} {a3 : Int} {x0 : Int × bz_Mm} (hf : fM_error F M a1 a2 a3 = some x0) : bz_Ct E yM_error (.code yM_error prog_14_method_65_code 4 (some .int)) 6 156 [bz_rf E 81, bz_i a1, bz_i a2, bz_i a3] M (some (bz_i x0.1)) x0.2 := by
  refine bz_met (by decide +kernel) (Nat.le_of_ble_eq_true rfl) (fun K X => ?_)
  have X : bz_X K E prog_14_method_65_code 4 "UnitsWrongModel" (some .int) 6 156 _ _ := X
  unfold fM_error at hf
  show bz_J K 4 0 [(0, bz_rf E 81), (1, bz_i a1), (2, bz_i a2), (3, bz_i a3)] [] M
  refine j_aload_n X dM_error_0 rfl 0 rfl ?_
  refine j_iload_n X dM_error_1 rfl 1 rfl ?_
  refine j_iload_n X dM_error_2 rfl 2 rfl ?_
  obtain ⟨x1, hzx1, hf⟩ := q_cl hf
  refine j_cv X (st := []) (cM_isOver E F hzx1) gyM_isOver gv_M_isOver_81 rfl (by decide) (by decide) wd_1679 rfl (Nat.le_of_ble_eq_true rfl) dM_error_3 ?_
  refine j_if_eq X (tgt := 24) rfl dM_error_6 (by decide) hf (fun hf => ?_) (fun hf => ?_)
  · refine j_ldcw X (v := -2147483648) wd_1453 dM_error_24 ?_
    cases hf
    exact j_iret X dM_error_27 rfl rfl
  · refine j_iload_n X dM_error_9 rfl 3 rfl ?_
    refine j_i2l X rfl dM_error_10 ?_
    refine j_iload_n X dM_error_11 rfl 2 rfl ?_
    refine j_i2l X rfl dM_error_12 ?_
    refine j_aload_n X dM_error_13 rfl 0 rfl ?_
    refine j_cv X (st := [bz_l (w32 a2), bz_l (w32 a3)]) (cM_known0 E) gyM_known0 gv_M_known0_81 rfl (by decide) (by decide) wd_1445 rfl (Nat.le_of_ble_eq_true rfl) dM_error_14 ?_
    refine j_i2l X rfl dM_error_17 ?_
    show bz_J _ _ 18 _ _ _
    refine j_cs X (st := []) (cM_in E) gyM_in wd_1414 rfl (by decide) (by decide) wd_1413 rfl (Nat.le_of_ble_eq_true rfl) dM_error_18 ?_
    refine j_if_ne X (tgt := 28) rfl dM_error_21 (by decide) hf (fun hf => ?_) (fun hf => ?_)
    · refine j_aload_n X dM_error_28 rfl 0 rfl ?_
      refine j_iload_n X dM_error_29 rfl 2 rfl ?_
      refine j_iload_n X dM_error_30 rfl 3 rfl ?_
      refine j_iconst X dM_error_31 ?_
      obtain ⟨m2, hz, hf⟩ := q_cl hf
      refine j_cv X (st := []) (cM_through E F hz) gyM_through gv_M_through_81 rfl (by decide) (by decide) wd_1619 rfl (Nat.le_of_ble_eq_true rfl) dM_error_32 ?_
      clear hz
      refine j_aload_n X dM_error_35 rfl 0 rfl ?_
      refine j_geta X gf_M_160_81 dM_error_36 ?_
      show bz_J _ _ 39 _ _ _
      refine j_iload_n X dM_error_39 rfl 1 rfl ?_
      refine j_aald X sh_211 (by decide) (by decide) dM_error_40 hf (fun i3 hi3 hf => ?_)
      refine j_iload_n X dM_error_41 rfl 2 rfl ?_
      refine j_lald X (sr_211 i3 hi3) dM_error_42 hf (fun x4 hf => ?_)
      refine j_aload_n X dM_error_43 rfl 0 rfl ?_
      refine j_geta X gf_M_148_81 dM_error_44 ?_
      refine j_iload_n X dM_error_47 rfl 1 rfl ?_
      refine j_aald X sh_195 (by decide) (by decide) dM_error_48 hf (fun i5 hi5 hf => ?_)
      show bz_J _ _ 49 _ _ _
      refine j_iload_n X dM_error_49 rfl 2 rfl ?_
      refine j_lald X (sr_195 i5 hi5) dM_error_50 hf (fun x6 hf => ?_)
      refine j_lsub X dM_error_51 ?_
      refine j_cs X (st := []) (cM_told E) gyM_told wd_1684 rfl (by decide) (by decide) wd_1683 rfl (Nat.le_of_ble_eq_true rfl) dM_error_52 ?_
      cases hf
      exact j_iret X dM_error_55 rfl rfl
    · refine j_ldcw X (v := -2147483648) wd_1453 dM_error_24 ?_
      cases hf
      exact j_iret X dM_error_27 rfl rfl
def gM_lastOver (M : bz_Mm) (a1 : Int) : Option Int :=
  if w32 ((M 81 0) - 1) < w32 a1 then
  (some ((M 81 0) - 1))
  else
  (some a1)
def fM_lastOver (M : bz_Mm) (a1 : Int) : Int :=
  if w32 ((M 81 0) - 1) < w32 a1 then
  (((M 81 0) - 1))
  else
  (a1)
theorem tM_lastOver (M : bz_Mm) (a1 : Int) : gM_lastOver M a1 = some (fM_lastOver M a1) := by
  unfold gM_lastOver fM_lastOver
  (repeat' (first | rfl | split))
set_option maxHeartbeats 4000000 in
set_option maxRecDepth 20000 in
theorem cM_lastOver (E : bz_E) {M : bz_Mm} {a1 : Int} : bz_Ct E yM_lastOver (.code yM_lastOver prog_14_method_67_code 2 (some .int)) 0 0 [bz_rf E 81, bz_i a1] M (some (bz_i (fM_lastOver M a1))) M := by
  have hf := tM_lastOver M a1
  refine bz_met (by decide +kernel) (Nat.le_of_ble_eq_true rfl) (fun K X => ?_)
  have X : bz_X K E prog_14_method_67_code 2 "UnitsWrongModel" (some .int) 0 0 _ _ := X
  unfold gM_lastOver at hf
  generalize fM_lastOver M a1 = rr at hf X
  show bz_J K 2 0 [(0, bz_rf E 81), (1, bz_i a1)] [] M
  refine j_aload_n X dM_lastOver_0 rfl 0 rfl ?_
  refine j_geti X gf_M_216_81 dM_lastOver_1 ?_
  refine j_iconst X dM_lastOver_4 ?_
  refine j_isub X dM_lastOver_5 ?_
  refine j_iload_n X dM_lastOver_6 rfl 1 rfl ?_
  refine j_icmp_ge X (tgt := 19) rfl rfl dM_lastOver_7 (by decide) hf (fun hf => ?_) (fun hf => ?_)
  · refine j_iload_n X dM_lastOver_19 rfl 1 rfl ?_
    cases hf
    exact j_iret X dM_lastOver_20 rfl rfl
  · refine j_aload_n X dM_lastOver_10 rfl 0 rfl ?_
    refine j_geti X gf_M_216_81 dM_lastOver_11 ?_
    refine j_iconst X dM_lastOver_14 ?_
    refine j_isub X dM_lastOver_15 ?_
    refine j_goto X (tgt := 20) dM_lastOver_16 (by decide) ?_
    cases hf
    exact j_iret X dM_lastOver_20 rfl rfl
def fM_counts (F : Nat) (M : bz_Mm) (a1 : Int) (a2 : Int) (a3 : Int) : Option (Int) :=
  ra_ a1 4 fun i1 =>
  rd_ M (212 + i1) a2 260 fun x2 =>
  ra_ a1 4 fun i3 =>
  rd_ M (196 + i3) a2 260 fun x4 =>
  lt_ (x2 - x4) fun l4 =>
  cl1_ (if w64 l4 < 0 then
  (some (-l4))
  else
  (some (l4))) fun v6 =>
  ra_ a1 4 fun i7 =>
  rd_ M (196 + i7) a2 260 fun x8 =>
  if w64 ((w32 a3) * x8) < w64 (10000 * v6) then
  (some 1)
  else
  (some 0)
set_option maxHeartbeats 4000000 in
set_option maxRecDepth 20000 in
theorem cM_counts (E : bz_E) (F : Nat)  {M : bz_Mm} {a1 : Int} {a2 : Int} {a3 : Int} {x0 : Int} (hf : fM_counts F M a1 a2 a3 = some x0) : bz_Ct E yM_counts (.code yM_counts prog_14_method_66_code 6 (some .boolean)) 0 0 [bz_rf E 81, bz_i a1, bz_i a2, bz_i a3] M (some (bz_i x0)) M := by
  refine bz_met (by decide +kernel) (Nat.le_of_ble_eq_true rfl) (fun K X => ?_)
  have X : bz_X K E prog_14_method_66_code 6 "UnitsWrongModel" (some .boolean) 0 0 _ _ := X
  unfold fM_counts at hf
  show bz_J K 6 0 [(0, bz_rf E 81), (1, bz_i a1), (2, bz_i a2), (3, bz_i a3)] [] M
  refine j_aload_n X dM_counts_0 rfl 0 rfl ?_
  refine j_geta X gf_M_160_81 dM_counts_1 ?_
  refine j_iload_n X dM_counts_4 rfl 1 rfl ?_
  refine j_aald X sh_211 (by decide) (by decide) dM_counts_5 hf (fun i1 hi1 hf => ?_)
  refine j_iload_n X dM_counts_6 rfl 2 rfl ?_
  refine j_lald X (sr_211 i1 hi1) dM_counts_7 hf (fun x2 hf => ?_)
  refine j_aload_n X dM_counts_8 rfl 0 rfl ?_
  show bz_J _ _ 9 _ _ _
  refine j_geta X gf_M_148_81 dM_counts_9 ?_
  refine j_iload_n X dM_counts_12 rfl 1 rfl ?_
  refine j_aald X sh_195 (by decide) (by decide) dM_counts_13 hf (fun i3 hi3 hf => ?_)
  refine j_iload_n X dM_counts_14 rfl 2 rfl ?_
  refine j_lald X (sr_195 i3 hi3) dM_counts_15 hf (fun x4 hf => ?_)
  refine j_lsub X dM_counts_16 ?_
  refine j_lt (g := bz_l) hf (fun l4 hf => ?_)
  refine j_lstore X (lv' := [(4, bz_l l4), (0, bz_rf E 81), (1, bz_i a1), (2, bz_i a2), (3, bz_i a3)]) dM_counts_17 (by decide) rfl ?_
  refine j_ldc2 X (v := 10000) wd_1437 dM_counts_19 ?_
  show bz_J _ _ 22 _ _ _
  refine j_lload X dM_counts_22 0 rfl ?_
  refine j_lconst X (v := 0) dM_counts_24 rfl ?_
  obtain ⟨resJ5, hf0, hkJ5⟩ := q_l1 hf
  have J5 : ∀ (v6 : Int), some v6 = some resJ5 → bz_J K 6 37 [(0, bz_rf E 81), (1, bz_i a1), (2, bz_i a2), (3, bz_i a3)] [bz_l v6, bz_l 10000] M := by
    intro v6 he
    have hf := hkJ5 _ he
    refine j_lmul X dM_counts_37 ?_
    refine j_iload_n X dM_counts_38 rfl 3 rfl ?_
    refine j_i2l X rfl dM_counts_39 ?_
    refine j_aload_n X dM_counts_40 rfl 0 rfl ?_
    refine j_geta X gf_M_148_81 dM_counts_41 ?_
    refine j_iload_n X dM_counts_44 rfl 1 rfl ?_
    refine j_aald X sh_195 (by decide) (by decide) dM_counts_45 hf (fun i7 hi7 hf => ?_)
    show bz_J _ _ 46 _ _ _
    refine j_iload_n X dM_counts_46 rfl 2 rfl ?_
    refine j_lald X (sr_195 i7 hi7) dM_counts_47 hf (fun x8 hf => ?_)
    refine j_lmul X dM_counts_48 ?_
    refine j_lcmp_le X (tgt := 57) rfl rfl dM_counts_49 dM_counts_50 (by decide) hf (fun hf => ?_) (fun hf => ?_)
    · refine j_iconst X dM_counts_57 ?_
      cases hf
      exact j_zret X (by decide +kernel) dM_counts_58 rfl rfl
    · refine j_iconst X dM_counts_53 ?_
      refine j_goto X (tgt := 58) dM_counts_54 (by decide) ?_
      cases hf
      exact j_zret X (by decide +kernel) dM_counts_58 rfl rfl
  clear hf
  have hf := hf0
  clear hf0
  refine j_lcmp_ge X (tgt := 35) rfl (w64_lit rfl) dM_counts_25 dM_counts_26 (by decide) hf (fun hf => ?_) (fun hf => ?_)
  · refine j_lload X dM_counts_35 0 rfl ?_
    exact j_sub [1, 2, 3, 4] rfl (J5 _ hf)
  · refine j_lload X dM_counts_29 0 rfl ?_
    refine j_lneg X dM_counts_31 ?_
    refine j_goto X (tgt := 37) dM_counts_32 (by decide) ?_
    exact j_sub [1, 2, 3, 4] rfl (J5 _ hf)
def M_errors_L31 (F : Nat) : Nat → bz_Mm → Int → Int → Int → Option (Int)
  | 0, _, _, _, _ => none
  | n + 1, M, l1, l3, l2 =>
    if w32 (fM_lastOver M (fM_known0 M)) < w32 l3 then
    (some l2)
    else
    (cl_ (fM_isOpen F M l3) fun x2 =>
    if w32 x2 = 0 then
    (lt_ (l2 + 0) fun l2 =>
    M_errors_L31 F n M l1 (l3 + 1) l2)
    else
    (cl_ (fM_ruleOf F M l1 (fM_known0 M) 4) fun x3 =>
    cl_ (fM_counts F M l1 l3 x3) fun x4 =>
    if w32 x4 = 0 then
    (lt_ (l2 + 0) fun l2 =>
    M_errors_L31 F n M l1 (l3 + 1) l2)
    else
    (lt_ (l2 + 1) fun l2 =>
    M_errors_L31 F n M l1 (l3 + 1) l2)))
theorem lM_errors_L31 (E : bz_E) (F : Nat) {K : bz_K} {rv : Option Value} {M1 : bz_Mm} (X : bz_X K E prog_14_method_68_code 4 "UnitsWrongModel" (some .int) 6 156 rv M1) {M : bz_Mm} {l1 : Int} {res : (Int)}
    (kx : ∀ (l2 : Int), some l2 = some res → bz_J K 4 84 [(2, bz_i l2)] [] M) :
    ∀ (n : Nat) (l3 : Int) (l2 : Int), M_errors_L31 F n M l1 l3 l2 = some res → bz_J K 4 31 [(3, bz_i l3), (2, bz_i l2), (0, bz_rf E 81), (1, bz_i l1)] [] M := by
  intro n
  induction n with
  | zero => intro l3 l2 hf; cases hf
  | succ n ih =>
    intro l3 l2 hf
    rw [M_errors_L31] at hf
    refine j_iload_n X dM_errors_31 rfl 0 rfl ?_
    refine j_aload_n X dM_errors_32 rfl 2 rfl ?_
    refine j_aload_n X dM_errors_33 rfl 2 rfl ?_
    refine j_cv X (st := [bz_rf E 81, bz_i l3]) (cM_known0 E) gyM_known0 gv_M_known0_81 rfl (by decide) (by decide) wd_1445 rfl (Nat.le_of_ble_eq_true rfl) dM_errors_34 ?_
    refine j_cv X (st := [bz_i l3]) (cM_lastOver E) gyM_lastOver gv_M_lastOver_81 rfl (by decide) (by decide) wd_1703 rfl (Nat.le_of_ble_eq_true rfl) dM_errors_37 ?_
    refine j_icmp_gt X (tgt := 84) rfl rfl dM_errors_40 (by decide) hf (fun hf => ?_) (fun hf => ?_)
    · exact j_sub [1] rfl (kx _ hf)
    · refine j_iload_n X dM_errors_43 rfl 1 rfl ?_
      refine j_aload_n X dM_errors_44 rfl 2 rfl ?_
      refine j_iload_n X dM_errors_45 rfl 0 rfl ?_
      obtain ⟨x2, hzx2, hf⟩ := q_cl hf
      refine j_cv X (st := [bz_i l2]) (cM_isOpen E F hzx2) gyM_isOpen gv_M_isOpen_81 rfl (by decide) (by decide) wd_1420 rfl (Nat.le_of_ble_eq_true rfl) dM_errors_46 ?_
      refine j_if_eq X (tgt := 75) rfl dM_errors_49 (by decide) hf (fun hf => ?_) (fun hf => ?_)
      · refine j_iconst X dM_errors_75 ?_
        refine j_iadd X dM_errors_76 ?_
        refine j_lt (g := bz_i) hf (fun l2 hf => ?_)
        refine j_istore_n X (lv' := [(2, bz_i l2), (3, bz_i l3), (0, bz_rf E 81), (1, bz_i l1)]) dM_errors_77 rfl (by decide) rfl ?_
        refine j_iinc X (y := l3 + 1) (lv' := [(3, bz_i (l3 + 1)), (2, bz_i l2), (0, bz_rf E 81), (1, bz_i l1)]) dM_errors_78 1 rfl rfl (by decide) rfl ?_
        refine j_goto X (tgt := 31) dM_errors_81 (by decide) ?_
        exact ih _ _ hf
      · refine j_aload_n X dM_errors_52 rfl 2 rfl ?_
        refine j_iload_n X dM_errors_53 rfl 3 rfl ?_
        refine j_iload_n X dM_errors_54 rfl 0 rfl ?_
        refine j_aload_n X dM_errors_55 rfl 2 rfl ?_
        refine j_iload_n X dM_errors_56 rfl 3 rfl ?_
        refine j_aload_n X dM_errors_57 rfl 2 rfl ?_
        refine j_cv X (st := [bz_i l1, bz_rf E 81, bz_i l3, bz_i l1, bz_rf E 81, bz_i l2]) (cM_known0 E) gyM_known0 gv_M_known0_81 rfl (by decide) (by decide) wd_1445 rfl (Nat.le_of_ble_eq_true rfl) dM_errors_58 ?_
        show bz_J _ _ 61 _ _ _
        refine j_iconst X dM_errors_61 ?_
        obtain ⟨x3, hzx3, hf⟩ := q_cl hf
        refine j_cv X (st := [bz_i l3, bz_i l1, bz_rf E 81, bz_i l2]) (cM_ruleOf E F hzx3) gyM_ruleOf gv_M_ruleOf_81 rfl (by decide) (by decide) wd_1499 rfl (Nat.le_of_ble_eq_true rfl) dM_errors_62 ?_
        obtain ⟨x4, hzx4, hf⟩ := q_cl hf
        refine j_cv X (st := [bz_i l2]) (cM_counts E F hzx4) gyM_counts gv_M_counts_81 rfl (by decide) (by decide) wd_1707 rfl (Nat.le_of_ble_eq_true rfl) dM_errors_65 ?_
        refine j_if_eq X (tgt := 75) rfl dM_errors_68 (by decide) hf (fun hf => ?_) (fun hf => ?_)
        · refine j_iconst X dM_errors_75 ?_
          refine j_iadd X dM_errors_76 ?_
          refine j_lt (g := bz_i) hf (fun l2 hf => ?_)
          refine j_istore_n X (lv' := [(2, bz_i l2), (3, bz_i l3), (0, bz_rf E 81), (1, bz_i l1)]) dM_errors_77 rfl (by decide) rfl ?_
          refine j_iinc X (y := l3 + 1) (lv' := [(3, bz_i (l3 + 1)), (2, bz_i l2), (0, bz_rf E 81), (1, bz_i l1)]) dM_errors_78 1 rfl rfl (by decide) rfl ?_
          refine j_goto X (tgt := 31) dM_errors_81 (by decide) ?_
          exact ih _ _ hf
        · refine j_iconst X dM_errors_71 ?_
          refine j_goto X (tgt := 76) dM_errors_72 (by decide) ?_
          refine j_iadd X dM_errors_76 ?_
          refine j_lt (g := bz_i) hf (fun l2 hf => ?_)
          refine j_istore_n X (lv' := [(2, bz_i l2), (3, bz_i l3), (0, bz_rf E 81), (1, bz_i l1)]) dM_errors_77 rfl (by decide) rfl ?_
          refine j_iinc X (y := l3 + 1) (lv' := [(3, bz_i (l3 + 1)), (2, bz_i l2), (0, bz_rf E 81), (1, bz_i l1)]) dM_errors_78 1 rfl rfl (by decide) rfl ?_
          refine j_goto X (tgt := 31) dM_errors_81 (by decide) ?_
          exact ih _ _ hf
def fM_errors (F : Nat) (M : bz_Mm) (a1 : Int) : Option (Int × bz_Mm) :=
  if w32 (fM_isFund M a1) = 0 then
  (some (((-1), M)))
  else
  (cl_ (fM_through F M (fM_lastOver M (fM_known0 M)) (fM_known0 M) 0) fun m1 =>
  cl1_ (M_errors_L31 F F m1 a1 0 0) fun l2 =>
  some ((l2, m1)))
set_option maxHeartbeats 4000000 in
set_option maxRecDepth 20000 in
theorem cM_errors (E : bz_E) (F : Nat)  {M : bz_Mm} {a1 : Int} {x0 : Int × bz_Mm} (hf : fM_errors F M a1 = some x0) : bz_Ct E yM_errors (.code yM_errors prog_14_method_68_code 4 (some .int)) 6 156 [bz_rf E 81, bz_i a1] M (some (bz_i x0.1)) x0.2 := by
  refine bz_met (by decide +kernel) (Nat.le_of_ble_eq_true rfl) (fun K X => ?_)
  have X : bz_X K E prog_14_method_68_code 4 "UnitsWrongModel" (some .int) 6 156 _ _ := X
  unfold fM_errors at hf
  show bz_J K 4 0 [(0, bz_rf E 81), (1, bz_i a1)] [] M
  refine j_aload_n X dM_errors_0 rfl 0 rfl ?_
  refine j_iload_n X dM_errors_1 rfl 1 rfl ?_
  refine j_cv X (st := []) (cM_isFund E) gyM_isFund gv_M_isFund_81 rfl (by decide) (by decide) wd_1484 rfl (Nat.le_of_ble_eq_true rfl) dM_errors_2 ?_
  refine j_if_ne X (tgt := 10) rfl dM_errors_5 (by decide) hf (fun hf => ?_) (fun hf => ?_)
  · refine j_iconst X dM_errors_10 ?_
    refine j_istore_n X (lv' := [(2, bz_i 0), (0, bz_rf E 81), (1, bz_i a1)]) dM_errors_11 rfl (by decide) rfl ?_
    refine j_aload_n X dM_errors_12 rfl 1 rfl ?_
    refine j_aload_n X dM_errors_13 rfl 1 rfl ?_
    refine j_aload_n X dM_errors_14 rfl 1 rfl ?_
    refine j_cv X (st := [bz_rf E 81, bz_rf E 81]) (cM_known0 E) gyM_known0 gv_M_known0_81 rfl (by decide) (by decide) wd_1445 rfl (Nat.le_of_ble_eq_true rfl) dM_errors_15 ?_
    refine j_cv X (st := [bz_rf E 81]) (cM_lastOver E) gyM_lastOver gv_M_lastOver_81 rfl (by decide) (by decide) wd_1703 rfl (Nat.le_of_ble_eq_true rfl) dM_errors_18 ?_
    show bz_J _ _ 21 _ _ _
    refine j_aload_n X dM_errors_21 rfl 1 rfl ?_
    refine j_cv X (st := [bz_i (fM_lastOver M (fM_known0 M)), bz_rf E 81]) (cM_known0 E) gyM_known0 gv_M_known0_81 rfl (by decide) (by decide) wd_1445 rfl (Nat.le_of_ble_eq_true rfl) dM_errors_22 ?_
    refine j_iconst X dM_errors_25 ?_
    obtain ⟨m1, hz, hf⟩ := q_cl hf
    refine j_cv X (st := []) (cM_through E F hz) gyM_through gv_M_through_81 rfl (by decide) (by decide) wd_1619 rfl (Nat.le_of_ble_eq_true rfl) dM_errors_26 ?_
    clear hz
    refine j_iconst X dM_errors_29 ?_
    refine j_istore_n X (lv' := [(3, bz_i 0), (2, bz_i 0), (0, bz_rf E 81), (1, bz_i a1)]) dM_errors_30 rfl (by decide) rfl ?_
    obtain ⟨res5, hz5, hk5⟩ := q_l1 hf
    clear hf
    refine lM_errors_L31 E F X (fun l2 he => ?_) F 0 0 hz5
    have hf := hk5 _ he
    refine j_iload_n X dM_errors_84 rfl 0 rfl ?_
    cases hf
    exact j_iret X dM_errors_85 rfl rfl
  · refine j_iconst X dM_errors_8 ?_
    cases hf
    exact j_iret X dM_errors_9 rfl rfl
def gM_canHold (M : bz_Mm) (a1 : Int) (a2 : Int) : Option Int :=
  if w32 (fM_isFund M a2) = 0 then
  (some 0)
  else
  (if w32 a1 < 16 then
  (some 1)
  else
  (if w32 a2 < w32 (a1 - 16) then
  (some 1)
  else
  (some 0)))
def fM_canHold (M : bz_Mm) (a1 : Int) (a2 : Int) : Int :=
  if w32 (fM_isFund M a2) = 0 then
  (0)
  else
  (if w32 a1 < 16 then
  (1)
  else
  (if w32 a2 < w32 (a1 - 16) then
  (1)
  else
  (0)))
theorem tM_canHold (M : bz_Mm) (a1 : Int) (a2 : Int) : gM_canHold M a1 a2 = some (fM_canHold M a1 a2) := by
  unfold gM_canHold fM_canHold
  (repeat' (first | rfl | split))
theorem zM_canHold {M : bz_Mm} {a1 : Int} {a2 : Int} : fM_canHold M a1 a2 = 0 ∨ fM_canHold M a1 a2 = 1 := by
  unfold fM_canHold
  (repeat' (first | exact Or.inl rfl | exact Or.inr rfl | exact zM_isFund | split))
set_option maxHeartbeats 4000000 in
set_option maxRecDepth 20000 in
theorem cM_canHold (E : bz_E) {M : bz_Mm} {a1 : Int} {a2 : Int} : bz_Ct E yM_canHold (.code yM_canHold prog_14_method_69_code 3 (some .boolean)) 2 46 [bz_rf E 81, bz_i a1, bz_i a2] M (some (bz_i (fM_canHold M a1 a2))) M := by
  have hf := tM_canHold M a1 a2
  refine bz_met (by decide +kernel) (Nat.le_of_ble_eq_true rfl) (fun K X => ?_)
  have X : bz_X K E prog_14_method_69_code 3 "UnitsWrongModel" (some .boolean) 2 46 _ _ := X
  unfold gM_canHold at hf
  generalize fM_canHold M a1 a2 = rr at hf X
  show bz_J K 3 0 [(0, bz_rf E 81), (1, bz_i a1), (2, bz_i a2)] [] M
  refine j_aload_n X dM_canHold_0 rfl 0 rfl ?_
  refine j_iload_n X dM_canHold_1 rfl 2 rfl ?_
  refine j_cv X (st := []) (cM_isFund E) gyM_isFund gv_M_isFund_81 rfl (by decide) (by decide) wd_1484 rfl (Nat.le_of_ble_eq_true rfl) dM_canHold_2 ?_
  refine j_if_eq X (tgt := 26) rfl dM_canHold_5 (by decide) hf (fun hf => ?_) (fun hf => ?_)
  · refine j_iconst X dM_canHold_26 ?_
    cases hf
    exact j_zret X (by decide +kernel) dM_canHold_27 rfl rfl
  · refine j_iload_n X dM_canHold_8 rfl 1 rfl ?_
    refine j_bipush X dM_canHold_9 rfl ?_
    refine j_icmp_lt X (tgt := 22) rfl (w32_lit rfl) dM_canHold_11 (by decide) hf (fun hf => ?_) (fun hf => ?_)
    · refine j_iconst X dM_canHold_22 ?_
      refine j_goto X (tgt := 27) dM_canHold_23 (by decide) ?_
      cases hf
      exact j_zret X (by decide +kernel) dM_canHold_27 rfl rfl
    · refine j_iload_n X dM_canHold_14 rfl 2 rfl ?_
      refine j_iload_n X dM_canHold_15 rfl 1 rfl ?_
      refine j_bipush X dM_canHold_16 rfl ?_
      refine j_isub X dM_canHold_18 ?_
      refine j_icmp_ge X (tgt := 26) rfl rfl dM_canHold_19 (by decide) hf (fun hf => ?_) (fun hf => ?_)
      · refine j_iconst X dM_canHold_26 ?_
        cases hf
        exact j_zret X (by decide +kernel) dM_canHold_27 rfl rfl
      · refine j_iconst X dM_canHold_22 ?_
        refine j_goto X (tgt := 27) dM_canHold_23 (by decide) ?_
        cases hf
        exact j_zret X (by decide +kernel) dM_canHold_27 rfl rfl
def M_units_L28 (F : Nat) : Nat → bz_Mm → Int → Int → Int → Int → Option (Int)
  | 0, _, _, _, _, _ => none
  | n + 1, M, l3, l2, l5, l4 =>
    if w32 l5 < w32 (M 81 35) then
    (rd_ M 108 l5 200 fun x1 =>
    if w32 x1 = 0 then
    (lt_ (l4 + 0) fun l4 =>
    M_units_L28 F n M l3 l2 (l5 + 1) l4)
    else
    (rd_ M 103 l5 200 fun x2 =>
    if w32 x2 = w32 l3 then
    (rd_ M 104 l5 200 fun x3 =>
    if w32 x3 = w32 l2 then
    (rd_ M 107 l5 200 fun x4 =>
    lt_ (l4 + x4) fun l4 =>
    M_units_L28 F n M l3 l2 (l5 + 1) l4)
    else
    (lt_ (l4 + 0) fun l4 =>
    M_units_L28 F n M l3 l2 (l5 + 1) l4))
    else
    (lt_ (l4 + 0) fun l4 =>
    M_units_L28 F n M l3 l2 (l5 + 1) l4)))
    else
    (some l4)
theorem lM_units_L28 (E : bz_E) (F : Nat) {K : bz_K} {rv : Option Value} {M1 : bz_Mm} (X : bz_X K E prog_14_method_70_code 6 "UnitsWrongModel" (some .int) 3 68 rv M1) {M : bz_Mm} {l3 : Int} {l2 : Int} {res : (Int)}
    (kx : ∀ (l4 : Int), some l4 = some res → bz_J K 6 91 [(4, bz_i l4)] [] M) :
    ∀ (n : Nat) (l5 : Int) (l4 : Int), M_units_L28 F n M l3 l2 l5 l4 = some res → bz_J K 6 28 [(5, bz_i l5), (4, bz_i l4), (3, bz_i l3), (0, bz_rf E 81), (2, bz_i l2)] [] M := by
  intro n
  induction n with
  | zero => intro l5 l4 hf; cases hf
  | succ n ih =>
    intro l5 l4 hf
    rw [M_units_L28] at hf
    refine j_iload X dM_units_28 0 rfl ?_
    refine j_aload_n X dM_units_30 rfl 3 rfl ?_
    refine j_geti X gf_M_302_81 dM_units_31 ?_
    refine j_icmp_ge X (tgt := 91) rfl rfl dM_units_34 (by decide) hf (fun hf => ?_) (fun hf => ?_)
    · exact j_sub [1] rfl (kx _ hf)
    · refine j_iload X dM_units_37 1 rfl ?_
      refine j_aload_n X dM_units_39 rfl 3 rfl ?_
      refine j_geta X gf_M_89_81 dM_units_40 ?_
      refine j_iload X dM_units_43 0 rfl ?_
      refine j_zald X sh_108 dM_units_45 hf (fun x1 hf => ?_)
      refine j_if_eq X (tgt := 81) rfl dM_units_46 (by decide) hf (fun hf => ?_) (fun hf => ?_)
      · refine j_iconst X dM_units_81 ?_
        refine j_iadd X dM_units_82 ?_
        refine j_lt (g := bz_i) hf (fun l4 hf => ?_)
        refine j_istore X (lv' := [(4, bz_i l4), (5, bz_i l5), (3, bz_i l3), (0, bz_rf E 81), (2, bz_i l2)]) dM_units_83 (by decide) rfl ?_
        refine j_iinc X (y := l5 + 1) (lv' := [(5, bz_i (l5 + 1)), (4, bz_i l4), (3, bz_i l3), (0, bz_rf E 81), (2, bz_i l2)]) dM_units_85 1 rfl rfl (by decide) rfl ?_
        refine j_goto X (tgt := 28) dM_units_88 (by decide) ?_
        exact ih _ _ hf
      · refine j_aload_n X dM_units_49 rfl 3 rfl ?_
        refine j_geta X gf_M_74_81 dM_units_50 ?_
        refine j_iload X dM_units_53 0 rfl ?_
        refine j_iald X sh_103 dM_units_55 hf (fun x2 hf => ?_)
        refine j_iload_n X dM_units_56 rfl 2 rfl ?_
        refine j_icmp_ne X (tgt := 81) rfl rfl dM_units_57 (by decide) hf (fun hf => ?_) (fun hf => ?_)
        · refine j_iconst X dM_units_81 ?_
          refine j_iadd X dM_units_82 ?_
          refine j_lt (g := bz_i) hf (fun l4 hf => ?_)
          refine j_istore X (lv' := [(4, bz_i l4), (5, bz_i l5), (3, bz_i l3), (0, bz_rf E 81), (2, bz_i l2)]) dM_units_83 (by decide) rfl ?_
          refine j_iinc X (y := l5 + 1) (lv' := [(5, bz_i (l5 + 1)), (4, bz_i l4), (3, bz_i l3), (0, bz_rf E 81), (2, bz_i l2)]) dM_units_85 1 rfl rfl (by decide) rfl ?_
          refine j_goto X (tgt := 28) dM_units_88 (by decide) ?_
          exact ih _ _ hf
        · refine j_aload_n X dM_units_60 rfl 3 rfl ?_
          refine j_geta X gf_M_77_81 dM_units_61 ?_
          refine j_iload X dM_units_64 0 rfl ?_
          refine j_iald X sh_104 dM_units_66 hf (fun x3 hf => ?_)
          refine j_iload_n X dM_units_67 rfl 4 rfl ?_
          refine j_icmp_ne X (tgt := 81) rfl rfl dM_units_68 (by decide) hf (fun hf => ?_) (fun hf => ?_)
          · refine j_iconst X dM_units_81 ?_
            refine j_iadd X dM_units_82 ?_
            refine j_lt (g := bz_i) hf (fun l4 hf => ?_)
            refine j_istore X (lv' := [(4, bz_i l4), (5, bz_i l5), (3, bz_i l3), (0, bz_rf E 81), (2, bz_i l2)]) dM_units_83 (by decide) rfl ?_
            refine j_iinc X (y := l5 + 1) (lv' := [(5, bz_i (l5 + 1)), (4, bz_i l4), (3, bz_i l3), (0, bz_rf E 81), (2, bz_i l2)]) dM_units_85 1 rfl rfl (by decide) rfl ?_
            refine j_goto X (tgt := 28) dM_units_88 (by decide) ?_
            exact ih _ _ hf
          · refine j_aload_n X dM_units_71 rfl 3 rfl ?_
            refine j_geta X gf_M_86_81 dM_units_72 ?_
            refine j_iload X dM_units_75 0 rfl ?_
            refine j_iald X sh_107 dM_units_77 hf (fun x4 hf => ?_)
            refine j_goto X (tgt := 82) dM_units_78 (by decide) ?_
            refine j_iadd X dM_units_82 ?_
            refine j_lt (g := bz_i) hf (fun l4 hf => ?_)
            refine j_istore X (lv' := [(4, bz_i l4), (5, bz_i l5), (3, bz_i l3), (0, bz_rf E 81), (2, bz_i l2)]) dM_units_83 (by decide) rfl ?_
            show bz_J _ _ 85 _ _ _
            refine j_iinc X (y := l5 + 1) (lv' := [(5, bz_i (l5 + 1)), (4, bz_i l4), (3, bz_i l3), (0, bz_rf E 81), (2, bz_i l2)]) dM_units_85 1 rfl rfl (by decide) rfl ?_
            refine j_goto X (tgt := 28) dM_units_88 (by decide) ?_
            exact ih _ _ hf
def fM_units (F : Nat) (M : bz_Mm) (a1 : Int) (a2 : Int) : Option (Int) :=
  lt_ (fM_placeOf M a1) fun l3 =>
  if w32 l3 = (-1) then
  (some ((-1)))
  else
  (if w32 (fM_canHold M l3 a2) = 0 then
  (some ((-1)))
  else
  (cl1_ (M_units_L28 F F M l3 a2 0 0) fun l4 =>
  some l4))
set_option maxHeartbeats 4000000 in
set_option maxRecDepth 20000 in
theorem cM_units (E : bz_E) (F : Nat)  {M : bz_Mm} {a1 : Int} {a2 : Int} {x0 : Int} (hf : fM_units F M a1 a2 = some x0) : bz_Ct E yM_units (.code yM_units prog_14_method_70_code 6 (some .int)) 3 68 [bz_rf E 81, bz_i a1, bz_i a2] M (some (bz_i x0)) M := by
  refine bz_met (by decide +kernel) (Nat.le_of_ble_eq_true rfl) (fun K X => ?_)
  have X : bz_X K E prog_14_method_70_code 6 "UnitsWrongModel" (some .int) 3 68 _ _ := X
  unfold fM_units at hf
  show bz_J K 6 0 [(0, bz_rf E 81), (1, bz_i a1), (2, bz_i a2)] [] M
  refine j_aload_n X dM_units_0 rfl 0 rfl ?_
  refine j_iload_n X dM_units_1 rfl 1 rfl ?_
  refine j_cv X (st := []) (cM_placeOf E) gyM_placeOf gv_M_placeOf_81 rfl (by decide) (by decide) wd_1494 rfl (Nat.le_of_ble_eq_true rfl) dM_units_2 ?_
  refine j_lt (g := bz_i) hf (fun l3 hf => ?_)
  refine j_istore_n X (lv' := [(3, bz_i l3), (0, bz_rf E 81), (1, bz_i a1), (2, bz_i a2)]) dM_units_5 rfl (by decide) rfl ?_
  refine j_iload_n X dM_units_6 rfl 0 rfl ?_
  refine j_iconst X dM_units_7 ?_
  refine j_icmp_eq X (tgt := 20) rfl (w32_lit rfl) dM_units_8 (by decide) hf (fun hf => ?_) (fun hf => ?_)
  · refine j_iconst X dM_units_20 ?_
    cases hf
    exact j_iret X dM_units_21 rfl rfl
  · refine j_aload_n X dM_units_11 rfl 1 rfl ?_
    refine j_iload_n X dM_units_12 rfl 0 rfl ?_
    refine j_iload_n X dM_units_13 rfl 3 rfl ?_
    refine j_cv X (st := []) (cM_canHold E) gyM_canHold gv_M_canHold_81 rfl (by decide) (by decide) wd_1715 rfl (Nat.le_of_ble_eq_true rfl) dM_units_14 ?_
    refine j_if_ne X (tgt := 22) rfl dM_units_17 (by decide) hf (fun hf => ?_) (fun hf => ?_)
    · refine j_iconst X dM_units_22 ?_
      refine j_istore X (lv' := [(4, bz_i 0), (3, bz_i l3), (0, bz_rf E 81), (1, bz_i a1), (2, bz_i a2)]) dM_units_23 (by decide) rfl ?_
      refine j_iconst X dM_units_25 ?_
      refine j_istore X (lv' := [(5, bz_i 0), (4, bz_i 0), (3, bz_i l3), (0, bz_rf E 81), (1, bz_i a1), (2, bz_i a2)]) dM_units_26 (by decide) rfl ?_
      obtain ⟨res5, hz5, hk5⟩ := q_l1 hf
      clear hf
      refine j_sub [0, 1, 2, 3, 5] rfl ?_
      refine lM_units_L28 E F X (fun l4 he => ?_) F 0 0 hz5
      have hf := hk5 _ he
      refine j_iload X dM_units_91 0 rfl ?_
      cases hf
      exact j_iret X dM_units_93 rfl rfl
    · refine j_iconst X dM_units_20 ?_
      cases hf
      exact j_iret X dM_units_21 rfl rfl
def gM_isKnownDay (M : bz_Mm) (a1 : Int) : Option Int :=
  some (fM_in (w32 a1) 0 (w32 (fM_known0 M)))
def fM_isKnownDay (M : bz_Mm) (a1 : Int) : Int :=
  (fM_in (w32 a1) 0 (w32 (fM_known0 M)))
theorem tM_isKnownDay (M : bz_Mm) (a1 : Int) : gM_isKnownDay M a1 = some (fM_isKnownDay M a1) := by
  unfold gM_isKnownDay fM_isKnownDay
  (repeat' (first | rfl | split))
theorem zM_isKnownDay {M : bz_Mm} {a1 : Int} : fM_isKnownDay M a1 = 0 ∨ fM_isKnownDay M a1 = 1 := by
  unfold fM_isKnownDay
  (repeat' (first | exact Or.inl rfl | exact Or.inr rfl | exact zM_in | split))
set_option maxHeartbeats 4000000 in
set_option maxRecDepth 20000 in
theorem cM_isKnownDay (E : bz_E) {M : bz_Mm} {a1 : Int} : bz_Ct E yM_isKnownDay (.code yM_isKnownDay prog_14_method_76_code 2 (some .boolean)) 1 25 [bz_rf E 81, bz_i a1] M (some (bz_i (fM_isKnownDay M a1))) M := by
  have hf := tM_isKnownDay M a1
  refine bz_met (by decide +kernel) (Nat.le_of_ble_eq_true rfl) (fun K X => ?_)
  have X : bz_X K E prog_14_method_76_code 2 "UnitsWrongModel" (some .boolean) 1 25 _ _ := X
  unfold gM_isKnownDay at hf
  generalize fM_isKnownDay M a1 = rr at hf X
  show bz_J K 2 0 [(0, bz_rf E 81), (1, bz_i a1)] [] M
  refine j_iload_n X dM_isKnownDay_0 rfl 1 rfl ?_
  refine j_i2l X rfl dM_isKnownDay_1 ?_
  refine j_lconst X (v := 0) dM_isKnownDay_2 rfl ?_
  refine j_aload_n X dM_isKnownDay_3 rfl 0 rfl ?_
  refine j_cv X (st := [bz_l 0, bz_l (w32 a1)]) (cM_known0 E) gyM_known0 gv_M_known0_81 rfl (by decide) (by decide) wd_1445 rfl (Nat.le_of_ble_eq_true rfl) dM_isKnownDay_4 ?_
  refine j_i2l X rfl dM_isKnownDay_7 ?_
  refine j_cs X (st := []) (cM_in E) gyM_in wd_1414 rfl (by decide) (by decide) wd_1413 rfl (Nat.le_of_ble_eq_true rfl) dM_isKnownDay_8 ?_
  show bz_J _ _ 11 _ _ _
  cases hf
  exact j_zret X (bz_zz zM_in) dM_isKnownDay_11 rfl rfl
def M_sums_L3 (F : Nat) : Nat → Int → Int → Int → Int → bz_Mm → Option (bz_Mm)
  | 0, _, _, _, _, _ => none
  | n + 1, l1, l2, l3, l4, M =>
    if w32 l4 < 20 then
    (wa_ M 223 l4 20 0 fun m1 =>
    wa_ m1 224 l4 20 0 fun m2 =>
    M_sums_L3 F n l1 l2 l3 (l4 + 1) m2)
    else
    (some M)
def M_sums_L35 (F : Nat) : Nat → Int → Int → Int → Int → bz_Mm → Option (bz_Mm)
  | 0, _, _, _, _, _ => none
  | n + 1, l1, l2, l3, l4, M =>
    if w32 l4 < w32 (M 81 35) then
    (rd_ M 104 l4 200 fun x4 =>
    if w32 x4 = w32 l1 then
    (rd_ M 108 l4 200 fun x5 =>
    if w32 x5 = 0 then
    (M_sums_L35 F n l1 l2 l3 (l4 + 1) M)
    else
    (rd_ M 106 l4 200 fun x6 =>
    if w32 (fM_lastOver M l2) < w32 x6 then
    (M_sums_L35 F n l1 l2 l3 (l4 + 1) M)
    else
    (rd_ M 106 l4 200 fun x7 =>
    cl_ (fM_counts F M l1 x7 l3) fun x8 =>
    if w32 x8 = 0 then
    (M_sums_L35 F n l1 l2 l3 (l4 + 1) M)
    else
    (rd_ M 109 l4 200 fun x9 =>
    rd_ M 189 l4 200 fun x10 =>
    lt_ (x9 - x10) fun l5 =>
    rd_ M 107 l4 200 fun x11 =>
    cl1_ (if w32 x11 < 0 then
    (lt_ (-l5) fun l5 =>
    some (l5))
    else
    (some (l5))) fun l5 =>
    if 0 < w64 l5 then
    (rd_ M 103 l4 200 fun x16 =>
    rd_ M 223 x16 20 fun x17 =>
    wa_ M 223 x16 20 (x17 + l5) fun m18 =>
    M_sums_L35 F n l1 l2 l3 (l4 + 1) m18)
    else
    (rd_ M 103 l4 200 fun x13 =>
    rd_ M 224 x13 20 fun x14 =>
    wa_ M 224 x13 20 (x14 - l5) fun m15 =>
    M_sums_L35 F n l1 l2 l3 (l4 + 1) m15)))))
    else
    (M_sums_L35 F n l1 l2 l3 (l4 + 1) M))
    else
    (some M)
theorem lM_sums_L3 (E : bz_E) (F : Nat) {K : bz_K} {rv : Option Value} {M1 : bz_Mm} (X : bz_X K E prog_14_method_71_code 7 "UnitsWrongModel" none 1 25 rv M1) {l1 : Int} {l2 : Int} {l3 : Int} {res : (bz_Mm)}
    (kx : ∀ (M : bz_Mm), some M = some res → bz_J K 7 32 [(0, bz_rf E 81), (1, bz_i l1), (2, bz_i l2), (3, bz_i l3)] [] M) :
    ∀ (n : Nat) (l4 : Int) (M : bz_Mm), M_sums_L3 F n l1 l2 l3 l4 M = some res → bz_J K 7 3 [(4, bz_i l4), (0, bz_rf E 81), (1, bz_i l1), (2, bz_i l2), (3, bz_i l3)] [] M := by
  intro n
  induction n with
  | zero => intro l4 M hf; cases hf
  | succ n ih =>
    intro l4 M hf
    rw [M_sums_L3] at hf
    refine j_iload X dM_sums_3 0 rfl ?_
    refine j_bipush X dM_sums_5 rfl ?_
    refine j_icmp_ge X (tgt := 32) rfl (w32_lit rfl) dM_sums_7 (by decide) hf (fun hf => ?_) (fun hf => ?_)
    · exact j_sub [1, 2, 3, 4] rfl (kx _ hf)
    · refine j_aload_n X dM_sums_10 rfl 1 rfl ?_
      refine j_geta X gf_M_172_81 dM_sums_11 ?_
      refine j_iload X dM_sums_14 0 rfl ?_
      refine j_lconst X (v := 0) dM_sums_16 rfl ?_
      refine j_last X sh_223 dM_sums_17 hf (fun m1 hf => ?_)
      refine j_aload_n X dM_sums_18 rfl 1 rfl ?_
      refine j_geta X gf_M_175_81 dM_sums_19 ?_
      show bz_J _ _ 22 _ _ _
      refine j_iload X dM_sums_22 0 rfl ?_
      refine j_lconst X (v := 0) dM_sums_24 rfl ?_
      refine j_last X sh_224 dM_sums_25 hf (fun m2 hf => ?_)
      refine j_iinc X (y := l4 + 1) (lv' := [(4, bz_i (l4 + 1)), (0, bz_rf E 81), (1, bz_i l1), (2, bz_i l2), (3, bz_i l3)]) dM_sums_26 0 rfl rfl (by decide) rfl ?_
      refine j_goto X (tgt := 3) dM_sums_29 (by decide) ?_
      exact ih _ _ hf
theorem lM_sums_L35 (E : bz_E) (F : Nat) {K : bz_K} {rv : Option Value} {M1 : bz_Mm} (X : bz_X K E prog_14_method_71_code 7 "UnitsWrongModel" none 1 25 rv M1) {l1 : Int} {l2 : Int} {l3 : Int} {res : (bz_Mm)}
    (kx : ∀ (M : bz_Mm), some M = some res → bz_J K 7 181 [] [] M) :
    ∀ (n : Nat) (l4 : Int) (M : bz_Mm), M_sums_L35 F n l1 l2 l3 l4 M = some res → bz_J K 7 35 [(4, bz_i l4), (0, bz_rf E 81), (1, bz_i l1), (2, bz_i l2), (3, bz_i l3)] [] M := by
  intro n
  induction n with
  | zero => intro l4 M hf; cases hf
  | succ n ih =>
    intro l4 M hf
    rw [M_sums_L35] at hf
    refine j_iload X dM_sums_35 0 rfl ?_
    refine j_aload_n X dM_sums_37 rfl 1 rfl ?_
    refine j_geti X gf_M_302_81 dM_sums_38 ?_
    refine j_icmp_ge X (tgt := 181) rfl rfl dM_sums_41 (by decide) hf (fun hf => ?_) (fun hf => ?_)
    · exact j_sub [] rfl (kx _ hf)
    · refine j_aload_n X dM_sums_44 rfl 1 rfl ?_
      refine j_geta X gf_M_77_81 dM_sums_45 ?_
      refine j_iload X dM_sums_48 0 rfl ?_
      refine j_iald X sh_104 dM_sums_50 hf (fun x4 hf => ?_)
      refine j_iload_n X dM_sums_51 rfl 2 rfl ?_
      refine j_icmp_ne X (tgt := 175) rfl rfl dM_sums_52 (by decide) hf (fun hf => ?_) (fun hf => ?_)
      · refine j_iinc X (y := l4 + 1) (lv' := [(4, bz_i (l4 + 1)), (0, bz_rf E 81), (1, bz_i l1), (2, bz_i l2), (3, bz_i l3)]) dM_sums_175 0 rfl rfl (by decide) rfl ?_
        refine j_goto X (tgt := 35) dM_sums_178 (by decide) ?_
        exact ih _ _ hf
      · refine j_aload_n X dM_sums_55 rfl 1 rfl ?_
        refine j_geta X gf_M_89_81 dM_sums_56 ?_
        refine j_iload X dM_sums_59 0 rfl ?_
        refine j_zald X sh_108 dM_sums_61 hf (fun x5 hf => ?_)
        refine j_if_eq X (tgt := 175) rfl dM_sums_62 (by decide) hf (fun hf => ?_) (fun hf => ?_)
        · refine j_iinc X (y := l4 + 1) (lv' := [(4, bz_i (l4 + 1)), (0, bz_rf E 81), (1, bz_i l1), (2, bz_i l2), (3, bz_i l3)]) dM_sums_175 0 rfl rfl (by decide) rfl ?_
          refine j_goto X (tgt := 35) dM_sums_178 (by decide) ?_
          exact ih _ _ hf
        · refine j_aload_n X dM_sums_65 rfl 1 rfl ?_
          refine j_geta X gf_M_83_81 dM_sums_66 ?_
          refine j_iload X dM_sums_69 0 rfl ?_
          refine j_iald X sh_106 dM_sums_71 hf (fun x6 hf => ?_)
          refine j_aload_n X dM_sums_72 rfl 1 rfl ?_
          refine j_iload_n X dM_sums_73 rfl 3 rfl ?_
          refine j_cv X (st := [bz_i x6]) (cM_lastOver E) gyM_lastOver gv_M_lastOver_81 rfl (by decide) (by decide) wd_1703 rfl (Nat.le_of_ble_eq_true rfl) dM_sums_74 ?_
          show bz_J _ _ 77 _ _ _
          refine j_icmp_gt X (tgt := 175) rfl rfl dM_sums_77 (by decide) hf (fun hf => ?_) (fun hf => ?_)
          · refine j_iinc X (y := l4 + 1) (lv' := [(4, bz_i (l4 + 1)), (0, bz_rf E 81), (1, bz_i l1), (2, bz_i l2), (3, bz_i l3)]) dM_sums_175 0 rfl rfl (by decide) rfl ?_
            refine j_goto X (tgt := 35) dM_sums_178 (by decide) ?_
            exact ih _ _ hf
          · refine j_aload_n X dM_sums_80 rfl 1 rfl ?_
            refine j_iload_n X dM_sums_81 rfl 2 rfl ?_
            refine j_aload_n X dM_sums_82 rfl 1 rfl ?_
            refine j_geta X gf_M_83_81 dM_sums_83 ?_
            refine j_iload X dM_sums_86 0 rfl ?_
            refine j_iald X sh_106 dM_sums_88 hf (fun x7 hf => ?_)
            refine j_iload_n X dM_sums_89 rfl 4 rfl ?_
            show bz_J _ _ 90 _ _ _
            obtain ⟨x8, hzx8, hf⟩ := q_cl hf
            refine j_cv X (st := []) (cM_counts E F hzx8) gyM_counts gv_M_counts_81 rfl (by decide) (by decide) wd_1707 rfl (Nat.le_of_ble_eq_true rfl) dM_sums_90 ?_
            refine j_if_ne X (tgt := 99) rfl dM_sums_93 (by decide) hf (fun hf => ?_) (fun hf => ?_)
            · refine j_aload_n X dM_sums_99 rfl 1 rfl ?_
              refine j_geta X gf_M_92_81 dM_sums_100 ?_
              refine j_iload X dM_sums_103 0 rfl ?_
              refine j_lald X sh_109 dM_sums_105 hf (fun x9 hf => ?_)
              refine j_aload_n X dM_sums_106 rfl 1 rfl ?_
              refine j_geta X gf_M_140_81 dM_sums_107 ?_
              refine j_iload X dM_sums_110 0 rfl ?_
              show bz_J _ _ 112 _ _ _
              refine j_lald X sh_189 dM_sums_112 hf (fun x10 hf => ?_)
              refine j_lsub X dM_sums_113 ?_
              refine j_lt (g := bz_l) hf (fun l5 hf => ?_)
              refine j_lstore X (lv' := [(5, bz_l l5), (4, bz_i l4), (0, bz_rf E 81), (1, bz_i l1), (2, bz_i l2), (3, bz_i l3)]) dM_sums_114 (by decide) rfl ?_
              refine j_aload_n X dM_sums_116 rfl 2 rfl ?_
              refine j_geta X gf_M_86_81 dM_sums_117 ?_
              refine j_iload X dM_sums_120 1 rfl ?_
              refine j_iald X sh_107 dM_sums_122 hf (fun x11 hf => ?_)
              obtain ⟨resJ12, hf0, hkJ12⟩ := q_l1 hf
              have J12 : ∀ (l5 : Int), some l5 = some resJ12 → bz_J K 7 131 [(5, bz_l l5), (4, bz_i l4), (0, bz_rf E 81), (1, bz_i l1), (2, bz_i l2), (3, bz_i l3)] [] M := by
                intro l5 he
                have hf := hkJ12 _ he
                refine j_lload X dM_sums_131 0 rfl ?_
                refine j_lconst X (v := 0) dM_sums_133 rfl ?_
                refine j_lcmp_le X (tgt := 158) rfl (w64_lit rfl) dM_sums_134 dM_sums_135 (by decide) hf (fun hf => ?_) (fun hf => ?_)
                · refine j_aload_n X dM_sums_158 rfl 2 rfl ?_
                  refine j_geta X gf_M_175_81 dM_sums_159 ?_
                  refine j_aload_n X dM_sums_162 rfl 2 rfl ?_
                  refine j_geta X gf_M_74_81 dM_sums_163 ?_
                  refine j_iload X dM_sums_166 1 rfl ?_
                  refine j_iald X sh_103 dM_sums_168 hf (fun x13 hf => ?_)
                  refine j_dup2 X dM_sums_169 rfl rfl ?_
                  show bz_J _ _ 170 _ _ _
                  refine j_lald X sh_224 dM_sums_170 hf (fun x14 hf => ?_)
                  refine j_lload X dM_sums_171 0 rfl ?_
                  refine j_lsub X dM_sums_173 ?_
                  refine j_last X sh_224 dM_sums_174 hf (fun m15 hf => ?_)
                  refine j_iinc X (y := l4 + 1) (lv' := [(4, bz_i (l4 + 1)), (5, bz_l l5), (0, bz_rf E 81), (1, bz_i l1), (2, bz_i l2), (3, bz_i l3)]) dM_sums_175 1 rfl rfl (by decide) rfl ?_
                  refine j_goto X (tgt := 35) dM_sums_178 (by decide) ?_
                  exact j_sub [0, 2, 3, 4, 5] rfl (ih _ _ hf)
                · refine j_aload_n X dM_sums_138 rfl 2 rfl ?_
                  refine j_geta X gf_M_172_81 dM_sums_139 ?_
                  refine j_aload_n X dM_sums_142 rfl 2 rfl ?_
                  refine j_geta X gf_M_74_81 dM_sums_143 ?_
                  refine j_iload X dM_sums_146 1 rfl ?_
                  refine j_iald X sh_103 dM_sums_148 hf (fun x16 hf => ?_)
                  refine j_dup2 X dM_sums_149 rfl rfl ?_
                  show bz_J _ _ 150 _ _ _
                  refine j_lald X sh_223 dM_sums_150 hf (fun x17 hf => ?_)
                  refine j_lload X dM_sums_151 0 rfl ?_
                  refine j_ladd X dM_sums_153 ?_
                  refine j_last X sh_223 dM_sums_154 hf (fun m18 hf => ?_)
                  refine j_goto X (tgt := 175) dM_sums_155 (by decide) ?_
                  refine j_iinc X (y := l4 + 1) (lv' := [(4, bz_i (l4 + 1)), (5, bz_l l5), (0, bz_rf E 81), (1, bz_i l1), (2, bz_i l2), (3, bz_i l3)]) dM_sums_175 1 rfl rfl (by decide) rfl ?_
                  refine j_goto X (tgt := 35) dM_sums_178 (by decide) ?_
                  exact j_sub [0, 2, 3, 4, 5] rfl (ih _ _ hf)
              clear hf
              have hf := hf0
              clear hf0
              refine j_if_ge X (tgt := 131) rfl dM_sums_123 (by decide) hf (fun hf => ?_) (fun hf => ?_)
              · exact J12 _ hf
              · refine j_lload X dM_sums_126 0 rfl ?_
                refine j_lneg X dM_sums_128 ?_
                refine j_lt (g := bz_l) hf (fun l5 hf => ?_)
                refine j_lstore X (lv' := [(5, bz_l l5), (4, bz_i l4), (0, bz_rf E 81), (1, bz_i l1), (2, bz_i l2), (3, bz_i l3)]) dM_sums_129 (by decide) rfl ?_
                exact J12 _ hf
            · refine j_goto X (tgt := 175) dM_sums_96 (by decide) ?_
              refine j_iinc X (y := l4 + 1) (lv' := [(4, bz_i (l4 + 1)), (0, bz_rf E 81), (1, bz_i l1), (2, bz_i l2), (3, bz_i l3)]) dM_sums_175 0 rfl rfl (by decide) rfl ?_
              refine j_goto X (tgt := 35) dM_sums_178 (by decide) ?_
              exact ih _ _ hf
def fM_sums (F : Nat) (M : bz_Mm) (a1 : Int) (a2 : Int) (a3 : Int) : Option (bz_Mm) :=
  cl1_ (M_sums_L3 F F a1 a2 a3 0 M) fun m3 =>
  cl1_ (M_sums_L35 F F a1 a2 a3 0 m3) fun m19 =>
  some m19
set_option maxHeartbeats 4000000 in
set_option maxRecDepth 20000 in
theorem cM_sums (E : bz_E) (F : Nat)  {M : bz_Mm} {a1 : Int} {a2 : Int} {a3 : Int} {x0 : bz_Mm} (hf : fM_sums F M a1 a2 a3 = some x0) : bz_Ct E yM_sums (.code yM_sums prog_14_method_71_code 7 none) 1 25 [bz_rf E 81, bz_i a1, bz_i a2, bz_i a3] M (none) x0 := by
  refine bz_met (by decide +kernel) (Nat.le_of_ble_eq_true rfl) (fun K X => ?_)
  have X : bz_X K E prog_14_method_71_code 7 "UnitsWrongModel" none 1 25 _ _ := X
  unfold fM_sums at hf
  show bz_J K 7 0 [(0, bz_rf E 81), (1, bz_i a1), (2, bz_i a2), (3, bz_i a3)] [] M
  refine j_iconst X dM_sums_0 ?_
  refine j_istore X (lv' := [(4, bz_i 0), (0, bz_rf E 81), (1, bz_i a1), (2, bz_i a2), (3, bz_i a3)]) dM_sums_1 (by decide) rfl ?_
  obtain ⟨res21, hz21, hk21⟩ := q_l1 hf
  clear hf
  refine lM_sums_L3 E F X (fun m3 he => ?_) F 0 M hz21
  have hf := hk21 _ he
  refine j_iconst X dM_sums_32 ?_
  refine j_istore X (lv' := [(4, bz_i 0), (0, bz_rf E 81), (1, bz_i a1), (2, bz_i a2), (3, bz_i a3)]) dM_sums_33 (by decide) rfl ?_
  obtain ⟨res20, hz20, hk20⟩ := q_l1 hf
  clear hf
  refine lM_sums_L35 E F X (fun m19 he => ?_) F 0 m3 hz20
  have hf := hk20 _ he
  cases hf
  exact j_vret X dM_sums_181 rfl rfl
def fM_isToParty (F : Nat) (M : bz_Mm) (a1 : Int) (a2 : Int) : Option (Int) :=
  rd_ M 96 a1 4 fun x1 =>
  if w32 x1 = (-1) then
  (some 0)
  else
  (rd_ M 96 a1 4 fun x2 =>
  cl_ (fM_ruleOf F M a1 a2 8) fun x3 =>
  if w32 (a2 - x2) < w32 x3 then
  (some 0)
  else
  (some 1))
set_option maxHeartbeats 4000000 in
set_option maxRecDepth 20000 in
theorem cM_isToParty (E : bz_E) (F : Nat)  {M : bz_Mm} {a1 : Int} {a2 : Int} {x0 : Int} (hf : fM_isToParty F M a1 a2 = some x0) : bz_Ct E yM_isToParty (.code yM_isToParty prog_14_method_72_code 3 (some .boolean)) 1 25 [bz_rf E 81, bz_i a1, bz_i a2] M (some (bz_i x0)) M := by
  refine bz_met (by decide +kernel) (Nat.le_of_ble_eq_true rfl) (fun K X => ?_)
  have X : bz_X K E prog_14_method_72_code 3 "UnitsWrongModel" (some .boolean) 1 25 _ _ := X
  unfold fM_isToParty at hf
  show bz_J K 3 0 [(0, bz_rf E 81), (1, bz_i a1), (2, bz_i a2)] [] M
  refine j_aload_n X dM_isToParty_0 rfl 0 rfl ?_
  refine j_geta X gf_M_53_81 dM_isToParty_1 ?_
  refine j_iload_n X dM_isToParty_4 rfl 1 rfl ?_
  refine j_iald X sh_96 dM_isToParty_5 hf (fun x1 hf => ?_)
  refine j_iconst X dM_isToParty_6 ?_
  refine j_icmp_eq X (tgt := 33) rfl (w32_lit rfl) dM_isToParty_7 (by decide) hf (fun hf => ?_) (fun hf => ?_)
  · refine j_iconst X dM_isToParty_33 ?_
    cases hf
    exact j_zret X (by decide +kernel) dM_isToParty_34 rfl rfl
  · refine j_iload_n X dM_isToParty_10 rfl 2 rfl ?_
    refine j_aload_n X dM_isToParty_11 rfl 0 rfl ?_
    refine j_geta X gf_M_53_81 dM_isToParty_12 ?_
    refine j_iload_n X dM_isToParty_15 rfl 1 rfl ?_
    refine j_iald X sh_96 dM_isToParty_16 hf (fun x2 hf => ?_)
    refine j_isub X dM_isToParty_17 ?_
    refine j_aload_n X dM_isToParty_18 rfl 0 rfl ?_
    show bz_J _ _ 19 _ _ _
    refine j_iload_n X dM_isToParty_19 rfl 1 rfl ?_
    refine j_iload_n X dM_isToParty_20 rfl 2 rfl ?_
    refine j_bipush X dM_isToParty_21 rfl ?_
    obtain ⟨x3, hzx3, hf⟩ := q_cl hf
    refine j_cv X (st := [bz_i (a2 - x2)]) (cM_ruleOf E F hzx3) gyM_ruleOf gv_M_ruleOf_81 rfl (by decide) (by decide) wd_1499 rfl (Nat.le_of_ble_eq_true rfl) dM_isToParty_23 ?_
    refine j_icmp_lt X (tgt := 33) rfl rfl dM_isToParty_26 (by decide) hf (fun hf => ?_) (fun hf => ?_)
    · refine j_iconst X dM_isToParty_33 ?_
      cases hf
      exact j_zret X (by decide +kernel) dM_isToParty_34 rfl rfl
    · refine j_iconst X dM_isToParty_29 ?_
      refine j_goto X (tgt := 34) dM_isToParty_30 (by decide) ?_
      cases hf
      exact j_zret X (by decide +kernel) dM_isToParty_34 rfl rfl
def fM_judges (F : Nat) (M : bz_Mm) (a1 : Int) (a2 : Int) (a3 : Int) : Option (bz_Mm) :=
  cl_ (fM_ruleOf F M a1 a3 7) fun x1 =>
  rd_ M 223 a2 20 fun x2 =>
  wa_ M 225 a2 20 x2 fun m3 =>
  cl1_ (if w32 x1 = (-1) then
  (some (m3))
  else
  (rd_ m3 223 a2 20 fun x5 =>
  rd_ m3 224 a2 20 fun x6 =>
  wa_ m3 225 a2 20 (x5 - x6) fun m7 =>
  rd_ m7 225 a2 20 fun x8 =>
  if w64 x8 < 0 then
  (rd_ m7 225 a2 20 fun x9 =>
  if w64 x9 < w64 (w32 (-x1)) then
  (some (m7))
  else
  (wa_ m7 225 a2 20 0 fun m10 =>
  some (m10)))
  else
  (some (m7)))) fun m11 =>
  wa_ m11 226 a2 20 0 fun m12 =>
  rd_ m12 225 a2 20 fun x13 =>
  if 0 < w64 x13 then
  (cl1_ (if w32 a2 < 16 then
  (rd_ m12 95 a2 16 fun x16 =>
  if w32 x16 = (-1) then
  (some (0))
  else
  (rd_ m12 95 a2 16 fun x17 =>
  if w32 a3 < w32 x17 then
  (some (0))
  else
  (some (1))))
  else
  (some (0))) fun v15 =>
  rd_ m12 225 a2 20 fun x18 =>
  cl_ (fM_ruleOf F m12 a1 a3 5) fun x19 =>
  if w64 x18 < w64 (w32 x19) then
  (wa_ m12 226 a2 20 1 fun m23 =>
  some m23)
  else
  (if w32 v15 = 0 then
  (some m12)
  else
  (cl_ (fM_isToParty F m12 a1 a3) fun x20 =>
  if w32 x20 = 0 then
  (wa_ m12 226 a2 20 2 fun m21 =>
  some m21)
  else
  (wa_ m12 226 a2 20 3 fun m22 =>
  some m22))))
  else
  (some m12)
set_option maxHeartbeats 4000000 in
set_option maxRecDepth 20000 in
theorem cM_judges (E : bz_E) (F : Nat)  {M : bz_Mm} {a1 : Int} {a2 : Int} {a3 : Int} {x0 : bz_Mm} (hf : fM_judges F M a1 a2 a3 = some x0) : bz_Ct E yM_judges (.code yM_judges prog_14_method_73_code 6 none) 2 47 [bz_rf E 81, bz_i a1, bz_i a2, bz_i a3] M (none) x0 := by
  refine bz_met (by decide +kernel) (Nat.le_of_ble_eq_true rfl) (fun K X => ?_)
  have X : bz_X K E prog_14_method_73_code 6 "UnitsWrongModel" none 2 47 _ _ := X
  unfold fM_judges at hf
  show bz_J K 6 0 [(0, bz_rf E 81), (1, bz_i a1), (2, bz_i a2), (3, bz_i a3)] [] M
  refine j_aload_n X dM_judges_0 rfl 0 rfl ?_
  refine j_iload_n X dM_judges_1 rfl 1 rfl ?_
  refine j_iload_n X dM_judges_2 rfl 3 rfl ?_
  refine j_bipush X dM_judges_3 rfl ?_
  obtain ⟨x1, hzx1, hf⟩ := q_cl hf
  refine j_cv X (st := []) (cM_ruleOf E F hzx1) gyM_ruleOf gv_M_ruleOf_81 rfl (by decide) (by decide) wd_1499 rfl (Nat.le_of_ble_eq_true rfl) dM_judges_5 ?_
  refine j_istore X (lv' := [(4, bz_i x1), (0, bz_rf E 81), (1, bz_i a1), (2, bz_i a2), (3, bz_i a3)]) dM_judges_8 (by decide) rfl ?_
  refine j_aload_n X dM_judges_10 rfl 1 rfl ?_
  show bz_J _ _ 11 _ _ _
  refine j_geta X gf_M_178_81 dM_judges_11 ?_
  refine j_iload_n X dM_judges_14 rfl 3 rfl ?_
  refine j_aload_n X dM_judges_15 rfl 1 rfl ?_
  refine j_geta X gf_M_172_81 dM_judges_16 ?_
  refine j_iload_n X dM_judges_19 rfl 3 rfl ?_
  refine j_lald X sh_223 dM_judges_20 hf (fun x2 hf => ?_)
  refine j_last X sh_225 dM_judges_21 hf (fun m3 hf => ?_)
  refine j_iload X dM_judges_22 0 rfl ?_
  show bz_J _ _ 24 _ _ _
  refine j_iconst X dM_judges_24 ?_
  obtain ⟨resJ4, hf0, hkJ4⟩ := q_l1 hf
  have J4 : ∀ (m11 : bz_Mm), some m11 = some resJ4 → bz_J K 6 79 [(0, bz_rf E 81), (1, bz_i a1), (2, bz_i a2), (3, bz_i a3)] [] m11 := by
    intro m11 he
    have hf := hkJ4 _ he
    refine j_aload_n X dM_judges_79 rfl 0 rfl ?_
    refine j_geta X gf_M_181_81 dM_judges_80 ?_
    refine j_iload_n X dM_judges_83 rfl 2 rfl ?_
    refine j_iconst X dM_judges_84 ?_
    refine j_iast X sh_226 dM_judges_85 hf (fun m12 hf => ?_)
    refine j_aload_n X dM_judges_86 rfl 0 rfl ?_
    refine j_geta X gf_M_178_81 dM_judges_87 ?_
    show bz_J _ _ 90 _ _ _
    refine j_iload_n X dM_judges_90 rfl 2 rfl ?_
    refine j_lald X sh_225 dM_judges_91 hf (fun x13 hf => ?_)
    refine j_lconst X (v := 0) dM_judges_92 rfl ?_
    refine j_lcmp_gt X (tgt := 98) rfl (w64_lit rfl) dM_judges_93 dM_judges_94 (by decide) hf (fun hf => ?_) (fun hf => ?_)
    · refine j_iload_n X dM_judges_98 rfl 2 rfl ?_
      refine j_bipush X dM_judges_99 rfl ?_
      obtain ⟨resJ14, hf0, hkJ14⟩ := q_l1 hf
      have J14 : ∀ (v15 : Int), some v15 = some resJ14 → bz_J K 6 129 [(0, bz_rf E 81), (1, bz_i a1), (2, bz_i a2), (3, bz_i a3)] [bz_i v15] m12 := by
        intro v15 he
        have hf := hkJ14 _ he
        refine j_istore X (lv' := [(5, bz_i v15), (0, bz_rf E 81), (1, bz_i a1), (2, bz_i a2), (3, bz_i a3)]) dM_judges_129 (by decide) rfl ?_
        refine j_aload_n X dM_judges_131 rfl 1 rfl ?_
        refine j_geta X gf_M_178_81 dM_judges_132 ?_
        refine j_iload_n X dM_judges_135 rfl 3 rfl ?_
        refine j_lald X sh_225 dM_judges_136 hf (fun x18 hf => ?_)
        refine j_aload_n X dM_judges_137 rfl 1 rfl ?_
        refine j_iload_n X dM_judges_138 rfl 2 rfl ?_
        show bz_J _ _ 139 _ _ _
        refine j_iload_n X dM_judges_139 rfl 4 rfl ?_
        refine j_iconst X dM_judges_140 ?_
        obtain ⟨x19, hzx19, hf⟩ := q_cl hf
        refine j_cv X (st := [bz_l x18]) (cM_ruleOf E F hzx19) gyM_ruleOf gv_M_ruleOf_81 rfl (by decide) (by decide) wd_1499 rfl (Nat.le_of_ble_eq_true rfl) dM_judges_141 ?_
        refine j_i2l X rfl dM_judges_144 ?_
        refine j_lcmp_ge X (tgt := 159) rfl rfl dM_judges_145 dM_judges_146 (by decide) hf (fun hf => ?_) (fun hf => ?_)
        · refine j_iload X dM_judges_159 0 rfl ?_
          refine j_if_eq X (tgt := 184) rfl dM_judges_161 (by decide) hf (fun hf => ?_) (fun hf => ?_)
          · cases hf
            exact j_vret X dM_judges_184 rfl rfl
          · refine j_aload_n X dM_judges_164 rfl 1 rfl ?_
            refine j_geta X gf_M_181_81 dM_judges_165 ?_
            refine j_iload_n X dM_judges_168 rfl 3 rfl ?_
            refine j_aload_n X dM_judges_169 rfl 1 rfl ?_
            refine j_iload_n X dM_judges_170 rfl 2 rfl ?_
            refine j_iload_n X dM_judges_171 rfl 4 rfl ?_
            obtain ⟨x20, hzx20, hf⟩ := q_cl hf
            refine j_cv X (st := [bz_i a2, bz_rf E 226]) (cM_isToParty E F hzx20) gyM_isToParty gv_M_isToParty_81 rfl (by decide) (by decide) wd_1743 rfl (Nat.le_of_ble_eq_true rfl) dM_judges_172 ?_
            show bz_J _ _ 175 _ _ _
            refine j_if_eq X (tgt := 182) rfl dM_judges_175 (by decide) hf (fun hf => ?_) (fun hf => ?_)
            · refine j_iconst X dM_judges_182 ?_
              refine j_iast X sh_226 dM_judges_183 hf (fun m21 hf => ?_)
              cases hf
              exact j_vret X dM_judges_184 rfl rfl
            · refine j_iconst X dM_judges_178 ?_
              refine j_goto X (tgt := 183) dM_judges_179 (by decide) ?_
              refine j_iast X sh_226 dM_judges_183 hf (fun m22 hf => ?_)
              cases hf
              exact j_vret X dM_judges_184 rfl rfl
        · refine j_aload_n X dM_judges_149 rfl 1 rfl ?_
          refine j_geta X gf_M_181_81 dM_judges_150 ?_
          refine j_iload_n X dM_judges_153 rfl 3 rfl ?_
          refine j_iconst X dM_judges_154 ?_
          refine j_iast X sh_226 dM_judges_155 hf (fun m23 hf => ?_)
          refine j_goto X (tgt := 184) dM_judges_156 (by decide) ?_
          cases hf
          exact j_vret X dM_judges_184 rfl rfl
      clear hf
      have hf := hf0
      clear hf0
      refine j_icmp_ge X (tgt := 128) rfl (w32_lit rfl) dM_judges_101 (by decide) hf (fun hf => ?_) (fun hf => ?_)
      · refine j_iconst X dM_judges_128 ?_
        exact J14 _ hf
      · refine j_aload_n X dM_judges_104 rfl 0 rfl ?_
        refine j_geta X gf_M_50_81 dM_judges_105 ?_
        refine j_iload_n X dM_judges_108 rfl 2 rfl ?_
        refine j_iald X sh_95 dM_judges_109 hf (fun x16 hf => ?_)
        refine j_iconst X dM_judges_110 ?_
        refine j_icmp_eq X (tgt := 128) rfl (w32_lit rfl) dM_judges_111 (by decide) hf (fun hf => ?_) (fun hf => ?_)
        · refine j_iconst X dM_judges_128 ?_
          exact J14 _ hf
        · refine j_aload_n X dM_judges_114 rfl 0 rfl ?_
          refine j_geta X gf_M_50_81 dM_judges_115 ?_
          refine j_iload_n X dM_judges_118 rfl 2 rfl ?_
          refine j_iald X sh_95 dM_judges_119 hf (fun x17 hf => ?_)
          refine j_iload_n X dM_judges_120 rfl 3 rfl ?_
          refine j_icmp_gt X (tgt := 128) rfl rfl dM_judges_121 (by decide) hf (fun hf => ?_) (fun hf => ?_)
          · refine j_iconst X dM_judges_128 ?_
            exact J14 _ hf
          · refine j_iconst X dM_judges_124 ?_
            refine j_goto X (tgt := 129) dM_judges_125 (by decide) ?_
            exact J14 _ hf
    · cases hf
      exact j_vret X dM_judges_97 rfl rfl
  clear hf
  have hf := hf0
  clear hf0
  refine j_icmp_eq X (tgt := 79) rfl (w32_lit rfl) dM_judges_25 (by decide) hf (fun hf => ?_) (fun hf => ?_)
  · exact j_sub [1, 2, 3, 4] rfl (J4 _ hf)
  · refine j_aload_n X dM_judges_28 rfl 1 rfl ?_
    refine j_geta X gf_M_178_81 dM_judges_29 ?_
    refine j_iload_n X dM_judges_32 rfl 3 rfl ?_
    refine j_aload_n X dM_judges_33 rfl 1 rfl ?_
    refine j_geta X gf_M_172_81 dM_judges_34 ?_
    refine j_iload_n X dM_judges_37 rfl 3 rfl ?_
    refine j_lald X sh_223 dM_judges_38 hf (fun x5 hf => ?_)
    show bz_J _ _ 39 _ _ _
    refine j_aload_n X dM_judges_39 rfl 1 rfl ?_
    refine j_geta X gf_M_175_81 dM_judges_40 ?_
    refine j_iload_n X dM_judges_43 rfl 3 rfl ?_
    refine j_lald X sh_224 dM_judges_44 hf (fun x6 hf => ?_)
    refine j_lsub X dM_judges_45 ?_
    refine j_last X sh_225 dM_judges_46 hf (fun m7 hf => ?_)
    refine j_aload_n X dM_judges_47 rfl 1 rfl ?_
    refine j_geta X gf_M_178_81 dM_judges_48 ?_
    show bz_J _ _ 51 _ _ _
    refine j_iload_n X dM_judges_51 rfl 3 rfl ?_
    refine j_lald X sh_225 dM_judges_52 hf (fun x8 hf => ?_)
    refine j_lconst X (v := 0) dM_judges_53 rfl ?_
    refine j_lcmp_ge X (tgt := 79) rfl (w64_lit rfl) dM_judges_54 dM_judges_55 (by decide) hf (fun hf => ?_) (fun hf => ?_)
    · exact j_sub [1, 2, 3, 4] rfl (J4 _ hf)
    · refine j_aload_n X dM_judges_58 rfl 1 rfl ?_
      refine j_geta X gf_M_178_81 dM_judges_59 ?_
      refine j_iload_n X dM_judges_62 rfl 3 rfl ?_
      refine j_lald X sh_225 dM_judges_63 hf (fun x9 hf => ?_)
      refine j_iload X dM_judges_64 0 rfl ?_
      refine j_ineg X dM_judges_66 ?_
      refine j_i2l X rfl dM_judges_67 ?_
      show bz_J _ _ 68 _ _ _
      refine j_lcmp_lt X (tgt := 79) rfl rfl dM_judges_68 dM_judges_69 (by decide) hf (fun hf => ?_) (fun hf => ?_)
      · exact j_sub [1, 2, 3, 4] rfl (J4 _ hf)
      · refine j_aload_n X dM_judges_72 rfl 1 rfl ?_
        refine j_geta X gf_M_178_81 dM_judges_73 ?_
        refine j_iload_n X dM_judges_76 rfl 3 rfl ?_
        refine j_lconst X (v := 0) dM_judges_77 rfl ?_
        refine j_last X sh_225 dM_judges_78 hf (fun m10 hf => ?_)
        exact j_sub [1, 2, 3, 4] rfl (J4 _ hf)
def M_asks0_L21 (F : Nat) : Nat → Int → Int → Int → bz_Mm → Option (bz_Mm)
  | 0, _, _, _, _ => none
  | n + 1, l1, l2, l4, M =>
    if w32 l4 < 20 then
    (cl_ (fM_judges F M l1 l4 l2) fun m3 =>
    M_asks0_L21 F n l1 l2 (l4 + 1) m3)
    else
    (some M)
theorem lM_asks0_L21 (E : bz_E) (F : Nat) {K : bz_K} {rv : Option Value} {M1 : bz_Mm} (X : bz_X K E prog_14_method_74_code 5 "UnitsWrongModel" none 6 156 rv M1) {l1 : Int} {l2 : Int} {res : (bz_Mm)}
    (kx : ∀ (M : bz_Mm), some M = some res → bz_J K 5 42 [] [] M) :
    ∀ (n : Nat) (l4 : Int) (M : bz_Mm), M_asks0_L21 F n l1 l2 l4 M = some res → bz_J K 5 21 [(4, bz_i l4), (0, bz_rf E 81), (1, bz_i l1), (2, bz_i l2)] [] M := by
  intro n
  induction n with
  | zero => intro l4 M hf; cases hf
  | succ n ih =>
    intro l4 M hf
    rw [M_asks0_L21] at hf
    refine j_iload X dM_asks0_21 0 rfl ?_
    refine j_bipush X dM_asks0_23 rfl ?_
    refine j_icmp_ge X (tgt := 42) rfl (w32_lit rfl) dM_asks0_25 (by decide) hf (fun hf => ?_) (fun hf => ?_)
    · exact j_sub [] rfl (kx _ hf)
    · refine j_aload_n X dM_asks0_28 rfl 1 rfl ?_
      refine j_iload_n X dM_asks0_29 rfl 2 rfl ?_
      refine j_iload X dM_asks0_30 0 rfl ?_
      refine j_iload_n X dM_asks0_32 rfl 3 rfl ?_
      obtain ⟨m3, hz, hf⟩ := q_cl hf
      refine j_cv X (st := []) (cM_judges E F hz) gyM_judges gv_M_judges_81 rfl (by decide) (by decide) wd_1739 rfl (Nat.le_of_ble_eq_true rfl) dM_asks0_33 ?_
      clear hz
      refine j_iinc X (y := l4 + 1) (lv' := [(4, bz_i (l4 + 1)), (0, bz_rf E 81), (1, bz_i l1), (2, bz_i l2)]) dM_asks0_36 0 rfl rfl (by decide) rfl ?_
      refine j_goto X (tgt := 21) dM_asks0_39 (by decide) ?_
      exact ih _ _ hf
def fM_asks0 (F : Nat) (M : bz_Mm) (a1 : Int) (a2 : Int) (a3 : Int) : Option (bz_Mm) :=
  cl_ (fM_through F M (fM_lastOver M a2) a2 0) fun m1 =>
  cl_ (fM_sums F m1 a1 a2 a3) fun m2 =>
  cl1_ (M_asks0_L21 F F a1 a2 0 m2) fun m4 =>
  some m4
set_option maxHeartbeats 4000000 in
set_option maxRecDepth 20000 in
theorem cM_asks0 (E : bz_E) (F : Nat)  {M : bz_Mm} {a1 : Int} {a2 : Int} {a3 : Int} {x0 : bz_Mm} (hf : fM_asks0 F M a1 a2 a3 = some x0) : bz_Ct E yM_asks0 (.code yM_asks0 prog_14_method_74_code 5 none) 6 156 [bz_rf E 81, bz_i a1, bz_i a2, bz_i a3] M (none) x0 := by
  refine bz_met (by decide +kernel) (Nat.le_of_ble_eq_true rfl) (fun K X => ?_)
  have X : bz_X K E prog_14_method_74_code 5 "UnitsWrongModel" none 6 156 _ _ := X
  unfold fM_asks0 at hf
  show bz_J K 5 0 [(0, bz_rf E 81), (1, bz_i a1), (2, bz_i a2), (3, bz_i a3)] [] M
  refine j_aload_n X dM_asks0_0 rfl 0 rfl ?_
  refine j_aload_n X dM_asks0_1 rfl 0 rfl ?_
  refine j_iload_n X dM_asks0_2 rfl 2 rfl ?_
  refine j_cv X (st := [bz_rf E 81]) (cM_lastOver E) gyM_lastOver gv_M_lastOver_81 rfl (by decide) (by decide) wd_1703 rfl (Nat.le_of_ble_eq_true rfl) dM_asks0_3 ?_
  refine j_iload_n X dM_asks0_6 rfl 2 rfl ?_
  refine j_iconst X dM_asks0_7 ?_
  obtain ⟨m1, hz, hf⟩ := q_cl hf
  refine j_cv X (st := []) (cM_through E F hz) gyM_through gv_M_through_81 rfl (by decide) (by decide) wd_1619 rfl (Nat.le_of_ble_eq_true rfl) dM_asks0_8 ?_
  clear hz
  show bz_J _ _ 11 _ _ _
  refine j_aload_n X dM_asks0_11 rfl 0 rfl ?_
  refine j_iload_n X dM_asks0_12 rfl 1 rfl ?_
  refine j_iload_n X dM_asks0_13 rfl 2 rfl ?_
  refine j_iload_n X dM_asks0_14 rfl 3 rfl ?_
  obtain ⟨m2, hz, hf⟩ := q_cl hf
  refine j_cv X (st := []) (cM_sums E F hz) gyM_sums gv_M_sums_81 rfl (by decide) (by decide) wd_1735 rfl (Nat.le_of_ble_eq_true rfl) dM_asks0_15 ?_
  clear hz
  refine j_iconst X dM_asks0_18 ?_
  refine j_istore X (lv' := [(4, bz_i 0), (0, bz_rf E 81), (1, bz_i a1), (2, bz_i a2), (3, bz_i a3)]) dM_asks0_19 (by decide) rfl ?_
  obtain ⟨res5, hz5, hk5⟩ := q_l1 hf
  clear hf
  refine j_sub [0, 1, 2, 3] rfl ?_
  refine lM_asks0_L21 E F X (fun m4 he => ?_) F 0 m2 hz5
  have hf := hk5 _ he
  cases hf
  exact j_vret X dM_asks0_42 rfl rfl
def fM_asks1 (F : Nat) (M : bz_Mm) (a1 : Int) (a2 : Int) : Option (bz_Mm) :=
  cl_ (fM_ruleOf F M a1 a2 4) fun x1 =>
  cl_ (fM_asks0 F M a1 a2 x1) fun m2 =>
  some m2
set_option maxHeartbeats 4000000 in
set_option maxRecDepth 20000 in
theorem cM_asks1 (E : bz_E) (F : Nat)  {M : bz_Mm} {a1 : Int} {a2 : Int} {x0 : bz_Mm} (hf : fM_asks1 F M a1 a2 = some x0) : bz_Ct E yM_asks1 (.code yM_asks1 prog_14_method_75_code 3 none) 7 180 [bz_rf E 81, bz_i a1, bz_i a2] M (none) x0 := by
  refine bz_met (by decide +kernel) (Nat.le_of_ble_eq_true rfl) (fun K X => ?_)
  have X : bz_X K E prog_14_method_75_code 3 "UnitsWrongModel" none 7 180 _ _ := X
  unfold fM_asks1 at hf
  show bz_J K 3 0 [(0, bz_rf E 81), (1, bz_i a1), (2, bz_i a2)] [] M
  refine j_aload_n X dM_asks1_0 rfl 0 rfl ?_
  refine j_iload_n X dM_asks1_1 rfl 1 rfl ?_
  refine j_iload_n X dM_asks1_2 rfl 2 rfl ?_
  refine j_aload_n X dM_asks1_3 rfl 0 rfl ?_
  refine j_iload_n X dM_asks1_4 rfl 1 rfl ?_
  refine j_iload_n X dM_asks1_5 rfl 2 rfl ?_
  refine j_iconst X dM_asks1_6 ?_
  show bz_J _ _ 7 _ _ _
  obtain ⟨x1, hzx1, hf⟩ := q_cl hf
  refine j_cv X (st := [bz_i a2, bz_i a1, bz_rf E 81]) (cM_ruleOf E F hzx1) gyM_ruleOf gv_M_ruleOf_81 rfl (by decide) (by decide) wd_1499 rfl (Nat.le_of_ble_eq_true rfl) dM_asks1_7 ?_
  obtain ⟨m2, hz, hf⟩ := q_cl hf
  refine j_cv X (st := []) (cM_asks0 E F hz) gyM_asks0 gv_M_asks0_81 rfl (by decide) (by decide) wd_1731 rfl (Nat.le_of_ble_eq_true rfl) dM_asks1_10 ?_
  clear hz
  cases hf
  exact j_vret X dM_asks1_13 rfl rfl
def fM_claim (F : Nat) (M : bz_Mm) (a1 : Int) (a2 : Int) (a3 : Int) (a4 : Int) : Option (Int × bz_Mm) :=
  lt_ (fM_placeOf M a1) fun l5 =>
  if w32 l5 = (-1) then
  (some (((-2147483648), M)))
  else
  (if w32 (fM_canHold M l5 a2) = 0 then
  (some (((-2147483648), M)))
  else
  (if w32 (fM_isKnownDay M a3) = 0 then
  (some (((-2147483648), M)))
  else
  (if w32 (fM_in (w32 a4) 0 3) = 0 then
  (some (((-2147483648), M)))
  else
  (cl_ (fM_asks1 F M a2 a3) fun m1 =>
  if w32 a4 = 0 then
  (rd_ m1 223 l5 20 fun x5 =>
  some ((fM_told x5, m1)))
  else
  (if w32 a4 = 1 then
  (rd_ m1 224 l5 20 fun x4 =>
  some ((fM_told x4, m1)))
  else
  (if w32 a4 = 2 then
  (rd_ m1 225 l5 20 fun x3 =>
  some ((fM_told x3, m1)))
  else
  (rd_ m1 226 l5 20 fun x2 =>
  some ((x2, m1)))))))))
set_option maxHeartbeats 4000000 in
set_option maxRecDepth 20000 in
theorem cM_claim (E : bz_E) (F : Nat)  {M : bz_Mm} {a1 : Int} {a2 : Int} {a3 : Int} {a4 : Int} {x0 : Int × bz_Mm} (hf : fM_claim F M a1 a2 a3 a4 = some x0) : bz_Ct E yM_claim (.code yM_claim prog_14_method_77_code 6 (some .int)) 8 202 [bz_rf E 81, bz_i a1, bz_i a2, bz_i a3, bz_i a4] M (some (bz_i x0.1)) x0.2 := by
  refine bz_met (by decide +kernel) (Nat.le_of_ble_eq_true rfl) (fun K X => ?_)
  have X : bz_X K E prog_14_method_77_code 6 "UnitsWrongModel" (some .int) 8 202 _ _ := X
  unfold fM_claim at hf
  show bz_J K 6 0 [(0, bz_rf E 81), (1, bz_i a1), (2, bz_i a2), (3, bz_i a3), (4, bz_i a4)] [] M
  refine j_aload_n X dM_claim_0 rfl 0 rfl ?_
  refine j_iload_n X dM_claim_1 rfl 1 rfl ?_
  refine j_cv X (st := []) (cM_placeOf E) gyM_placeOf gv_M_placeOf_81 rfl (by decide) (by decide) wd_1494 rfl (Nat.le_of_ble_eq_true rfl) dM_claim_2 ?_
  refine j_lt (g := bz_i) hf (fun l5 hf => ?_)
  refine j_istore X (lv' := [(5, bz_i l5), (0, bz_rf E 81), (1, bz_i a1), (2, bz_i a2), (3, bz_i a3), (4, bz_i a4)]) dM_claim_5 (by decide) rfl ?_
  refine j_iload X dM_claim_7 0 rfl ?_
  refine j_iconst X dM_claim_9 ?_
  refine j_icmp_eq X (tgt := 44) rfl (w32_lit rfl) dM_claim_10 (by decide) hf (fun hf => ?_) (fun hf => ?_)
  · refine j_ldcw X (v := -2147483648) wd_1453 dM_claim_44 ?_
    cases hf
    exact j_iret X dM_claim_47 rfl rfl
  · refine j_aload_n X dM_claim_13 rfl 1 rfl ?_
    refine j_iload X dM_claim_14 0 rfl ?_
    refine j_iload_n X dM_claim_16 rfl 3 rfl ?_
    refine j_cv X (st := []) (cM_canHold E) gyM_canHold gv_M_canHold_81 rfl (by decide) (by decide) wd_1715 rfl (Nat.le_of_ble_eq_true rfl) dM_claim_17 ?_
    refine j_if_eq X (tgt := 44) rfl dM_claim_20 (by decide) hf (fun hf => ?_) (fun hf => ?_)
    · refine j_ldcw X (v := -2147483648) wd_1453 dM_claim_44 ?_
      cases hf
      exact j_iret X dM_claim_47 rfl rfl
    · refine j_aload_n X dM_claim_23 rfl 1 rfl ?_
      refine j_iload_n X dM_claim_24 rfl 4 rfl ?_
      refine j_cv X (st := []) (cM_isKnownDay E) gyM_isKnownDay gv_M_isKnownDay_81 rfl (by decide) (by decide) wd_1723 rfl (Nat.le_of_ble_eq_true rfl) dM_claim_25 ?_
      refine j_if_eq X (tgt := 44) rfl dM_claim_28 (by decide) hf (fun hf => ?_) (fun hf => ?_)
      · refine j_ldcw X (v := -2147483648) wd_1453 dM_claim_44 ?_
        cases hf
        exact j_iret X dM_claim_47 rfl rfl
      · refine j_iload X dM_claim_31 5 rfl ?_
        refine j_i2l X rfl dM_claim_33 ?_
        refine j_lconst X (v := 0) dM_claim_34 rfl ?_
        refine j_ldc2 X (v := 3) wd_1435 dM_claim_35 ?_
        refine j_cs X (st := []) (cM_in E) gyM_in wd_1414 rfl (by decide) (by decide) wd_1413 rfl (Nat.le_of_ble_eq_true rfl) dM_claim_38 ?_
        refine j_if_ne X (tgt := 48) rfl dM_claim_41 (by decide) hf (fun hf => ?_) (fun hf => ?_)
        · refine j_aload_n X dM_claim_48 rfl 1 rfl ?_
          refine j_iload_n X dM_claim_49 rfl 3 rfl ?_
          refine j_iload_n X dM_claim_50 rfl 4 rfl ?_
          obtain ⟨m1, hz, hf⟩ := q_cl hf
          refine j_cv X (st := []) (cM_asks1 E F hz) gyM_asks1 gv_M_asks1_81 rfl (by decide) (by decide) wd_1727 rfl (Nat.le_of_ble_eq_true rfl) dM_claim_51 ?_
          clear hz
          refine j_iload X dM_claim_54 5 rfl ?_
          refine j_if_ne X (tgt := 72) rfl dM_claim_56 (by decide) hf (fun hf => ?_) (fun hf => ?_)
          · refine j_iload X dM_claim_72 5 rfl ?_
            refine j_iconst X dM_claim_74 ?_
            refine j_icmp_ne X (tgt := 91) rfl (w32_lit rfl) dM_claim_75 (by decide) hf (fun hf => ?_) (fun hf => ?_)
            · refine j_iload X dM_claim_91 5 rfl ?_
              refine j_iconst X dM_claim_93 ?_
              refine j_icmp_ne X (tgt := 110) rfl (w32_lit rfl) dM_claim_94 (by decide) hf (fun hf => ?_) (fun hf => ?_)
              · refine j_aload_n X dM_claim_110 rfl 1 rfl ?_
                refine j_geta X gf_M_181_81 dM_claim_111 ?_
                refine j_iload X dM_claim_114 0 rfl ?_
                refine j_iald X sh_226 dM_claim_116 hf (fun x2 hf => ?_)
                cases hf
                exact j_iret X dM_claim_117 rfl rfl
              · refine j_aload_n X dM_claim_97 rfl 1 rfl ?_
                refine j_geta X gf_M_178_81 dM_claim_98 ?_
                refine j_iload X dM_claim_101 0 rfl ?_
                refine j_lald X sh_225 dM_claim_103 hf (fun x3 hf => ?_)
                refine j_cs X (st := []) (cM_told E) gyM_told wd_1684 rfl (by decide) (by decide) wd_1683 rfl (Nat.le_of_ble_eq_true rfl) dM_claim_104 ?_
                refine j_goto X (tgt := 117) dM_claim_107 (by decide) ?_
                cases hf
                exact j_iret X dM_claim_117 rfl rfl
            · refine j_aload_n X dM_claim_78 rfl 1 rfl ?_
              refine j_geta X gf_M_175_81 dM_claim_79 ?_
              refine j_iload X dM_claim_82 0 rfl ?_
              refine j_lald X sh_224 dM_claim_84 hf (fun x4 hf => ?_)
              refine j_cs X (st := []) (cM_told E) gyM_told wd_1684 rfl (by decide) (by decide) wd_1683 rfl (Nat.le_of_ble_eq_true rfl) dM_claim_85 ?_
              refine j_goto X (tgt := 117) dM_claim_88 (by decide) ?_
              cases hf
              exact j_iret X dM_claim_117 rfl rfl
          · refine j_aload_n X dM_claim_59 rfl 1 rfl ?_
            refine j_geta X gf_M_172_81 dM_claim_60 ?_
            refine j_iload X dM_claim_63 0 rfl ?_
            refine j_lald X sh_223 dM_claim_65 hf (fun x5 hf => ?_)
            refine j_cs X (st := []) (cM_told E) gyM_told wd_1684 rfl (by decide) (by decide) wd_1683 rfl (Nat.le_of_ble_eq_true rfl) dM_claim_66 ?_
            refine j_goto X (tgt := 117) dM_claim_69 (by decide) ?_
            cases hf
            exact j_iret X dM_claim_117 rfl rfl
        · refine j_ldcw X (v := -2147483648) wd_1453 dM_claim_44 ?_
          cases hf
          exact j_iret X dM_claim_47 rfl rfl
def fM_goesTo (F : Nat) (M : bz_Mm) (a1 : Int) (a2 : Int) (a3 : Int) : Option (Int) :=
  rd_ M 226 a2 20 fun x1 =>
  if w32 x1 = 1 then
  (cl_ (fM_ruleOf F M a1 a3 6) fun x4 =>
  some x4)
  else
  (rd_ M 226 a2 20 fun x2 =>
  if w32 x2 = 3 then
  (cl_ (fM_ruleOf F M a1 a3 9) fun x3 =>
  some x3)
  else
  (some ((-1))))
set_option maxHeartbeats 4000000 in
set_option maxRecDepth 20000 in
theorem cM_goesTo (E : bz_E) (F : Nat)  {M : bz_Mm} {a1 : Int} {a2 : Int} {a3 : Int} {x0 : Int} (hf : fM_goesTo F M a1 a2 a3 = some x0) : bz_Ct E yM_goesTo (.code yM_goesTo prog_14_method_78_code 4 (some .int)) 1 25 [bz_rf E 81, bz_i a1, bz_i a2, bz_i a3] M (some (bz_i x0)) M := by
  refine bz_met (by decide +kernel) (Nat.le_of_ble_eq_true rfl) (fun K X => ?_)
  have X : bz_X K E prog_14_method_78_code 4 "UnitsWrongModel" (some .int) 1 25 _ _ := X
  unfold fM_goesTo at hf
  show bz_J K 4 0 [(0, bz_rf E 81), (1, bz_i a1), (2, bz_i a2), (3, bz_i a3)] [] M
  refine j_aload_n X dM_goesTo_0 rfl 0 rfl ?_
  refine j_geta X gf_M_181_81 dM_goesTo_1 ?_
  refine j_iload_n X dM_goesTo_4 rfl 2 rfl ?_
  refine j_iald X sh_226 dM_goesTo_5 hf (fun x1 hf => ?_)
  refine j_iconst X dM_goesTo_6 ?_
  refine j_icmp_ne X (tgt := 21) rfl (w32_lit rfl) dM_goesTo_7 (by decide) hf (fun hf => ?_) (fun hf => ?_)
  · refine j_aload_n X dM_goesTo_21 rfl 0 rfl ?_
    refine j_geta X gf_M_181_81 dM_goesTo_22 ?_
    refine j_iload_n X dM_goesTo_25 rfl 2 rfl ?_
    refine j_iald X sh_226 dM_goesTo_26 hf (fun x2 hf => ?_)
    refine j_iconst X dM_goesTo_27 ?_
    refine j_icmp_ne X (tgt := 42) rfl (w32_lit rfl) dM_goesTo_28 (by decide) hf (fun hf => ?_) (fun hf => ?_)
    · refine j_iconst X dM_goesTo_42 ?_
      cases hf
      exact j_iret X dM_goesTo_43 rfl rfl
    · refine j_aload_n X dM_goesTo_31 rfl 0 rfl ?_
      refine j_iload_n X dM_goesTo_32 rfl 1 rfl ?_
      refine j_iload_n X dM_goesTo_33 rfl 3 rfl ?_
      refine j_bipush X dM_goesTo_34 rfl ?_
      obtain ⟨x3, hzx3, hf⟩ := q_cl hf
      refine j_cv X (st := []) (cM_ruleOf E F hzx3) gyM_ruleOf gv_M_ruleOf_81 rfl (by decide) (by decide) wd_1499 rfl (Nat.le_of_ble_eq_true rfl) dM_goesTo_36 ?_
      refine j_goto X (tgt := 43) dM_goesTo_39 (by decide) ?_
      cases hf
      exact j_iret X dM_goesTo_43 rfl rfl
  · refine j_aload_n X dM_goesTo_10 rfl 0 rfl ?_
    refine j_iload_n X dM_goesTo_11 rfl 1 rfl ?_
    refine j_iload_n X dM_goesTo_12 rfl 3 rfl ?_
    refine j_bipush X dM_goesTo_13 rfl ?_
    obtain ⟨x4, hzx4, hf⟩ := q_cl hf
    refine j_cv X (st := []) (cM_ruleOf E F hzx4) gyM_ruleOf gv_M_ruleOf_81 rfl (by decide) (by decide) wd_1499 rfl (Nat.le_of_ble_eq_true rfl) dM_goesTo_15 ?_
    refine j_goto X (tgt := 43) dM_goesTo_18 (by decide) ?_
    cases hf
    exact j_iret X dM_goesTo_43 rfl rfl
def M_houseOwes_L31 (F : Nat) : Nat → bz_Mm → Int → Int → Int → Int → Option (Int)
  | 0, _, _, _, _, _ => none
  | n + 1, M, l1, l2, l7, l5 =>
    if w32 l7 < 20 then
    (rd_ M 225 l7 20 fun x4 =>
    if w64 x4 < 0 then
    (rd_ M 225 l7 20 fun x5 =>
    lt_ (l5 + x5) fun l5 =>
    M_houseOwes_L31 F n M l1 l2 (l7 + 1) l5)
    else
    (rd_ M 226 l7 20 fun x6 =>
    if w32 x6 = 0 then
    (rd_ M 225 l7 20 fun x7 =>
    lt_ (l5 + x7) fun l5 =>
    M_houseOwes_L31 F n M l1 l2 (l7 + 1) l5)
    else
    (rd_ M 226 l7 20 fun x8 =>
    if w32 x8 = 2 then
    (rd_ M 225 l7 20 fun x9 =>
    lt_ (l5 + x9) fun l5 =>
    M_houseOwes_L31 F n M l1 l2 (l7 + 1) l5)
    else
    (cl_ (fM_goesTo F M l1 l7 l2) fun x10 =>
    if 0 < w32 x10 then
    (rd_ M 225 l7 20 fun x11 =>
    lt_ (l5 + x11) fun l5 =>
    M_houseOwes_L31 F n M l1 l2 (l7 + 1) l5)
    else
    (M_houseOwes_L31 F n M l1 l2 (l7 + 1) l5)))))
    else
    (some l5)
theorem lM_houseOwes_L31 (E : bz_E) (F : Nat) {K : bz_K} {rv : Option Value} {M1 : bz_Mm} (X : bz_X K E prog_14_method_79_code 8 "UnitsWrongModel" (some .long) 6 156 rv M1) {M : bz_Mm} {l1 : Int} {l2 : Int} {res : (Int)}
    (kx : ∀ (l5 : Int), some l5 = some res → bz_J K 8 100 [(5, bz_l l5)] [] M) :
    ∀ (n : Nat) (l7 : Int) (l5 : Int), M_houseOwes_L31 F n M l1 l2 l7 l5 = some res → bz_J K 8 31 [(7, bz_i l7), (5, bz_l l5), (0, bz_rf E 81), (1, bz_i l1), (2, bz_i l2)] [] M := by
  intro n
  induction n with
  | zero => intro l7 l5 hf; cases hf
  | succ n ih =>
    intro l7 l5 hf
    rw [M_houseOwes_L31] at hf
    refine j_iload X dM_houseOwes_31 0 rfl ?_
    refine j_bipush X dM_houseOwes_33 rfl ?_
    refine j_icmp_ge X (tgt := 100) rfl (w32_lit rfl) dM_houseOwes_35 (by decide) hf (fun hf => ?_) (fun hf => ?_)
    · exact j_sub [1] rfl (kx _ hf)
    · refine j_aload_n X dM_houseOwes_38 rfl 2 rfl ?_
      refine j_geta X gf_M_178_81 dM_houseOwes_39 ?_
      refine j_iload X dM_houseOwes_42 0 rfl ?_
      refine j_lald X sh_225 dM_houseOwes_44 hf (fun x4 hf => ?_)
      refine j_lconst X (v := 0) dM_houseOwes_45 rfl ?_
      refine j_lcmp_lt X (tgt := 82) rfl (w64_lit rfl) dM_houseOwes_46 dM_houseOwes_47 (by decide) hf (fun hf => ?_) (fun hf => ?_)
      · refine j_lload X dM_houseOwes_82 1 rfl ?_
        refine j_aload_n X dM_houseOwes_84 rfl 2 rfl ?_
        refine j_geta X gf_M_178_81 dM_houseOwes_85 ?_
        refine j_iload X dM_houseOwes_88 0 rfl ?_
        refine j_lald X sh_225 dM_houseOwes_90 hf (fun x5 hf => ?_)
        refine j_ladd X dM_houseOwes_91 ?_
        refine j_lt (g := bz_l) hf (fun l5 hf => ?_)
        refine j_lstore X (lv' := [(5, bz_l l5), (7, bz_i l7), (0, bz_rf E 81), (1, bz_i l1), (2, bz_i l2)]) dM_houseOwes_92 (by decide) rfl ?_
        show bz_J _ _ 94 _ _ _
        refine j_iinc X (y := l7 + 1) (lv' := [(7, bz_i (l7 + 1)), (5, bz_l l5), (0, bz_rf E 81), (1, bz_i l1), (2, bz_i l2)]) dM_houseOwes_94 1 rfl rfl (by decide) rfl ?_
        refine j_goto X (tgt := 31) dM_houseOwes_97 (by decide) ?_
        exact ih _ _ hf
      · refine j_aload_n X dM_houseOwes_50 rfl 2 rfl ?_
        refine j_geta X gf_M_181_81 dM_houseOwes_51 ?_
        refine j_iload X dM_houseOwes_54 0 rfl ?_
        refine j_iald X sh_226 dM_houseOwes_56 hf (fun x6 hf => ?_)
        refine j_if_eq X (tgt := 82) rfl dM_houseOwes_57 (by decide) hf (fun hf => ?_) (fun hf => ?_)
        · refine j_lload X dM_houseOwes_82 1 rfl ?_
          refine j_aload_n X dM_houseOwes_84 rfl 2 rfl ?_
          refine j_geta X gf_M_178_81 dM_houseOwes_85 ?_
          refine j_iload X dM_houseOwes_88 0 rfl ?_
          refine j_lald X sh_225 dM_houseOwes_90 hf (fun x7 hf => ?_)
          refine j_ladd X dM_houseOwes_91 ?_
          refine j_lt (g := bz_l) hf (fun l5 hf => ?_)
          refine j_lstore X (lv' := [(5, bz_l l5), (7, bz_i l7), (0, bz_rf E 81), (1, bz_i l1), (2, bz_i l2)]) dM_houseOwes_92 (by decide) rfl ?_
          show bz_J _ _ 94 _ _ _
          refine j_iinc X (y := l7 + 1) (lv' := [(7, bz_i (l7 + 1)), (5, bz_l l5), (0, bz_rf E 81), (1, bz_i l1), (2, bz_i l2)]) dM_houseOwes_94 1 rfl rfl (by decide) rfl ?_
          refine j_goto X (tgt := 31) dM_houseOwes_97 (by decide) ?_
          exact ih _ _ hf
        · refine j_aload_n X dM_houseOwes_60 rfl 2 rfl ?_
          refine j_geta X gf_M_181_81 dM_houseOwes_61 ?_
          refine j_iload X dM_houseOwes_64 0 rfl ?_
          refine j_iald X sh_226 dM_houseOwes_66 hf (fun x8 hf => ?_)
          refine j_iconst X dM_houseOwes_67 ?_
          refine j_icmp_eq X (tgt := 82) rfl (w32_lit rfl) dM_houseOwes_68 (by decide) hf (fun hf => ?_) (fun hf => ?_)
          · refine j_lload X dM_houseOwes_82 1 rfl ?_
            refine j_aload_n X dM_houseOwes_84 rfl 2 rfl ?_
            refine j_geta X gf_M_178_81 dM_houseOwes_85 ?_
            refine j_iload X dM_houseOwes_88 0 rfl ?_
            refine j_lald X sh_225 dM_houseOwes_90 hf (fun x9 hf => ?_)
            refine j_ladd X dM_houseOwes_91 ?_
            refine j_lt (g := bz_l) hf (fun l5 hf => ?_)
            refine j_lstore X (lv' := [(5, bz_l l5), (7, bz_i l7), (0, bz_rf E 81), (1, bz_i l1), (2, bz_i l2)]) dM_houseOwes_92 (by decide) rfl ?_
            show bz_J _ _ 94 _ _ _
            refine j_iinc X (y := l7 + 1) (lv' := [(7, bz_i (l7 + 1)), (5, bz_l l5), (0, bz_rf E 81), (1, bz_i l1), (2, bz_i l2)]) dM_houseOwes_94 1 rfl rfl (by decide) rfl ?_
            refine j_goto X (tgt := 31) dM_houseOwes_97 (by decide) ?_
            exact ih _ _ hf
          · refine j_aload_n X dM_houseOwes_71 rfl 2 rfl ?_
            refine j_iload_n X dM_houseOwes_72 rfl 3 rfl ?_
            refine j_iload X dM_houseOwes_73 0 rfl ?_
            refine j_iload_n X dM_houseOwes_75 rfl 4 rfl ?_
            obtain ⟨x10, hzx10, hf⟩ := q_cl hf
            refine j_cv X (st := []) (cM_goesTo E F hzx10) gyM_goesTo gv_M_goesTo_81 rfl (by decide) (by decide) wd_1755 rfl (Nat.le_of_ble_eq_true rfl) dM_houseOwes_76 ?_
            refine j_if_le X (tgt := 94) rfl dM_houseOwes_79 (by decide) hf (fun hf => ?_) (fun hf => ?_)
            · refine j_iinc X (y := l7 + 1) (lv' := [(7, bz_i (l7 + 1)), (5, bz_l l5), (0, bz_rf E 81), (1, bz_i l1), (2, bz_i l2)]) dM_houseOwes_94 0 rfl rfl (by decide) rfl ?_
              refine j_goto X (tgt := 31) dM_houseOwes_97 (by decide) ?_
              exact ih _ _ hf
            · refine j_lload X dM_houseOwes_82 1 rfl ?_
              refine j_aload_n X dM_houseOwes_84 rfl 2 rfl ?_
              refine j_geta X gf_M_178_81 dM_houseOwes_85 ?_
              refine j_iload X dM_houseOwes_88 0 rfl ?_
              refine j_lald X sh_225 dM_houseOwes_90 hf (fun x11 hf => ?_)
              refine j_ladd X dM_houseOwes_91 ?_
              refine j_lt (g := bz_l) hf (fun l5 hf => ?_)
              refine j_lstore X (lv' := [(5, bz_l l5), (7, bz_i l7), (0, bz_rf E 81), (1, bz_i l1), (2, bz_i l2)]) dM_houseOwes_92 (by decide) rfl ?_
              show bz_J _ _ 94 _ _ _
              refine j_iinc X (y := l7 + 1) (lv' := [(7, bz_i (l7 + 1)), (5, bz_l l5), (0, bz_rf E 81), (1, bz_i l1), (2, bz_i l2)]) dM_houseOwes_94 1 rfl rfl (by decide) rfl ?_
              refine j_goto X (tgt := 31) dM_houseOwes_97 (by decide) ?_
              exact ih _ _ hf
def fM_houseOwes (F : Nat) (M : bz_Mm) (a1 : Int) (a2 : Int) : Option (Int × bz_Mm) :=
  rd_ M 188 a1 4 fun x1 =>
  cl_ (fM_through F M (fM_lastOver M a2) a2 2) fun m2 =>
  rd_ m2 188 a1 4 fun x3 =>
  lt_ (x1 - x3) fun l5 =>
  cl1_ (M_houseOwes_L31 F F m2 a1 a2 0 l5) fun l5 =>
  some ((l5, m2))
set_option maxHeartbeats 4000000 in
set_option maxRecDepth 20000 in
theorem cM_houseOwes (E : bz_E) (F : Nat)  {M : bz_Mm} {a1 : Int} {a2 : Int} {x0 : Int × bz_Mm} (hf : fM_houseOwes F M a1 a2 = some x0) : bz_Ct E yM_houseOwes (.code yM_houseOwes prog_14_method_79_code 8 (some .long)) 6 156 [bz_rf E 81, bz_i a1, bz_i a2] M (some (bz_l x0.1)) x0.2 := by
  refine bz_met (by decide +kernel) (Nat.le_of_ble_eq_true rfl) (fun K X => ?_)
  have X : bz_X K E prog_14_method_79_code 8 "UnitsWrongModel" (some .long) 6 156 _ _ := X
  unfold fM_houseOwes at hf
  show bz_J K 8 0 [(0, bz_rf E 81), (1, bz_i a1), (2, bz_i a2)] [] M
  refine j_aload_n X dM_houseOwes_0 rfl 0 rfl ?_
  refine j_geta X gf_M_137_81 dM_houseOwes_1 ?_
  refine j_iload_n X dM_houseOwes_4 rfl 1 rfl ?_
  refine j_lald X sh_188 dM_houseOwes_5 hf (fun x1 hf => ?_)
  refine j_lstore_n X (lv' := [(3, bz_l x1), (0, bz_rf E 81), (1, bz_i a1), (2, bz_i a2)]) dM_houseOwes_6 rfl (by decide) rfl ?_
  refine j_aload_n X dM_houseOwes_7 rfl 1 rfl ?_
  refine j_aload_n X dM_houseOwes_8 rfl 1 rfl ?_
  show bz_J _ _ 9 _ _ _
  refine j_iload_n X dM_houseOwes_9 rfl 3 rfl ?_
  refine j_cv X (st := [bz_rf E 81]) (cM_lastOver E) gyM_lastOver gv_M_lastOver_81 rfl (by decide) (by decide) wd_1703 rfl (Nat.le_of_ble_eq_true rfl) dM_houseOwes_10 ?_
  refine j_iload_n X dM_houseOwes_13 rfl 3 rfl ?_
  refine j_iconst X dM_houseOwes_14 ?_
  obtain ⟨m2, hz, hf⟩ := q_cl hf
  refine j_cv X (st := []) (cM_through E F hz) gyM_through gv_M_through_81 rfl (by decide) (by decide) wd_1619 rfl (Nat.le_of_ble_eq_true rfl) dM_houseOwes_15 ?_
  clear hz
  refine j_lload_n X dM_houseOwes_18 rfl 0 rfl ?_
  refine j_aload_n X dM_houseOwes_19 rfl 1 rfl ?_
  refine j_geta X gf_M_137_81 dM_houseOwes_20 ?_
  show bz_J _ _ 23 _ _ _
  refine j_iload_n X dM_houseOwes_23 rfl 2 rfl ?_
  refine j_lald X sh_188 dM_houseOwes_24 hf (fun x3 hf => ?_)
  refine j_lsub X dM_houseOwes_25 ?_
  refine j_lt (g := bz_l) hf (fun l5 hf => ?_)
  refine j_lstore X (lv' := [(5, bz_l l5), (3, bz_l x1), (0, bz_rf E 81), (1, bz_i a1), (2, bz_i a2)]) dM_houseOwes_26 (by decide) rfl ?_
  refine j_iconst X dM_houseOwes_28 ?_
  refine j_istore X (lv' := [(7, bz_i 0), (5, bz_l l5), (3, bz_l x1), (0, bz_rf E 81), (1, bz_i a1), (2, bz_i a2)]) dM_houseOwes_29 (by decide) rfl ?_
  obtain ⟨res12, hz12, hk12⟩ := q_l1 hf
  clear hf
  refine j_sub [0, 1, 3, 4, 5] rfl ?_
  refine lM_houseOwes_L31 E F X (fun l5 he => ?_) F 0 l5 hz12
  have hf := hk12 _ he
  refine j_lload X dM_houseOwes_100 0 rfl ?_
  cases hf
  exact j_lret X dM_houseOwes_102 rfl rfl
def fM_house (F : Nat) (M : bz_Mm) (a1 : Int) (a2 : Int) : Option (Int × bz_Mm) :=
  if w32 (fM_isFund M a1) = 0 then
  (some (((-2147483648), M)))
  else
  (if w32 (fM_isKnownDay M a2) = 0 then
  (some (((-2147483648), M)))
  else
  (cl_ (fM_asks1 F M a1 a2) fun m1 =>
  cl2_ (fM_houseOwes F m1 a1 a2) fun x3 m2 =>
  some ((fM_told x3, m2))))
set_option maxHeartbeats 4000000 in
set_option maxRecDepth 20000 in
theorem cM_house (E : bz_E) (F : Nat)  {M : bz_Mm} {a1 : Int} {a2 : Int} {x0 : Int × bz_Mm} (hf : fM_house F M a1 a2 = some x0) : bz_Ct E yM_house (.code yM_house prog_14_method_80_code 3 (some .int)) 8 202 [bz_rf E 81, bz_i a1, bz_i a2] M (some (bz_i x0.1)) x0.2 := by
  refine bz_met (by decide +kernel) (Nat.le_of_ble_eq_true rfl) (fun K X => ?_)
  have X : bz_X K E prog_14_method_80_code 3 "UnitsWrongModel" (some .int) 8 202 _ _ := X
  unfold fM_house at hf
  show bz_J K 3 0 [(0, bz_rf E 81), (1, bz_i a1), (2, bz_i a2)] [] M
  refine j_aload_n X dM_house_0 rfl 0 rfl ?_
  refine j_iload_n X dM_house_1 rfl 1 rfl ?_
  refine j_cv X (st := []) (cM_isFund E) gyM_isFund gv_M_isFund_81 rfl (by decide) (by decide) wd_1484 rfl (Nat.le_of_ble_eq_true rfl) dM_house_2 ?_
  refine j_if_eq X (tgt := 16) rfl dM_house_5 (by decide) hf (fun hf => ?_) (fun hf => ?_)
  · refine j_ldcw X (v := -2147483648) wd_1453 dM_house_16 ?_
    cases hf
    exact j_iret X dM_house_19 rfl rfl
  · refine j_aload_n X dM_house_8 rfl 0 rfl ?_
    refine j_iload_n X dM_house_9 rfl 2 rfl ?_
    refine j_cv X (st := []) (cM_isKnownDay E) gyM_isKnownDay gv_M_isKnownDay_81 rfl (by decide) (by decide) wd_1723 rfl (Nat.le_of_ble_eq_true rfl) dM_house_10 ?_
    refine j_if_ne X (tgt := 20) rfl dM_house_13 (by decide) hf (fun hf => ?_) (fun hf => ?_)
    · refine j_aload_n X dM_house_20 rfl 0 rfl ?_
      refine j_iload_n X dM_house_21 rfl 1 rfl ?_
      refine j_iload_n X dM_house_22 rfl 2 rfl ?_
      obtain ⟨m1, hz, hf⟩ := q_cl hf
      refine j_cv X (st := []) (cM_asks1 E F hz) gyM_asks1 gv_M_asks1_81 rfl (by decide) (by decide) wd_1727 rfl (Nat.le_of_ble_eq_true rfl) dM_house_23 ?_
      clear hz
      refine j_aload_n X dM_house_26 rfl 0 rfl ?_
      refine j_iload_n X dM_house_27 rfl 1 rfl ?_
      refine j_iload_n X dM_house_28 rfl 2 rfl ?_
      show bz_J _ _ 29 _ _ _
      obtain ⟨x3, m2, hz, hf⟩ := q_cl2 hf
      refine j_cv X (st := []) (cM_houseOwes E F hz) gyM_houseOwes gv_M_houseOwes_81 rfl (by decide) (by decide) wd_1751 rfl (Nat.le_of_ble_eq_true rfl) dM_house_29 ?_
      clear hz
      refine j_cs X (st := []) (cM_told E) gyM_told wd_1684 rfl (by decide) (by decide) wd_1683 rfl (Nat.le_of_ble_eq_true rfl) dM_house_32 ?_
      cases hf
      exact j_iret X dM_house_35 rfl rfl
    · refine j_ldcw X (v := -2147483648) wd_1453 dM_house_16 ?_
      cases hf
      exact j_iret X dM_house_19 rfl rfl
def fM_cash (F : Nat) (M : bz_Mm) (a1 : Int) (a2 : Int) : Option (Int × bz_Mm) :=
  if w32 (fM_isFund M a1) = 0 then
  (some (((-2147483648), M)))
  else
  (if w32 (fM_in (w32 a2) 0 1) = 0 then
  (some (((-2147483648), M)))
  else
  (cl1_ (if w32 a2 = 0 then
  (some (2))
  else
  (some (0))) fun v2 =>
  cl_ (fM_through F M (fM_lastOver M (fM_known0 M)) (fM_known0 M) v2) fun m3 =>
  rd_ m3 188 a1 4 fun x4 =>
  some ((fM_told x4, m3))))
set_option maxHeartbeats 4000000 in
set_option maxRecDepth 20000 in
theorem cM_cash (E : bz_E) (F : Nat)  {M : bz_Mm} {a1 : Int} {a2 : Int} {x0 : Int × bz_Mm} (hf : fM_cash F M a1 a2 = some x0) : bz_Ct E yM_cash (.code yM_cash prog_14_method_81_code 3 (some .int)) 6 156 [bz_rf E 81, bz_i a1, bz_i a2] M (some (bz_i x0.1)) x0.2 := by
  refine bz_met (by decide +kernel) (Nat.le_of_ble_eq_true rfl) (fun K X => ?_)
  have X : bz_X K E prog_14_method_81_code 3 "UnitsWrongModel" (some .int) 6 156 _ _ := X
  unfold fM_cash at hf
  show bz_J K 3 0 [(0, bz_rf E 81), (1, bz_i a1), (2, bz_i a2)] [] M
  refine j_aload_n X dM_cash_0 rfl 0 rfl ?_
  refine j_iload_n X dM_cash_1 rfl 1 rfl ?_
  refine j_cv X (st := []) (cM_isFund E) gyM_isFund gv_M_isFund_81 rfl (by decide) (by decide) wd_1484 rfl (Nat.le_of_ble_eq_true rfl) dM_cash_2 ?_
  refine j_if_eq X (tgt := 18) rfl dM_cash_5 (by decide) hf (fun hf => ?_) (fun hf => ?_)
  · refine j_ldcw X (v := -2147483648) wd_1453 dM_cash_18 ?_
    cases hf
    exact j_iret X dM_cash_21 rfl rfl
  · refine j_iload_n X dM_cash_8 rfl 2 rfl ?_
    refine j_i2l X rfl dM_cash_9 ?_
    refine j_lconst X (v := 0) dM_cash_10 rfl ?_
    refine j_lconst X (v := 1) dM_cash_11 rfl ?_
    refine j_cs X (st := []) (cM_in E) gyM_in wd_1414 rfl (by decide) (by decide) wd_1413 rfl (Nat.le_of_ble_eq_true rfl) dM_cash_12 ?_
    refine j_if_ne X (tgt := 22) rfl dM_cash_15 (by decide) hf (fun hf => ?_) (fun hf => ?_)
    · refine j_aload_n X dM_cash_22 rfl 0 rfl ?_
      refine j_aload_n X dM_cash_23 rfl 0 rfl ?_
      refine j_aload_n X dM_cash_24 rfl 0 rfl ?_
      refine j_cv X (st := [bz_rf E 81, bz_rf E 81]) (cM_known0 E) gyM_known0 gv_M_known0_81 rfl (by decide) (by decide) wd_1445 rfl (Nat.le_of_ble_eq_true rfl) dM_cash_25 ?_
      refine j_cv X (st := [bz_rf E 81]) (cM_lastOver E) gyM_lastOver gv_M_lastOver_81 rfl (by decide) (by decide) wd_1703 rfl (Nat.le_of_ble_eq_true rfl) dM_cash_28 ?_
      refine j_aload_n X dM_cash_31 rfl 0 rfl ?_
      refine j_cv X (st := [bz_i (fM_lastOver M (fM_known0 M)), bz_rf E 81]) (cM_known0 E) gyM_known0 gv_M_known0_81 rfl (by decide) (by decide) wd_1445 rfl (Nat.le_of_ble_eq_true rfl) dM_cash_32 ?_
      show bz_J _ _ 35 _ _ _
      refine j_iload_n X dM_cash_35 rfl 2 rfl ?_
      obtain ⟨resJ1, hf0, hkJ1⟩ := q_l1 hf
      have J1 : ∀ (v2 : Int), some v2 = some resJ1 → bz_J K 3 44 [(0, bz_rf E 81), (1, bz_i a1)] [bz_i v2, bz_i (fM_known0 M), bz_i (fM_lastOver M (fM_known0 M)), bz_rf E 81] M := by
        intro v2 he
        have hf := hkJ1 _ he
        obtain ⟨m3, hz, hf⟩ := q_cl hf
        refine j_cv X (st := []) (cM_through E F hz) gyM_through gv_M_through_81 rfl (by decide) (by decide) wd_1619 rfl (Nat.le_of_ble_eq_true rfl) dM_cash_44 ?_
        clear hz
        refine j_aload_n X dM_cash_47 rfl 0 rfl ?_
        refine j_geta X gf_M_137_81 dM_cash_48 ?_
        refine j_iload_n X dM_cash_51 rfl 1 rfl ?_
        refine j_lald X sh_188 dM_cash_52 hf (fun x4 hf => ?_)
        refine j_cs X (st := []) (cM_told E) gyM_told wd_1684 rfl (by decide) (by decide) wd_1683 rfl (Nat.le_of_ble_eq_true rfl) dM_cash_53 ?_
        cases hf
        exact j_iret X dM_cash_56 rfl rfl
      clear hf
      have hf := hf0
      clear hf0
      refine j_if_ne X (tgt := 43) rfl dM_cash_36 (by decide) hf (fun hf => ?_) (fun hf => ?_)
      · refine j_iconst X dM_cash_43 ?_
        exact j_sub [0, 1] rfl (J1 _ hf)
      · refine j_iconst X dM_cash_39 ?_
        refine j_goto X (tgt := 44) dM_cash_40 (by decide) ?_
        exact j_sub [0, 1] rfl (J1 _ hf)
    · refine j_ldcw X (v := -2147483648) wd_1453 dM_cash_18 ?_
      cases hf
      exact j_iret X dM_cash_21 rfl rfl
def M_taxOf_189_L22 (F : Nat) : Nat → bz_Mm → Int → Int → Int → Int → Int → Option (Int ⊕ (Int × Int))
  | 0, _, _, _, _, _, _ => none
  | n + 1, M, l7, l1, l8, l5, l3 =>
    if w32 l8 < w32 (M 81 35) then
    (rd_ M 103 l8 200 fun x2 =>
    rd_ M 103 l1 200 fun x3 =>
    if w32 x2 = w32 x3 then
    (rd_ M 104 l8 200 fun x4 =>
    rd_ M 104 l1 200 fun x5 =>
    if w32 x4 = w32 x5 then
    (rd_ M 108 l8 200 fun x6 =>
    if w32 x6 = 0 then
    (M_taxOf_189_L22 F n M l7 l1 (l8 + 1) l5 l3)
    else
    (rd_ M 106 l8 200 fun x7 =>
    if w32 x7 = w32 l7 then
    (rd_ M 107 l8 200 fun x8 =>
    lt_ (w32 x8) fun l9 =>
    cl1_ (if w64 l9 < 0 then
    (dv_ (l3 * (-l9)) l5 fun x11 =>
    some (x11))
    else
    (some (0))) fun v10 =>
    if w32 l8 = w32 l1 then
    (if w64 l9 < 0 then
    (rd_ M 189 l8 200 fun x15 =>
    if w64 v10 < w64 x15 then
    (rd_ M 189 l8 200 fun x16 =>
    rd_ M 104 l8 200 fun x17 =>
    cl_ (fM_ruleOf F M x17 l7 10) fun x18 =>
    some (.inl ((w64 ((x16 - v10) * (w32 x18))).tdiv 100)))
    else
    (some (.inl 0)))
    else
    (some (.inl 0)))
    else
    (cl1_ (if w64 l9 < 0 then
    (some (-v10))
    else
    (rd_ M 189 l8 200 fun x14 =>
    some (x14))) fun v13 =>
    lt_ (l3 + v13) fun l3 =>
    lt_ (l5 + l9) fun l5 =>
    M_taxOf_189_L22 F n M l7 l1 (l8 + 1) l5 l3))
    else
    (M_taxOf_189_L22 F n M l7 l1 (l8 + 1) l5 l3)))
    else
    (M_taxOf_189_L22 F n M l7 l1 (l8 + 1) l5 l3))
    else
    (M_taxOf_189_L22 F n M l7 l1 (l8 + 1) l5 l3))
    else
    (some (.inr (l5, l3)))
def M_taxOf_189_L8 (F : Nat) : Nat → bz_Mm → Int → Int → Int → Int → Option (Int ⊕ (Int))
  | 0, _, _, _, _, _ => none
  | n + 1, M, l1, l7, l5, l3 =>
    rd_ M 106 l1 200 fun x1 =>
    if w32 x1 < w32 l7 then
    (some (.inr 0))
    else
    (cs2_ (M_taxOf_189_L22 F F M l7 l1 0 l5 l3) (fun b => some (.inl b)) fun l5 l3 =>
    M_taxOf_189_L8 F n M l1 (l7 + 1) l5 l3)
theorem lM_taxOf_189_L22 (E : bz_E) (F : Nat) {K : bz_K} {rv : Option Value} {M1 : bz_Mm} (X : bz_X K E prog_14_method_82_code 13 "UnitsWrongModel" (some .long) 1 25 rv M1) {M : bz_Mm} {l7 : Int} {l1 : Int} {res : (Int ⊕ (Int × Int))}
    (kx : ∀ (l5 : Int) (l3 : Int), some (.inr (l5, l3)) = some res → bz_J K 13 208 [(7, bz_i l7), (5, bz_l l5), (3, bz_l l3), (0, bz_rf E 81), (1, bz_i l1), (2, bz_rf E 189)] [] M) (kr : ∀ b : Int, some (.inl b) = some res → some (bz_l b) = rv ∧ M = M1) :
    ∀ (n : Nat) (l8 : Int) (l5 : Int) (l3 : Int), M_taxOf_189_L22 F n M l7 l1 l8 l5 l3 = some res → bz_J K 13 22 [(8, bz_i l8), (7, bz_i l7), (5, bz_l l5), (3, bz_l l3), (0, bz_rf E 81), (1, bz_i l1), (2, bz_rf E 189)] [] M := by
  intro n
  induction n with
  | zero => intro l8 l5 l3 hf; cases hf
  | succ n ih =>
    intro l8 l5 l3 hf
    rw [M_taxOf_189_L22] at hf
    refine j_iload X dM_taxOf_22 0 rfl ?_
    refine j_aload_n X dM_taxOf_24 rfl 4 rfl ?_
    refine j_geti X gf_M_302_81 dM_taxOf_25 ?_
    refine j_icmp_ge X (tgt := 208) rfl rfl dM_taxOf_28 (by decide) hf (fun hf => ?_) (fun hf => ?_)
    · exact j_sub [1, 2, 3, 4, 5, 6] rfl (kx _ _ hf)
    · refine j_aload_n X dM_taxOf_31 rfl 4 rfl ?_
      refine j_geta X gf_M_74_81 dM_taxOf_32 ?_
      refine j_iload X dM_taxOf_35 0 rfl ?_
      refine j_iald X sh_103 dM_taxOf_37 hf (fun x2 hf => ?_)
      refine j_aload_n X dM_taxOf_38 rfl 4 rfl ?_
      refine j_geta X gf_M_74_81 dM_taxOf_39 ?_
      refine j_iload_n X dM_taxOf_42 rfl 5 rfl ?_
      show bz_J _ _ 43 _ _ _
      refine j_iald X sh_103 dM_taxOf_43 hf (fun x3 hf => ?_)
      refine j_icmp_ne X (tgt := 202) rfl rfl dM_taxOf_44 (by decide) hf (fun hf => ?_) (fun hf => ?_)
      · refine j_iinc X (y := l8 + 1) (lv' := [(8, bz_i (l8 + 1)), (7, bz_i l7), (5, bz_l l5), (3, bz_l l3), (0, bz_rf E 81), (1, bz_i l1), (2, bz_rf E 189)]) dM_taxOf_202 0 rfl rfl (by decide) rfl ?_
        refine j_goto X (tgt := 22) dM_taxOf_205 (by decide) ?_
        exact ih _ _ _ hf
      · refine j_aload_n X dM_taxOf_47 rfl 4 rfl ?_
        refine j_geta X gf_M_77_81 dM_taxOf_48 ?_
        refine j_iload X dM_taxOf_51 0 rfl ?_
        refine j_iald X sh_104 dM_taxOf_53 hf (fun x4 hf => ?_)
        refine j_aload_n X dM_taxOf_54 rfl 4 rfl ?_
        refine j_geta X gf_M_77_81 dM_taxOf_55 ?_
        refine j_iload_n X dM_taxOf_58 rfl 5 rfl ?_
        show bz_J _ _ 59 _ _ _
        refine j_iald X sh_104 dM_taxOf_59 hf (fun x5 hf => ?_)
        refine j_icmp_ne X (tgt := 202) rfl rfl dM_taxOf_60 (by decide) hf (fun hf => ?_) (fun hf => ?_)
        · refine j_iinc X (y := l8 + 1) (lv' := [(8, bz_i (l8 + 1)), (7, bz_i l7), (5, bz_l l5), (3, bz_l l3), (0, bz_rf E 81), (1, bz_i l1), (2, bz_rf E 189)]) dM_taxOf_202 0 rfl rfl (by decide) rfl ?_
          refine j_goto X (tgt := 22) dM_taxOf_205 (by decide) ?_
          exact ih _ _ _ hf
        · refine j_aload_n X dM_taxOf_63 rfl 4 rfl ?_
          refine j_geta X gf_M_89_81 dM_taxOf_64 ?_
          refine j_iload X dM_taxOf_67 0 rfl ?_
          refine j_zald X sh_108 dM_taxOf_69 hf (fun x6 hf => ?_)
          refine j_if_eq X (tgt := 202) rfl dM_taxOf_70 (by decide) hf (fun hf => ?_) (fun hf => ?_)
          · refine j_iinc X (y := l8 + 1) (lv' := [(8, bz_i (l8 + 1)), (7, bz_i l7), (5, bz_l l5), (3, bz_l l3), (0, bz_rf E 81), (1, bz_i l1), (2, bz_rf E 189)]) dM_taxOf_202 0 rfl rfl (by decide) rfl ?_
            refine j_goto X (tgt := 22) dM_taxOf_205 (by decide) ?_
            exact ih _ _ _ hf
          · refine j_aload_n X dM_taxOf_73 rfl 4 rfl ?_
            refine j_geta X gf_M_83_81 dM_taxOf_74 ?_
            refine j_iload X dM_taxOf_77 0 rfl ?_
            refine j_iald X sh_106 dM_taxOf_79 hf (fun x7 hf => ?_)
            refine j_iload X dM_taxOf_80 1 rfl ?_
            refine j_icmp_eq X (tgt := 88) rfl rfl dM_taxOf_82 (by decide) hf (fun hf => ?_) (fun hf => ?_)
            · refine j_aload_n X dM_taxOf_88 rfl 4 rfl ?_
              refine j_geta X gf_M_86_81 dM_taxOf_89 ?_
              refine j_iload X dM_taxOf_92 0 rfl ?_
              refine j_iald X sh_107 dM_taxOf_94 hf (fun x8 hf => ?_)
              refine j_i2l X rfl dM_taxOf_95 ?_
              refine j_lt (g := bz_l) hf (fun l9 hf => ?_)
              refine j_lstore X (lv' := [(9, bz_l l9), (8, bz_i l8), (7, bz_i l7), (5, bz_l l5), (3, bz_l l3), (0, bz_rf E 81), (1, bz_i l1), (2, bz_rf E 189)]) dM_taxOf_96 (by decide) rfl ?_
              refine j_lload X dM_taxOf_98 0 rfl ?_
              show bz_J _ _ 100 _ _ _
              refine j_lconst X (v := 0) dM_taxOf_100 rfl ?_
              obtain ⟨resJ9, hf0, hkJ9⟩ := q_l1 hf
              have J9 : ∀ (v10 : Int), some v10 = some resJ9 → bz_J K 13 117 [(9, bz_l l9), (8, bz_i l8), (7, bz_i l7), (5, bz_l l5), (3, bz_l l3), (0, bz_rf E 81), (1, bz_i l1), (2, bz_rf E 189)] [bz_l v10] M := by
                intro v10 he
                have hf := hkJ9 _ he
                refine j_lstore X (lv' := [(11, bz_l v10), (9, bz_l l9), (8, bz_i l8), (7, bz_i l7), (5, bz_l l5), (3, bz_l l3), (0, bz_rf E 81), (1, bz_i l1), (2, bz_rf E 189)]) dM_taxOf_117 (by decide) rfl ?_
                refine j_iload X dM_taxOf_119 2 rfl ?_
                refine j_iload_n X dM_taxOf_121 rfl 7 rfl ?_
                refine j_icmp_ne X (tgt := 175) rfl rfl dM_taxOf_122 (by decide) hf (fun hf => ?_) (fun hf => ?_)
                · refine j_lload_n X dM_taxOf_175 rfl 5 rfl ?_
                  refine j_lload X dM_taxOf_176 1 rfl ?_
                  refine j_lconst X (v := 0) dM_taxOf_178 rfl ?_
                  obtain ⟨resJ12, hf0, hkJ12⟩ := q_l1 hf
                  have J12 : ∀ (v13 : Int), some v13 = some resJ12 → bz_J K 13 193 [(9, bz_l l9), (8, bz_i l8), (7, bz_i l7), (5, bz_l l5), (0, bz_rf E 81), (1, bz_i l1), (2, bz_rf E 189)] [bz_l v13, bz_l l3] M := by
                    intro v13 he
                    have hf := hkJ12 _ he
                    refine j_ladd X dM_taxOf_193 ?_
                    refine j_lt (g := bz_l) hf (fun l3 hf => ?_)
                    refine j_lstore_n X (lv' := [(3, bz_l l3), (9, bz_l l9), (8, bz_i l8), (7, bz_i l7), (5, bz_l l5), (0, bz_rf E 81), (1, bz_i l1), (2, bz_rf E 189)]) dM_taxOf_194 rfl (by decide) rfl ?_
                    refine j_lload X dM_taxOf_195 4 rfl ?_
                    refine j_lload X dM_taxOf_197 1 rfl ?_
                    refine j_ladd X dM_taxOf_199 ?_
                    refine j_lt (g := bz_l) hf (fun l5 hf => ?_)
                    refine j_lstore X (lv' := [(5, bz_l l5), (3, bz_l l3), (9, bz_l l9), (8, bz_i l8), (7, bz_i l7), (0, bz_rf E 81), (1, bz_i l1), (2, bz_rf E 189)]) dM_taxOf_200 (by decide) rfl ?_
                    refine j_iinc X (y := l8 + 1) (lv' := [(8, bz_i (l8 + 1)), (5, bz_l l5), (3, bz_l l3), (9, bz_l l9), (7, bz_i l7), (0, bz_rf E 81), (1, bz_i l1), (2, bz_rf E 189)]) dM_taxOf_202 3 rfl rfl (by decide) rfl ?_
                    show bz_J _ _ 205 _ _ _
                    refine j_goto X (tgt := 22) dM_taxOf_205 (by decide) ?_
                    exact j_sub [0, 4, 1, 2, 5, 6, 7] rfl (ih _ _ _ hf)
                  clear hf
                  have hf := hf0
                  clear hf0
                  refine j_lcmp_ge X (tgt := 189) rfl (w64_lit rfl) dM_taxOf_179 dM_taxOf_180 (by decide) hf (fun hf => ?_) (fun hf => ?_)
                  · refine j_aload_n X dM_taxOf_189 rfl 8 rfl ?_
                    refine j_iload X dM_taxOf_190 2 rfl ?_
                    refine j_lald X sh_189 dM_taxOf_192 hf (fun x14 hf => ?_)
                    exact j_sub [1, 2, 3, 4, 6, 7, 8] rfl (J12 _ hf)
                  · refine j_lload X dM_taxOf_183 0 rfl ?_
                    refine j_lneg X dM_taxOf_185 ?_
                    refine j_goto X (tgt := 193) dM_taxOf_186 (by decide) ?_
                    exact j_sub [1, 2, 3, 4, 6, 7, 8] rfl (J12 _ hf)
                · refine j_lload X dM_taxOf_125 1 rfl ?_
                  refine j_lconst X (v := 0) dM_taxOf_127 rfl ?_
                  refine j_lcmp_ge X (tgt := 142) rfl (w64_lit rfl) dM_taxOf_128 dM_taxOf_129 (by decide) hf (fun hf => ?_) (fun hf => ?_)
                  · refine j_lconst X (v := 0) dM_taxOf_142 rfl ?_
                    refine j_goto X (tgt := 174) dM_taxOf_143 (by decide) ?_
                    exact j_lret X dM_taxOf_174 (kr _ hf).1 (kr _ hf).2
                  · refine j_aload_n X dM_taxOf_132 rfl 8 rfl ?_
                    refine j_iload X dM_taxOf_133 2 rfl ?_
                    refine j_lald X sh_189 dM_taxOf_135 hf (fun x15 hf => ?_)
                    refine j_lload X dM_taxOf_136 0 rfl ?_
                    refine j_lcmp_gt X (tgt := 146) rfl rfl dM_taxOf_138 dM_taxOf_139 (by decide) hf (fun hf => ?_) (fun hf => ?_)
                    · refine j_aload_n X dM_taxOf_146 rfl 8 rfl ?_
                      refine j_iload X dM_taxOf_147 2 rfl ?_
                      refine j_lald X sh_189 dM_taxOf_149 hf (fun x16 hf => ?_)
                      refine j_lload X dM_taxOf_150 0 rfl ?_
                      refine j_lsub X dM_taxOf_152 ?_
                      refine j_aload_n X dM_taxOf_153 rfl 6 rfl ?_
                      refine j_aload_n X dM_taxOf_154 rfl 6 rfl ?_
                      show bz_J _ _ 155 _ _ _
                      refine j_geta X gf_M_77_81 dM_taxOf_155 ?_
                      refine j_iload X dM_taxOf_158 2 rfl ?_
                      refine j_iald X sh_104 dM_taxOf_160 hf (fun x17 hf => ?_)
                      refine j_iload X dM_taxOf_161 3 rfl ?_
                      refine j_bipush X dM_taxOf_163 rfl ?_
                      obtain ⟨x18, hzx18, hf⟩ := q_cl hf
                      refine j_cv X (st := [bz_l (x16 - v10)]) (cM_ruleOf E F hzx18) gyM_ruleOf gv_M_ruleOf_81 rfl (by decide) (by decide) wd_1499 rfl (Nat.le_of_ble_eq_true rfl) dM_taxOf_165 ?_
                      refine j_i2l X rfl dM_taxOf_168 ?_
                      refine j_lmul X dM_taxOf_169 ?_
                      show bz_J _ _ 170 _ _ _
                      refine j_ldc2 X (v := 100) wd_1440 dM_taxOf_170 ?_
                      refine j_ldl X (w64_lit rfl) (by decide) dM_taxOf_173 ?_
                      exact j_lret X dM_taxOf_174 (kr _ hf).1 (kr _ hf).2
                    · refine j_lconst X (v := 0) dM_taxOf_142 rfl ?_
                      refine j_goto X (tgt := 174) dM_taxOf_143 (by decide) ?_
                      exact j_lret X dM_taxOf_174 (kr _ hf).1 (kr _ hf).2
              clear hf
              have hf := hf0
              clear hf0
              refine j_lcmp_ge X (tgt := 116) rfl (w64_lit rfl) dM_taxOf_101 dM_taxOf_102 (by decide) hf (fun hf => ?_) (fun hf => ?_)
              · refine j_lconst X (v := 0) dM_taxOf_116 rfl ?_
                exact J9 _ hf
              · refine j_lload_n X dM_taxOf_105 rfl 4 rfl ?_
                refine j_lload X dM_taxOf_106 0 rfl ?_
                refine j_lneg X dM_taxOf_108 ?_
                refine j_lmul X dM_taxOf_109 ?_
                refine j_lload X dM_taxOf_110 3 rfl ?_
                refine j_ldiv X dM_taxOf_112 hf (fun x11 hf => ?_)
                refine j_goto X (tgt := 117) dM_taxOf_113 (by decide) ?_
                exact J9 _ hf
            · refine j_goto X (tgt := 202) dM_taxOf_85 (by decide) ?_
              refine j_iinc X (y := l8 + 1) (lv' := [(8, bz_i (l8 + 1)), (7, bz_i l7), (5, bz_l l5), (3, bz_l l3), (0, bz_rf E 81), (1, bz_i l1), (2, bz_rf E 189)]) dM_taxOf_202 0 rfl rfl (by decide) rfl ?_
              refine j_goto X (tgt := 22) dM_taxOf_205 (by decide) ?_
              exact ih _ _ _ hf
theorem lM_taxOf_189_L8 (E : bz_E) (F : Nat) {K : bz_K} {rv : Option Value} {M1 : bz_Mm} (X : bz_X K E prog_14_method_82_code 13 "UnitsWrongModel" (some .long) 1 25 rv M1) {M : bz_Mm} {l1 : Int} {res : (Int ⊕ (Int))}
    (kx : ∀ (_u : Int), some (.inr _u) = some res → bz_J K 13 214 [] [] M) (kr : ∀ b : Int, some (.inl b) = some res → some (bz_l b) = rv ∧ M = M1) :
    ∀ (n : Nat) (l7 : Int) (l5 : Int) (l3 : Int), M_taxOf_189_L8 F n M l1 l7 l5 l3 = some res → bz_J K 13 8 [(7, bz_i l7), (5, bz_l l5), (3, bz_l l3), (0, bz_rf E 81), (1, bz_i l1), (2, bz_rf E 189)] [] M := by
  intro n
  induction n with
  | zero => intro l7 l5 l3 hf; cases hf
  | succ n ih =>
    intro l7 l5 l3 hf
    rw [M_taxOf_189_L8] at hf
    refine j_iload X dM_taxOf_8 0 rfl ?_
    refine j_aload_n X dM_taxOf_10 rfl 3 rfl ?_
    refine j_geta X gf_M_83_81 dM_taxOf_11 ?_
    refine j_iload_n X dM_taxOf_14 rfl 4 rfl ?_
    refine j_iald X sh_106 dM_taxOf_15 hf (fun x1 hf => ?_)
    refine j_icmp_gt X (tgt := 214) rfl rfl dM_taxOf_16 (by decide) hf (fun hf => ?_) (fun hf => ?_)
    · exact j_sub [] rfl (kx _ hf)
    · refine j_iconst X dM_taxOf_19 ?_
      refine j_istore X (lv' := [(8, bz_i 0), (7, bz_i l7), (5, bz_l l5), (3, bz_l l3), (0, bz_rf E 81), (1, bz_i l1), (2, bz_rf E 189)]) dM_taxOf_20 (by decide) rfl ?_
      obtain ⟨res19, hz19, hk19, hr19⟩ := q_s2 hf
      clear hf
      refine lM_taxOf_189_L22 E F X (fun l5 l3 he => ?_) (fun b he => ?_) F 0 l5 l3 hz19
      · have hf := hk19 _ _ he
        refine j_iinc X (y := l7 + 1) (lv' := [(7, bz_i (l7 + 1)), (5, bz_l l5), (3, bz_l l3), (0, bz_rf E 81), (1, bz_i l1), (2, bz_rf E 189)]) dM_taxOf_208 0 rfl rfl (by decide) rfl ?_
        refine j_goto X (tgt := 8) dM_taxOf_211 (by decide) ?_
        exact ih _ _ _ hf
      · exact kr _ (hr19 _ he)
def fM_taxOf_189 (F : Nat) (M : bz_Mm) (a1 : Int) : Option (Int) :=
  cs1_ (M_taxOf_189_L8 F F M a1 0 0 0) (fun b => some b) fun _u =>
  some 0
set_option maxHeartbeats 4000000 in
set_option maxRecDepth 20000 in
theorem cM_taxOf_189 (E : bz_E) (F : Nat)  {M : bz_Mm} {a1 : Int} {x0 : Int} (hf : fM_taxOf_189 F M a1 = some x0) : bz_Ct E yM_taxOf (.code yM_taxOf prog_14_method_82_code 13 (some .long)) 1 25 [bz_rf E 81, bz_i a1, bz_rf E 189] M (some (bz_l x0)) M := by
  refine bz_met (by decide +kernel) (Nat.le_of_ble_eq_true rfl) (fun K X => ?_)
  have X : bz_X K E prog_14_method_82_code 13 "UnitsWrongModel" (some .long) 1 25 _ _ := X
  unfold fM_taxOf_189 at hf
  show bz_J K 13 0 [(0, bz_rf E 81), (1, bz_i a1), (2, bz_rf E 189)] [] M
  refine j_lconst X (v := 0) dM_taxOf_0 rfl ?_
  refine j_lstore_n X (lv' := [(3, bz_l 0), (0, bz_rf E 81), (1, bz_i a1), (2, bz_rf E 189)]) dM_taxOf_1 rfl (by decide) rfl ?_
  refine j_lconst X (v := 0) dM_taxOf_2 rfl ?_
  refine j_lstore X (lv' := [(5, bz_l 0), (3, bz_l 0), (0, bz_rf E 81), (1, bz_i a1), (2, bz_rf E 189)]) dM_taxOf_3 (by decide) rfl ?_
  refine j_iconst X dM_taxOf_5 ?_
  refine j_istore X (lv' := [(7, bz_i 0), (5, bz_l 0), (3, bz_l 0), (0, bz_rf E 81), (1, bz_i a1), (2, bz_rf E 189)]) dM_taxOf_6 (by decide) rfl ?_
  obtain ⟨res20, hz20, hk20, hr20⟩ := q_s1 hf
  clear hf
  refine lM_taxOf_189_L8 E F X (fun _u he => ?_) (fun b he => ?_) F 0 0 0 hz20
  · have hf := hk20 _ he
    refine j_lconst X (v := 0) dM_taxOf_214 rfl ?_
    cases hf
    exact j_lret X dM_taxOf_215 rfl rfl
  · have hf := hr20 _ he
    cases hf
    exact ⟨rfl, rfl⟩
def M_taxOf_109_L22 (F : Nat) : Nat → bz_Mm → Int → Int → Int → Int → Int → Option (Int ⊕ (Int × Int))
  | 0, _, _, _, _, _, _ => none
  | n + 1, M, l7, l1, l8, l5, l3 =>
    if w32 l8 < w32 (M 81 35) then
    (rd_ M 103 l8 200 fun x2 =>
    rd_ M 103 l1 200 fun x3 =>
    if w32 x2 = w32 x3 then
    (rd_ M 104 l8 200 fun x4 =>
    rd_ M 104 l1 200 fun x5 =>
    if w32 x4 = w32 x5 then
    (rd_ M 108 l8 200 fun x6 =>
    if w32 x6 = 0 then
    (M_taxOf_109_L22 F n M l7 l1 (l8 + 1) l5 l3)
    else
    (rd_ M 106 l8 200 fun x7 =>
    if w32 x7 = w32 l7 then
    (rd_ M 107 l8 200 fun x8 =>
    lt_ (w32 x8) fun l9 =>
    cl1_ (if w64 l9 < 0 then
    (dv_ (l3 * (-l9)) l5 fun x11 =>
    some (x11))
    else
    (some (0))) fun v10 =>
    if w32 l8 = w32 l1 then
    (if w64 l9 < 0 then
    (rd_ M 109 l8 200 fun x15 =>
    if w64 v10 < w64 x15 then
    (rd_ M 109 l8 200 fun x16 =>
    rd_ M 104 l8 200 fun x17 =>
    cl_ (fM_ruleOf F M x17 l7 10) fun x18 =>
    some (.inl ((w64 ((x16 - v10) * (w32 x18))).tdiv 100)))
    else
    (some (.inl 0)))
    else
    (some (.inl 0)))
    else
    (cl1_ (if w64 l9 < 0 then
    (some (-v10))
    else
    (rd_ M 109 l8 200 fun x14 =>
    some (x14))) fun v13 =>
    lt_ (l3 + v13) fun l3 =>
    lt_ (l5 + l9) fun l5 =>
    M_taxOf_109_L22 F n M l7 l1 (l8 + 1) l5 l3))
    else
    (M_taxOf_109_L22 F n M l7 l1 (l8 + 1) l5 l3)))
    else
    (M_taxOf_109_L22 F n M l7 l1 (l8 + 1) l5 l3))
    else
    (M_taxOf_109_L22 F n M l7 l1 (l8 + 1) l5 l3))
    else
    (some (.inr (l5, l3)))
def M_taxOf_109_L8 (F : Nat) : Nat → bz_Mm → Int → Int → Int → Int → Option (Int ⊕ (Int))
  | 0, _, _, _, _, _ => none
  | n + 1, M, l1, l7, l5, l3 =>
    rd_ M 106 l1 200 fun x1 =>
    if w32 x1 < w32 l7 then
    (some (.inr 0))
    else
    (cs2_ (M_taxOf_109_L22 F F M l7 l1 0 l5 l3) (fun b => some (.inl b)) fun l5 l3 =>
    M_taxOf_109_L8 F n M l1 (l7 + 1) l5 l3)
theorem lM_taxOf_109_L22 (E : bz_E) (F : Nat) {K : bz_K} {rv : Option Value} {M1 : bz_Mm} (X : bz_X K E prog_14_method_82_code 13 "UnitsWrongModel" (some .long) 1 25 rv M1) {M : bz_Mm} {l7 : Int} {l1 : Int} {res : (Int ⊕ (Int × Int))}
    (kx : ∀ (l5 : Int) (l3 : Int), some (.inr (l5, l3)) = some res → bz_J K 13 208 [(7, bz_i l7), (5, bz_l l5), (3, bz_l l3), (0, bz_rf E 81), (1, bz_i l1), (2, bz_rf E 109)] [] M) (kr : ∀ b : Int, some (.inl b) = some res → some (bz_l b) = rv ∧ M = M1) :
    ∀ (n : Nat) (l8 : Int) (l5 : Int) (l3 : Int), M_taxOf_109_L22 F n M l7 l1 l8 l5 l3 = some res → bz_J K 13 22 [(8, bz_i l8), (7, bz_i l7), (5, bz_l l5), (3, bz_l l3), (0, bz_rf E 81), (1, bz_i l1), (2, bz_rf E 109)] [] M := by
  intro n
  induction n with
  | zero => intro l8 l5 l3 hf; cases hf
  | succ n ih =>
    intro l8 l5 l3 hf
    rw [M_taxOf_109_L22] at hf
    refine j_iload X dM_taxOf_22 0 rfl ?_
    refine j_aload_n X dM_taxOf_24 rfl 4 rfl ?_
    refine j_geti X gf_M_302_81 dM_taxOf_25 ?_
    refine j_icmp_ge X (tgt := 208) rfl rfl dM_taxOf_28 (by decide) hf (fun hf => ?_) (fun hf => ?_)
    · exact j_sub [1, 2, 3, 4, 5, 6] rfl (kx _ _ hf)
    · refine j_aload_n X dM_taxOf_31 rfl 4 rfl ?_
      refine j_geta X gf_M_74_81 dM_taxOf_32 ?_
      refine j_iload X dM_taxOf_35 0 rfl ?_
      refine j_iald X sh_103 dM_taxOf_37 hf (fun x2 hf => ?_)
      refine j_aload_n X dM_taxOf_38 rfl 4 rfl ?_
      refine j_geta X gf_M_74_81 dM_taxOf_39 ?_
      refine j_iload_n X dM_taxOf_42 rfl 5 rfl ?_
      show bz_J _ _ 43 _ _ _
      refine j_iald X sh_103 dM_taxOf_43 hf (fun x3 hf => ?_)
      refine j_icmp_ne X (tgt := 202) rfl rfl dM_taxOf_44 (by decide) hf (fun hf => ?_) (fun hf => ?_)
      · refine j_iinc X (y := l8 + 1) (lv' := [(8, bz_i (l8 + 1)), (7, bz_i l7), (5, bz_l l5), (3, bz_l l3), (0, bz_rf E 81), (1, bz_i l1), (2, bz_rf E 109)]) dM_taxOf_202 0 rfl rfl (by decide) rfl ?_
        refine j_goto X (tgt := 22) dM_taxOf_205 (by decide) ?_
        exact ih _ _ _ hf
      · refine j_aload_n X dM_taxOf_47 rfl 4 rfl ?_
        refine j_geta X gf_M_77_81 dM_taxOf_48 ?_
        refine j_iload X dM_taxOf_51 0 rfl ?_
        refine j_iald X sh_104 dM_taxOf_53 hf (fun x4 hf => ?_)
        refine j_aload_n X dM_taxOf_54 rfl 4 rfl ?_
        refine j_geta X gf_M_77_81 dM_taxOf_55 ?_
        refine j_iload_n X dM_taxOf_58 rfl 5 rfl ?_
        show bz_J _ _ 59 _ _ _
        refine j_iald X sh_104 dM_taxOf_59 hf (fun x5 hf => ?_)
        refine j_icmp_ne X (tgt := 202) rfl rfl dM_taxOf_60 (by decide) hf (fun hf => ?_) (fun hf => ?_)
        · refine j_iinc X (y := l8 + 1) (lv' := [(8, bz_i (l8 + 1)), (7, bz_i l7), (5, bz_l l5), (3, bz_l l3), (0, bz_rf E 81), (1, bz_i l1), (2, bz_rf E 109)]) dM_taxOf_202 0 rfl rfl (by decide) rfl ?_
          refine j_goto X (tgt := 22) dM_taxOf_205 (by decide) ?_
          exact ih _ _ _ hf
        · refine j_aload_n X dM_taxOf_63 rfl 4 rfl ?_
          refine j_geta X gf_M_89_81 dM_taxOf_64 ?_
          refine j_iload X dM_taxOf_67 0 rfl ?_
          refine j_zald X sh_108 dM_taxOf_69 hf (fun x6 hf => ?_)
          refine j_if_eq X (tgt := 202) rfl dM_taxOf_70 (by decide) hf (fun hf => ?_) (fun hf => ?_)
          · refine j_iinc X (y := l8 + 1) (lv' := [(8, bz_i (l8 + 1)), (7, bz_i l7), (5, bz_l l5), (3, bz_l l3), (0, bz_rf E 81), (1, bz_i l1), (2, bz_rf E 109)]) dM_taxOf_202 0 rfl rfl (by decide) rfl ?_
            refine j_goto X (tgt := 22) dM_taxOf_205 (by decide) ?_
            exact ih _ _ _ hf
          · refine j_aload_n X dM_taxOf_73 rfl 4 rfl ?_
            refine j_geta X gf_M_83_81 dM_taxOf_74 ?_
            refine j_iload X dM_taxOf_77 0 rfl ?_
            refine j_iald X sh_106 dM_taxOf_79 hf (fun x7 hf => ?_)
            refine j_iload X dM_taxOf_80 1 rfl ?_
            refine j_icmp_eq X (tgt := 88) rfl rfl dM_taxOf_82 (by decide) hf (fun hf => ?_) (fun hf => ?_)
            · refine j_aload_n X dM_taxOf_88 rfl 4 rfl ?_
              refine j_geta X gf_M_86_81 dM_taxOf_89 ?_
              refine j_iload X dM_taxOf_92 0 rfl ?_
              refine j_iald X sh_107 dM_taxOf_94 hf (fun x8 hf => ?_)
              refine j_i2l X rfl dM_taxOf_95 ?_
              refine j_lt (g := bz_l) hf (fun l9 hf => ?_)
              refine j_lstore X (lv' := [(9, bz_l l9), (8, bz_i l8), (7, bz_i l7), (5, bz_l l5), (3, bz_l l3), (0, bz_rf E 81), (1, bz_i l1), (2, bz_rf E 109)]) dM_taxOf_96 (by decide) rfl ?_
              refine j_lload X dM_taxOf_98 0 rfl ?_
              show bz_J _ _ 100 _ _ _
              refine j_lconst X (v := 0) dM_taxOf_100 rfl ?_
              obtain ⟨resJ9, hf0, hkJ9⟩ := q_l1 hf
              have J9 : ∀ (v10 : Int), some v10 = some resJ9 → bz_J K 13 117 [(9, bz_l l9), (8, bz_i l8), (7, bz_i l7), (5, bz_l l5), (3, bz_l l3), (0, bz_rf E 81), (1, bz_i l1), (2, bz_rf E 109)] [bz_l v10] M := by
                intro v10 he
                have hf := hkJ9 _ he
                refine j_lstore X (lv' := [(11, bz_l v10), (9, bz_l l9), (8, bz_i l8), (7, bz_i l7), (5, bz_l l5), (3, bz_l l3), (0, bz_rf E 81), (1, bz_i l1), (2, bz_rf E 109)]) dM_taxOf_117 (by decide) rfl ?_
                refine j_iload X dM_taxOf_119 2 rfl ?_
                refine j_iload_n X dM_taxOf_121 rfl 7 rfl ?_
                refine j_icmp_ne X (tgt := 175) rfl rfl dM_taxOf_122 (by decide) hf (fun hf => ?_) (fun hf => ?_)
                · refine j_lload_n X dM_taxOf_175 rfl 5 rfl ?_
                  refine j_lload X dM_taxOf_176 1 rfl ?_
                  refine j_lconst X (v := 0) dM_taxOf_178 rfl ?_
                  obtain ⟨resJ12, hf0, hkJ12⟩ := q_l1 hf
                  have J12 : ∀ (v13 : Int), some v13 = some resJ12 → bz_J K 13 193 [(9, bz_l l9), (8, bz_i l8), (7, bz_i l7), (5, bz_l l5), (0, bz_rf E 81), (1, bz_i l1), (2, bz_rf E 109)] [bz_l v13, bz_l l3] M := by
                    intro v13 he
                    have hf := hkJ12 _ he
                    refine j_ladd X dM_taxOf_193 ?_
                    refine j_lt (g := bz_l) hf (fun l3 hf => ?_)
                    refine j_lstore_n X (lv' := [(3, bz_l l3), (9, bz_l l9), (8, bz_i l8), (7, bz_i l7), (5, bz_l l5), (0, bz_rf E 81), (1, bz_i l1), (2, bz_rf E 109)]) dM_taxOf_194 rfl (by decide) rfl ?_
                    refine j_lload X dM_taxOf_195 4 rfl ?_
                    refine j_lload X dM_taxOf_197 1 rfl ?_
                    refine j_ladd X dM_taxOf_199 ?_
                    refine j_lt (g := bz_l) hf (fun l5 hf => ?_)
                    refine j_lstore X (lv' := [(5, bz_l l5), (3, bz_l l3), (9, bz_l l9), (8, bz_i l8), (7, bz_i l7), (0, bz_rf E 81), (1, bz_i l1), (2, bz_rf E 109)]) dM_taxOf_200 (by decide) rfl ?_
                    refine j_iinc X (y := l8 + 1) (lv' := [(8, bz_i (l8 + 1)), (5, bz_l l5), (3, bz_l l3), (9, bz_l l9), (7, bz_i l7), (0, bz_rf E 81), (1, bz_i l1), (2, bz_rf E 109)]) dM_taxOf_202 3 rfl rfl (by decide) rfl ?_
                    show bz_J _ _ 205 _ _ _
                    refine j_goto X (tgt := 22) dM_taxOf_205 (by decide) ?_
                    exact j_sub [0, 4, 1, 2, 5, 6, 7] rfl (ih _ _ _ hf)
                  clear hf
                  have hf := hf0
                  clear hf0
                  refine j_lcmp_ge X (tgt := 189) rfl (w64_lit rfl) dM_taxOf_179 dM_taxOf_180 (by decide) hf (fun hf => ?_) (fun hf => ?_)
                  · refine j_aload_n X dM_taxOf_189 rfl 8 rfl ?_
                    refine j_iload X dM_taxOf_190 2 rfl ?_
                    refine j_lald X sh_109 dM_taxOf_192 hf (fun x14 hf => ?_)
                    exact j_sub [1, 2, 3, 4, 6, 7, 8] rfl (J12 _ hf)
                  · refine j_lload X dM_taxOf_183 0 rfl ?_
                    refine j_lneg X dM_taxOf_185 ?_
                    refine j_goto X (tgt := 193) dM_taxOf_186 (by decide) ?_
                    exact j_sub [1, 2, 3, 4, 6, 7, 8] rfl (J12 _ hf)
                · refine j_lload X dM_taxOf_125 1 rfl ?_
                  refine j_lconst X (v := 0) dM_taxOf_127 rfl ?_
                  refine j_lcmp_ge X (tgt := 142) rfl (w64_lit rfl) dM_taxOf_128 dM_taxOf_129 (by decide) hf (fun hf => ?_) (fun hf => ?_)
                  · refine j_lconst X (v := 0) dM_taxOf_142 rfl ?_
                    refine j_goto X (tgt := 174) dM_taxOf_143 (by decide) ?_
                    exact j_lret X dM_taxOf_174 (kr _ hf).1 (kr _ hf).2
                  · refine j_aload_n X dM_taxOf_132 rfl 8 rfl ?_
                    refine j_iload X dM_taxOf_133 2 rfl ?_
                    refine j_lald X sh_109 dM_taxOf_135 hf (fun x15 hf => ?_)
                    refine j_lload X dM_taxOf_136 0 rfl ?_
                    refine j_lcmp_gt X (tgt := 146) rfl rfl dM_taxOf_138 dM_taxOf_139 (by decide) hf (fun hf => ?_) (fun hf => ?_)
                    · refine j_aload_n X dM_taxOf_146 rfl 8 rfl ?_
                      refine j_iload X dM_taxOf_147 2 rfl ?_
                      refine j_lald X sh_109 dM_taxOf_149 hf (fun x16 hf => ?_)
                      refine j_lload X dM_taxOf_150 0 rfl ?_
                      refine j_lsub X dM_taxOf_152 ?_
                      refine j_aload_n X dM_taxOf_153 rfl 6 rfl ?_
                      refine j_aload_n X dM_taxOf_154 rfl 6 rfl ?_
                      show bz_J _ _ 155 _ _ _
                      refine j_geta X gf_M_77_81 dM_taxOf_155 ?_
                      refine j_iload X dM_taxOf_158 2 rfl ?_
                      refine j_iald X sh_104 dM_taxOf_160 hf (fun x17 hf => ?_)
                      refine j_iload X dM_taxOf_161 3 rfl ?_
                      refine j_bipush X dM_taxOf_163 rfl ?_
                      obtain ⟨x18, hzx18, hf⟩ := q_cl hf
                      refine j_cv X (st := [bz_l (x16 - v10)]) (cM_ruleOf E F hzx18) gyM_ruleOf gv_M_ruleOf_81 rfl (by decide) (by decide) wd_1499 rfl (Nat.le_of_ble_eq_true rfl) dM_taxOf_165 ?_
                      refine j_i2l X rfl dM_taxOf_168 ?_
                      refine j_lmul X dM_taxOf_169 ?_
                      show bz_J _ _ 170 _ _ _
                      refine j_ldc2 X (v := 100) wd_1440 dM_taxOf_170 ?_
                      refine j_ldl X (w64_lit rfl) (by decide) dM_taxOf_173 ?_
                      exact j_lret X dM_taxOf_174 (kr _ hf).1 (kr _ hf).2
                    · refine j_lconst X (v := 0) dM_taxOf_142 rfl ?_
                      refine j_goto X (tgt := 174) dM_taxOf_143 (by decide) ?_
                      exact j_lret X dM_taxOf_174 (kr _ hf).1 (kr _ hf).2
              clear hf
              have hf := hf0
              clear hf0
              refine j_lcmp_ge X (tgt := 116) rfl (w64_lit rfl) dM_taxOf_101 dM_taxOf_102 (by decide) hf (fun hf => ?_) (fun hf => ?_)
              · refine j_lconst X (v := 0) dM_taxOf_116 rfl ?_
                exact J9 _ hf
              · refine j_lload_n X dM_taxOf_105 rfl 4 rfl ?_
                refine j_lload X dM_taxOf_106 0 rfl ?_
                refine j_lneg X dM_taxOf_108 ?_
                refine j_lmul X dM_taxOf_109 ?_
                refine j_lload X dM_taxOf_110 3 rfl ?_
                refine j_ldiv X dM_taxOf_112 hf (fun x11 hf => ?_)
                refine j_goto X (tgt := 117) dM_taxOf_113 (by decide) ?_
                exact J9 _ hf
            · refine j_goto X (tgt := 202) dM_taxOf_85 (by decide) ?_
              refine j_iinc X (y := l8 + 1) (lv' := [(8, bz_i (l8 + 1)), (7, bz_i l7), (5, bz_l l5), (3, bz_l l3), (0, bz_rf E 81), (1, bz_i l1), (2, bz_rf E 109)]) dM_taxOf_202 0 rfl rfl (by decide) rfl ?_
              refine j_goto X (tgt := 22) dM_taxOf_205 (by decide) ?_
              exact ih _ _ _ hf
theorem lM_taxOf_109_L8 (E : bz_E) (F : Nat) {K : bz_K} {rv : Option Value} {M1 : bz_Mm} (X : bz_X K E prog_14_method_82_code 13 "UnitsWrongModel" (some .long) 1 25 rv M1) {M : bz_Mm} {l1 : Int} {res : (Int ⊕ (Int))}
    (kx : ∀ (_u : Int), some (.inr _u) = some res → bz_J K 13 214 [] [] M) (kr : ∀ b : Int, some (.inl b) = some res → some (bz_l b) = rv ∧ M = M1) :
    ∀ (n : Nat) (l7 : Int) (l5 : Int) (l3 : Int), M_taxOf_109_L8 F n M l1 l7 l5 l3 = some res → bz_J K 13 8 [(7, bz_i l7), (5, bz_l l5), (3, bz_l l3), (0, bz_rf E 81), (1, bz_i l1), (2, bz_rf E 109)] [] M := by
  intro n
  induction n with
  | zero => intro l7 l5 l3 hf; cases hf
  | succ n ih =>
    intro l7 l5 l3 hf
    rw [M_taxOf_109_L8] at hf
    refine j_iload X dM_taxOf_8 0 rfl ?_
    refine j_aload_n X dM_taxOf_10 rfl 3 rfl ?_
    refine j_geta X gf_M_83_81 dM_taxOf_11 ?_
    refine j_iload_n X dM_taxOf_14 rfl 4 rfl ?_
    refine j_iald X sh_106 dM_taxOf_15 hf (fun x1 hf => ?_)
    refine j_icmp_gt X (tgt := 214) rfl rfl dM_taxOf_16 (by decide) hf (fun hf => ?_) (fun hf => ?_)
    · exact j_sub [] rfl (kx _ hf)
    · refine j_iconst X dM_taxOf_19 ?_
      refine j_istore X (lv' := [(8, bz_i 0), (7, bz_i l7), (5, bz_l l5), (3, bz_l l3), (0, bz_rf E 81), (1, bz_i l1), (2, bz_rf E 109)]) dM_taxOf_20 (by decide) rfl ?_
      obtain ⟨res19, hz19, hk19, hr19⟩ := q_s2 hf
      clear hf
      refine lM_taxOf_109_L22 E F X (fun l5 l3 he => ?_) (fun b he => ?_) F 0 l5 l3 hz19
      · have hf := hk19 _ _ he
        refine j_iinc X (y := l7 + 1) (lv' := [(7, bz_i (l7 + 1)), (5, bz_l l5), (3, bz_l l3), (0, bz_rf E 81), (1, bz_i l1), (2, bz_rf E 109)]) dM_taxOf_208 0 rfl rfl (by decide) rfl ?_
        refine j_goto X (tgt := 8) dM_taxOf_211 (by decide) ?_
        exact ih _ _ _ hf
      · exact kr _ (hr19 _ he)
def fM_taxOf_109 (F : Nat) (M : bz_Mm) (a1 : Int) : Option (Int) :=
  cs1_ (M_taxOf_109_L8 F F M a1 0 0 0) (fun b => some b) fun _u =>
  some 0
set_option maxHeartbeats 4000000 in
set_option maxRecDepth 20000 in
theorem cM_taxOf_109 (E : bz_E) (F : Nat)  {M : bz_Mm} {a1 : Int} {x0 : Int} (hf : fM_taxOf_109 F M a1 = some x0) : bz_Ct E yM_taxOf (.code yM_taxOf prog_14_method_82_code 13 (some .long)) 1 25 [bz_rf E 81, bz_i a1, bz_rf E 109] M (some (bz_l x0)) M := by
  refine bz_met (by decide +kernel) (Nat.le_of_ble_eq_true rfl) (fun K X => ?_)
  have X : bz_X K E prog_14_method_82_code 13 "UnitsWrongModel" (some .long) 1 25 _ _ := X
  unfold fM_taxOf_109 at hf
  show bz_J K 13 0 [(0, bz_rf E 81), (1, bz_i a1), (2, bz_rf E 109)] [] M
  refine j_lconst X (v := 0) dM_taxOf_0 rfl ?_
  refine j_lstore_n X (lv' := [(3, bz_l 0), (0, bz_rf E 81), (1, bz_i a1), (2, bz_rf E 109)]) dM_taxOf_1 rfl (by decide) rfl ?_
  refine j_lconst X (v := 0) dM_taxOf_2 rfl ?_
  refine j_lstore X (lv' := [(5, bz_l 0), (3, bz_l 0), (0, bz_rf E 81), (1, bz_i a1), (2, bz_rf E 109)]) dM_taxOf_3 (by decide) rfl ?_
  refine j_iconst X dM_taxOf_5 ?_
  refine j_istore X (lv' := [(7, bz_i 0), (5, bz_l 0), (3, bz_l 0), (0, bz_rf E 81), (1, bz_i a1), (2, bz_rf E 109)]) dM_taxOf_6 (by decide) rfl ?_
  obtain ⟨res20, hz20, hk20, hr20⟩ := q_s1 hf
  clear hf
  refine lM_taxOf_109_L8 E F X (fun _u he => ?_) (fun b he => ?_) F 0 0 0 hz20
  · have hf := hk20 _ he
    refine j_lconst X (v := 0) dM_taxOf_214 rfl ?_
    cases hf
    exact j_lret X dM_taxOf_215 rfl rfl
  · have hf := hr20 _ he
    cases hf
    exact ⟨rfl, rfl⟩
def fM_dealt (F : Nat) (M : bz_Mm) (a1 : Int) (a2 : Int) : Option (Int × bz_Mm) :=
  if w32 (fM_in (w32 a1) 0 (w32 ((M 81 35) - 1))) = 0 then
  (some (((-2147483648), M)))
  else
  (if w32 a2 = 0 then
  (rd_ M 103 a1 200 fun x1 =>
  if w32 x1 < 16 then
  (rd_ M 103 a1 200 fun x3 =>
  some ((x3, M)))
  else
  (rd_ M 103 a1 200 fun x2 =>
  some (((x2 - 16) + 20, M))))
  else if w32 a2 = 1 then
  (rd_ M 104 a1 200 fun x4 =>
  some ((x4, M)))
  else if w32 a2 = 2 then
  (rd_ M 106 a1 200 fun x5 =>
  some ((x5, M)))
  else if w32 a2 = 3 then
  (rd_ M 107 a1 200 fun x6 =>
  some ((x6, M)))
  else if w32 a2 = 4 then
  (rd_ M 109 a1 200 fun x7 =>
  some ((fM_told x7, M)))
  else if w32 a2 = 5 then
  (rd_ M 108 a1 200 fun x8 =>
  if w32 x8 = 0 then
  (some ((0, M)))
  else
  (cl_ (fM_through F M (fM_lastOver M (fM_known0 M)) (fM_known0 M) 0) fun m9 =>
  cl1_ (if w32 a2 = 5 then
  (rd_ m9 189 a1 200 fun x13 =>
  some (x13))
  else
  (cl_ (fM_taxOf_189 F m9 a1) fun x12 =>
  some (x12))) fun v11 =>
  some ((fM_told v11, m9))))
  else if w32 a2 = 6 then
  (rd_ M 108 a1 200 fun x14 =>
  if w32 x14 = 0 then
  (some ((0, M)))
  else
  (cl_ (fM_taxOf_109 F M a1) fun x15 =>
  some ((fM_told x15, M))))
  else if w32 a2 = 7 then
  (rd_ M 108 a1 200 fun x16 =>
  if w32 x16 = 0 then
  (some ((0, M)))
  else
  (cl_ (fM_through F M (fM_lastOver M (fM_known0 M)) (fM_known0 M) 0) fun m17 =>
  cl1_ (if w32 a2 = 5 then
  (rd_ m17 189 a1 200 fun x21 =>
  some (x21))
  else
  (cl_ (fM_taxOf_189 F m17 a1) fun x20 =>
  some (x20))) fun v19 =>
  some ((fM_told v19, m17))))
  else (some (((-2147483648), M))))
set_option maxHeartbeats 4000000 in
set_option maxRecDepth 20000 in
theorem cM_dealt (E : bz_E) (F : Nat)  {M : bz_Mm} {a1 : Int} {a2 : Int} {x0 : Int × bz_Mm} (hf : fM_dealt F M a1 a2 = some x0) : bz_Ct E yM_dealt (.code yM_dealt prog_14_method_83_code 3 (some .int)) 6 156 [bz_rf E 81, bz_i a1, bz_i a2] M (some (bz_i x0.1)) x0.2 := by
  refine bz_met (by decide +kernel) (Nat.le_of_ble_eq_true rfl) (fun K X => ?_)
  have X : bz_X K E prog_14_method_83_code 3 "UnitsWrongModel" (some .int) 6 156 _ _ := X
  unfold fM_dealt at hf
  show bz_J K 3 0 [(0, bz_rf E 81), (1, bz_i a1), (2, bz_i a2)] [] M
  refine j_iload_n X dM_dealt_0 rfl 1 rfl ?_
  refine j_i2l X rfl dM_dealt_1 ?_
  refine j_lconst X (v := 0) dM_dealt_2 rfl ?_
  refine j_aload_n X dM_dealt_3 rfl 0 rfl ?_
  refine j_geti X gf_M_302_81 dM_dealt_4 ?_
  refine j_iconst X dM_dealt_7 ?_
  refine j_isub X dM_dealt_8 ?_
  show bz_J _ _ 9 _ _ _
  refine j_i2l X rfl dM_dealt_9 ?_
  refine j_cs X (st := []) (cM_in E) gyM_in wd_1414 rfl (by decide) (by decide) wd_1413 rfl (Nat.le_of_ble_eq_true rfl) dM_dealt_10 ?_
  refine j_if_ne X (tgt := 20) rfl dM_dealt_13 (by decide) hf (fun hf => ?_) (fun hf => ?_)
  · refine j_iload_n X dM_dealt_20 rfl 2 rfl ?_
    rcases q_ite hf with ⟨hc0, hf⟩ | ⟨hc0, hf⟩
    · refine j_tabIn X (tgt := 68) (v := 0) hc0 dM_dealt_21 (by decide) (by decide) rfl (by decide) ?_
      refine j_aload_n X dM_dealt_68 rfl 0 rfl ?_
      refine j_geta X gf_M_74_81 dM_dealt_69 ?_
      refine j_iload_n X dM_dealt_72 rfl 1 rfl ?_
      refine j_iald X sh_103 dM_dealt_73 hf (fun x1 hf => ?_)
      refine j_bipush X dM_dealt_74 rfl ?_
      refine j_icmp_ge X (tgt := 88) rfl (w32_lit rfl) dM_dealt_76 (by decide) hf (fun hf => ?_) (fun hf => ?_)
      · refine j_aload_n X dM_dealt_88 rfl 0 rfl ?_
        refine j_geta X gf_M_74_81 dM_dealt_89 ?_
        refine j_iload_n X dM_dealt_92 rfl 1 rfl ?_
        refine j_iald X sh_103 dM_dealt_93 hf (fun x2 hf => ?_)
        refine j_bipush X dM_dealt_94 rfl ?_
        refine j_isub X dM_dealt_96 ?_
        refine j_bipush X dM_dealt_97 rfl ?_
        show bz_J _ _ 99 _ _ _
        refine j_iadd X dM_dealt_99 ?_
        cases hf
        exact j_iret X dM_dealt_100 rfl rfl
      · refine j_aload_n X dM_dealt_79 rfl 0 rfl ?_
        refine j_geta X gf_M_74_81 dM_dealt_80 ?_
        refine j_iload_n X dM_dealt_83 rfl 1 rfl ?_
        refine j_iald X sh_103 dM_dealt_84 hf (fun x3 hf => ?_)
        refine j_goto X (tgt := 100) dM_dealt_85 (by decide) ?_
        cases hf
        exact j_iret X dM_dealt_100 rfl rfl
    rcases q_ite hf with ⟨hc1, hf⟩ | ⟨hc1, hf⟩
    · refine j_tabIn X (tgt := 101) (v := 1) hc1 dM_dealt_21 (by decide) (by decide) rfl (by decide) ?_
      refine j_aload_n X dM_dealt_101 rfl 0 rfl ?_
      refine j_geta X gf_M_77_81 dM_dealt_102 ?_
      refine j_iload_n X dM_dealt_105 rfl 1 rfl ?_
      refine j_iald X sh_104 dM_dealt_106 hf (fun x4 hf => ?_)
      cases hf
      exact j_iret X dM_dealt_107 rfl rfl
    rcases q_ite hf with ⟨hc2, hf⟩ | ⟨hc2, hf⟩
    · refine j_tabIn X (tgt := 108) (v := 2) hc2 dM_dealt_21 (by decide) (by decide) rfl (by decide) ?_
      refine j_aload_n X dM_dealt_108 rfl 0 rfl ?_
      refine j_geta X gf_M_83_81 dM_dealt_109 ?_
      refine j_iload_n X dM_dealt_112 rfl 1 rfl ?_
      refine j_iald X sh_106 dM_dealt_113 hf (fun x5 hf => ?_)
      cases hf
      exact j_iret X dM_dealt_114 rfl rfl
    rcases q_ite hf with ⟨hc3, hf⟩ | ⟨hc3, hf⟩
    · refine j_tabIn X (tgt := 115) (v := 3) hc3 dM_dealt_21 (by decide) (by decide) rfl (by decide) ?_
      refine j_aload_n X dM_dealt_115 rfl 0 rfl ?_
      refine j_geta X gf_M_86_81 dM_dealt_116 ?_
      refine j_iload_n X dM_dealt_119 rfl 1 rfl ?_
      refine j_iald X sh_107 dM_dealt_120 hf (fun x6 hf => ?_)
      cases hf
      exact j_iret X dM_dealt_121 rfl rfl
    rcases q_ite hf with ⟨hc4, hf⟩ | ⟨hc4, hf⟩
    · refine j_tabIn X (tgt := 122) (v := 4) hc4 dM_dealt_21 (by decide) (by decide) rfl (by decide) ?_
      refine j_aload_n X dM_dealt_122 rfl 0 rfl ?_
      refine j_geta X gf_M_92_81 dM_dealt_123 ?_
      refine j_iload_n X dM_dealt_126 rfl 1 rfl ?_
      refine j_lald X sh_109 dM_dealt_127 hf (fun x7 hf => ?_)
      refine j_cs X (st := []) (cM_told E) gyM_told wd_1684 rfl (by decide) (by decide) wd_1683 rfl (Nat.le_of_ble_eq_true rfl) dM_dealt_128 ?_
      cases hf
      exact j_iret X dM_dealt_131 rfl rfl
    rcases q_ite hf with ⟨hc5, hf⟩ | ⟨hc5, hf⟩
    · refine j_tabIn X (tgt := 132) (v := 5) hc5 dM_dealt_21 (by decide) (by decide) rfl (by decide) ?_
      refine j_aload_n X dM_dealt_132 rfl 0 rfl ?_
      refine j_geta X gf_M_89_81 dM_dealt_133 ?_
      refine j_iload_n X dM_dealt_136 rfl 1 rfl ?_
      refine j_zald X sh_108 dM_dealt_137 hf (fun x8 hf => ?_)
      refine j_if_ne X (tgt := 143) rfl dM_dealt_138 (by decide) hf (fun hf => ?_) (fun hf => ?_)
      · refine j_aload_n X dM_dealt_143 rfl 0 rfl ?_
        refine j_aload_n X dM_dealt_144 rfl 0 rfl ?_
        refine j_aload_n X dM_dealt_145 rfl 0 rfl ?_
        refine j_cv X (st := [bz_rf E 81, bz_rf E 81]) (cM_known0 E) gyM_known0 gv_M_known0_81 rfl (by decide) (by decide) wd_1445 rfl (Nat.le_of_ble_eq_true rfl) dM_dealt_146 ?_
        refine j_cv X (st := [bz_rf E 81]) (cM_lastOver E) gyM_lastOver gv_M_lastOver_81 rfl (by decide) (by decide) wd_1703 rfl (Nat.le_of_ble_eq_true rfl) dM_dealt_149 ?_
        refine j_aload_n X dM_dealt_152 rfl 0 rfl ?_
        refine j_cv X (st := [bz_i (fM_lastOver M (fM_known0 M)), bz_rf E 81]) (cM_known0 E) gyM_known0 gv_M_known0_81 rfl (by decide) (by decide) wd_1445 rfl (Nat.le_of_ble_eq_true rfl) dM_dealt_153 ?_
        show bz_J _ _ 156 _ _ _
        refine j_iconst X dM_dealt_156 ?_
        obtain ⟨m9, hz, hf⟩ := q_cl hf
        refine j_cv X (st := []) (cM_through E F hz) gyM_through gv_M_through_81 rfl (by decide) (by decide) wd_1619 rfl (Nat.le_of_ble_eq_true rfl) dM_dealt_157 ?_
        clear hz
        refine j_iload_n X dM_dealt_160 rfl 2 rfl ?_
        refine j_iconst X dM_dealt_161 ?_
        obtain ⟨resJ10, hf0, hkJ10⟩ := q_l1 hf
        have J10 : ∀ (v11 : Int), some v11 = some resJ10 → bz_J K 3 183 [] [bz_l v11] m9 := by
          intro v11 he
          have hf := hkJ10 _ he
          refine j_cs X (st := []) (cM_told E) gyM_told wd_1684 rfl (by decide) (by decide) wd_1683 rfl (Nat.le_of_ble_eq_true rfl) dM_dealt_183 ?_
          cases hf
          exact j_iret X dM_dealt_186 rfl rfl
        clear hf
        have hf := hf0
        clear hf0
        refine j_icmp_ne X (tgt := 174) rfl (w32_lit rfl) dM_dealt_162 (by decide) hf (fun hf => ?_) (fun hf => ?_)
        · refine j_aload_n X dM_dealt_174 rfl 0 rfl ?_
          refine j_iload_n X dM_dealt_175 rfl 1 rfl ?_
          refine j_aload_n X dM_dealt_176 rfl 0 rfl ?_
          refine j_geta X gf_M_140_81 dM_dealt_177 ?_
          obtain ⟨x12, hzx12, hf⟩ := q_cl hf
          refine j_cv X (st := []) (cM_taxOf_189 E F hzx12) gyM_taxOf gv_M_taxOf_81 rfl (by decide) (by decide) wd_1767 rfl (Nat.le_of_ble_eq_true rfl) dM_dealt_180 ?_
          exact j_sub [] rfl (J10 _ hf)
        · refine j_aload_n X dM_dealt_165 rfl 0 rfl ?_
          refine j_geta X gf_M_140_81 dM_dealt_166 ?_
          refine j_iload_n X dM_dealt_169 rfl 1 rfl ?_
          refine j_lald X sh_189 dM_dealt_170 hf (fun x13 hf => ?_)
          refine j_goto X (tgt := 183) dM_dealt_171 (by decide) ?_
          exact j_sub [] rfl (J10 _ hf)
      · refine j_iconst X dM_dealt_141 ?_
        cases hf
        exact j_iret X dM_dealt_142 rfl rfl
    rcases q_ite hf with ⟨hc6, hf⟩ | ⟨hc6, hf⟩
    · refine j_tabIn X (tgt := 187) (v := 6) hc6 dM_dealt_21 (by decide) (by decide) rfl (by decide) ?_
      refine j_aload_n X dM_dealt_187 rfl 0 rfl ?_
      refine j_geta X gf_M_89_81 dM_dealt_188 ?_
      refine j_iload_n X dM_dealt_191 rfl 1 rfl ?_
      refine j_zald X sh_108 dM_dealt_192 hf (fun x14 hf => ?_)
      refine j_if_eq X (tgt := 211) rfl dM_dealt_193 (by decide) hf (fun hf => ?_) (fun hf => ?_)
      · refine j_iconst X dM_dealt_211 ?_
        cases hf
        exact j_iret X dM_dealt_212 rfl rfl
      · refine j_aload_n X dM_dealt_196 rfl 0 rfl ?_
        refine j_iload_n X dM_dealt_197 rfl 1 rfl ?_
        refine j_aload_n X dM_dealt_198 rfl 0 rfl ?_
        refine j_geta X gf_M_92_81 dM_dealt_199 ?_
        obtain ⟨x15, hzx15, hf⟩ := q_cl hf
        refine j_cv X (st := []) (cM_taxOf_109 E F hzx15) gyM_taxOf gv_M_taxOf_81 rfl (by decide) (by decide) wd_1767 rfl (Nat.le_of_ble_eq_true rfl) dM_dealt_202 ?_
        refine j_cs X (st := []) (cM_told E) gyM_told wd_1684 rfl (by decide) (by decide) wd_1683 rfl (Nat.le_of_ble_eq_true rfl) dM_dealt_205 ?_
        refine j_goto X (tgt := 212) dM_dealt_208 (by decide) ?_
        show bz_J _ _ 212 _ _ _
        cases hf
        exact j_iret X dM_dealt_212 rfl rfl
    rcases q_ite hf with ⟨hc7, hf⟩ | ⟨hc7, hf⟩
    · refine j_tabIn X (tgt := 132) (v := 7) hc7 dM_dealt_21 (by decide) (by decide) rfl (by decide) ?_
      refine j_aload_n X dM_dealt_132 rfl 0 rfl ?_
      refine j_geta X gf_M_89_81 dM_dealt_133 ?_
      refine j_iload_n X dM_dealt_136 rfl 1 rfl ?_
      refine j_zald X sh_108 dM_dealt_137 hf (fun x16 hf => ?_)
      refine j_if_ne X (tgt := 143) rfl dM_dealt_138 (by decide) hf (fun hf => ?_) (fun hf => ?_)
      · refine j_aload_n X dM_dealt_143 rfl 0 rfl ?_
        refine j_aload_n X dM_dealt_144 rfl 0 rfl ?_
        refine j_aload_n X dM_dealt_145 rfl 0 rfl ?_
        refine j_cv X (st := [bz_rf E 81, bz_rf E 81]) (cM_known0 E) gyM_known0 gv_M_known0_81 rfl (by decide) (by decide) wd_1445 rfl (Nat.le_of_ble_eq_true rfl) dM_dealt_146 ?_
        refine j_cv X (st := [bz_rf E 81]) (cM_lastOver E) gyM_lastOver gv_M_lastOver_81 rfl (by decide) (by decide) wd_1703 rfl (Nat.le_of_ble_eq_true rfl) dM_dealt_149 ?_
        refine j_aload_n X dM_dealt_152 rfl 0 rfl ?_
        refine j_cv X (st := [bz_i (fM_lastOver M (fM_known0 M)), bz_rf E 81]) (cM_known0 E) gyM_known0 gv_M_known0_81 rfl (by decide) (by decide) wd_1445 rfl (Nat.le_of_ble_eq_true rfl) dM_dealt_153 ?_
        show bz_J _ _ 156 _ _ _
        refine j_iconst X dM_dealt_156 ?_
        obtain ⟨m17, hz, hf⟩ := q_cl hf
        refine j_cv X (st := []) (cM_through E F hz) gyM_through gv_M_through_81 rfl (by decide) (by decide) wd_1619 rfl (Nat.le_of_ble_eq_true rfl) dM_dealt_157 ?_
        clear hz
        refine j_iload_n X dM_dealt_160 rfl 2 rfl ?_
        refine j_iconst X dM_dealt_161 ?_
        obtain ⟨resJ18, hf0, hkJ18⟩ := q_l1 hf
        have J18 : ∀ (v19 : Int), some v19 = some resJ18 → bz_J K 3 183 [] [bz_l v19] m17 := by
          intro v19 he
          have hf := hkJ18 _ he
          refine j_cs X (st := []) (cM_told E) gyM_told wd_1684 rfl (by decide) (by decide) wd_1683 rfl (Nat.le_of_ble_eq_true rfl) dM_dealt_183 ?_
          cases hf
          exact j_iret X dM_dealt_186 rfl rfl
        clear hf
        have hf := hf0
        clear hf0
        refine j_icmp_ne X (tgt := 174) rfl (w32_lit rfl) dM_dealt_162 (by decide) hf (fun hf => ?_) (fun hf => ?_)
        · refine j_aload_n X dM_dealt_174 rfl 0 rfl ?_
          refine j_iload_n X dM_dealt_175 rfl 1 rfl ?_
          refine j_aload_n X dM_dealt_176 rfl 0 rfl ?_
          refine j_geta X gf_M_140_81 dM_dealt_177 ?_
          obtain ⟨x20, hzx20, hf⟩ := q_cl hf
          refine j_cv X (st := []) (cM_taxOf_189 E F hzx20) gyM_taxOf gv_M_taxOf_81 rfl (by decide) (by decide) wd_1767 rfl (Nat.le_of_ble_eq_true rfl) dM_dealt_180 ?_
          exact j_sub [] rfl (J18 _ hf)
        · refine j_aload_n X dM_dealt_165 rfl 0 rfl ?_
          refine j_geta X gf_M_140_81 dM_dealt_166 ?_
          refine j_iload_n X dM_dealt_169 rfl 1 rfl ?_
          refine j_lald X sh_189 dM_dealt_170 hf (fun x21 hf => ?_)
          refine j_goto X (tgt := 183) dM_dealt_171 (by decide) ?_
          exact j_sub [] rfl (J18 _ hf)
      · refine j_iconst X dM_dealt_141 ?_
        cases hf
        exact j_iret X dM_dealt_142 rfl rfl
    refine j_tabOut X (tgt := 213) (by omega) dM_dealt_21 (by decide) ?_
    refine j_ldcw X (v := -2147483648) wd_1453 dM_dealt_213 ?_
    cases hf
    exact j_iret X dM_dealt_216 rfl rfl
  · refine j_ldcw X (v := -2147483648) wd_1453 dM_dealt_16 ?_
    cases hf
    exact j_iret X dM_dealt_19 rfl rfl
