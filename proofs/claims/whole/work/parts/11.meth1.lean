def fUX_wantWord (F : Nat) (M : bz_Mm) (w1 : Nat) : Option (bz_Mm) :=
  cl_ (fUX_next F M) fun m1 =>
  cl_ (fUX_isWord F m1 w1) fun x2 =>
  cl_ (fUX_want F m1 x2) fun m3 =>
  some m3
set_option maxHeartbeats 4000000 in
set_option maxRecDepth 20000 in
theorem cUX_wantWord (E : bz_E) (F : Nat)  {M : bz_Mm} {w1 : Nat} {x0 : bz_Mm} (hw1 : w1 < 18) (hf : fUX_wantWord F M w1 = some x0) : bz_Ct E yUX_wantWord (.code yUX_wantWord prog_11_method_8_code 2 none) 5 107 [bz_rf E 50, bz_rf E (900 + w1)] M (none) x0 := by
  refine bz_met (by decide +kernel) (Nat.le_of_ble_eq_true rfl) (fun K X => ?_)
  have X : bz_X K E prog_11_method_8_code 2 "UnitsWrong$Text" none 5 107 _ _ := X
  unfold fUX_wantWord at hf
  show bz_J K 2 0 [(0, bz_rf E 50), (1, bz_rf E (900 + w1))] [] M
  refine j_aload_n X dUX_wantWord_0 rfl 0 rfl ?_
  obtain ⟨m1, hz, hf⟩ := q_cl hf
  refine j_cv X (st := []) (cUX_next E F hz) gyUX_next gv_UX_next_50 rfl (by decide) (by decide) wd_655 rfl (Nat.le_of_ble_eq_true rfl) dUX_wantWord_1 ?_
  clear hz
  refine j_aload_n X dUX_wantWord_4 rfl 0 rfl ?_
  refine j_aload_n X dUX_wantWord_5 rfl 0 rfl ?_
  refine j_aload_n X dUX_wantWord_6 rfl 1 rfl ?_
  obtain ⟨x2, hzx2, hf⟩ := q_cl hf
  refine j_cv X (st := [bz_rf E 50]) (cUX_isWord E F hw1 hzx2) gyUX_isWord gv_UX_isWord_50 rfl (by decide) (by decide) wd_668 rfl (Nat.le_of_ble_eq_true rfl) dUX_wantWord_7 ?_
  obtain ⟨m3, hz, hf⟩ := q_cl hf
  refine j_cv X (st := []) (cUX_want E F hz) gyUX_want gv_UX_want_50 rfl (by decide) (by decide) wd_724 rfl (Nat.le_of_ble_eq_true rfl) dUX_wantWord_10 ?_
  clear hz
  show bz_J _ _ 13 _ _ _
  cases hf
  exact j_vret X dUX_wantWord_13 rfl rfl
def fUX_wantParty (F : Nat) (M : bz_Mm) : Option (Int × bz_Mm) :=
  cl_ (fUX_next F M) fun m1 =>
  cl_ (fUX_isWord F m1 1) fun x2 =>
  if w32 x2 = 0 then
  (cl_ (fUX_isWord F m1 2) fun x3 =>
  if w32 x3 = 0 then
  (cl_ (fUX_isWord F m1 0) fun x4 =>
  cl_ (fUX_want F m1 x4) fun m5 =>
  some ((0, m5)))
  else
  (some ((2, m1))))
  else
  (some ((1, m1)))
set_option maxHeartbeats 4000000 in
set_option maxRecDepth 20000 in
theorem cUX_wantParty (E : bz_E) (F : Nat)  {M : bz_Mm} {x0 : Int × bz_Mm} (hf : fUX_wantParty F M = some x0) : bz_Ct E yUX_wantParty (.code yUX_wantParty prog_11_method_7_code 1 (some .int)) 5 107 [bz_rf E 50] M (some (bz_i x0.1)) x0.2 := by
  refine bz_met (by decide +kernel) (Nat.le_of_ble_eq_true rfl) (fun K X => ?_)
  have X : bz_X K E prog_11_method_7_code 1 "UnitsWrong$Text" (some .int) 5 107 _ _ := X
  unfold fUX_wantParty at hf
  show bz_J K 1 0 [(0, bz_rf E 50)] [] M
  refine j_aload_n X dUX_wantParty_0 rfl 0 rfl ?_
  obtain ⟨m1, hz, hf⟩ := q_cl hf
  refine j_cv X (st := []) (cUX_next E F hz) gyUX_next gv_UX_next_50 rfl (by decide) (by decide) wd_655 rfl (Nat.le_of_ble_eq_true rfl) dUX_wantParty_1 ?_
  clear hz
  refine j_aload_n X dUX_wantParty_4 rfl 0 rfl ?_
  refine j_ldcS X (w := 1) (tx := "house") (by decide +kernel) dUX_wantParty_5 ?_
  obtain ⟨x2, hzx2, hf⟩ := q_cl hf
  refine j_cv X (st := []) (cUX_isWord E F (by decide) hzx2) gyUX_isWord gv_UX_isWord_50 rfl (by decide) (by decide) wd_668 rfl (Nat.le_of_ble_eq_true rfl) dUX_wantParty_7 ?_
  refine j_if_eq X (tgt := 15) rfl dUX_wantParty_10 (by decide) hf (fun hf => ?_) (fun hf => ?_)
  · refine j_aload_n X dUX_wantParty_15 rfl 0 rfl ?_
    refine j_ldcS X (w := 2) (tx := "poor") (by decide +kernel) dUX_wantParty_16 ?_
    obtain ⟨x3, hzx3, hf⟩ := q_cl hf
    refine j_cv X (st := []) (cUX_isWord E F (by decide) hzx3) gyUX_isWord gv_UX_isWord_50 rfl (by decide) (by decide) wd_668 rfl (Nat.le_of_ble_eq_true rfl) dUX_wantParty_18 ?_
    refine j_if_eq X (tgt := 26) rfl dUX_wantParty_21 (by decide) hf (fun hf => ?_) (fun hf => ?_)
    · refine j_aload_n X dUX_wantParty_26 rfl 0 rfl ?_
      refine j_aload_n X dUX_wantParty_27 rfl 0 rfl ?_
      refine j_ldcS X (w := 0) (tx := "fund") (by decide +kernel) dUX_wantParty_28 ?_
      obtain ⟨x4, hzx4, hf⟩ := q_cl hf
      refine j_cv X (st := [bz_rf E 50]) (cUX_isWord E F (by decide) hzx4) gyUX_isWord gv_UX_isWord_50 rfl (by decide) (by decide) wd_668 rfl (Nat.le_of_ble_eq_true rfl) dUX_wantParty_30 ?_
      obtain ⟨m5, hz, hf⟩ := q_cl hf
      refine j_cv X (st := []) (cUX_want E F hz) gyUX_want gv_UX_want_50 rfl (by decide) (by decide) wd_724 rfl (Nat.le_of_ble_eq_true rfl) dUX_wantParty_33 ?_
      clear hz
      refine j_iconst X dUX_wantParty_36 ?_
      cases hf
      exact j_iret X dUX_wantParty_37 rfl rfl
    · refine j_iconst X dUX_wantParty_24 ?_
      cases hf
      exact j_iret X dUX_wantParty_25 rfl rfl
  · refine j_iconst X dUX_wantParty_13 ?_
    cases hf
    exact j_iret X dUX_wantParty_14 rfl rfl
def fUX_wantGains (F : Nat) (M : bz_Mm) : Option (Int × bz_Mm) :=
  cl_ (fUX_next F M) fun m1 =>
  cl_ (fUX_isWord F m1 16) fun x2 =>
  if w32 x2 = 0 then
  (cl_ (fUX_isWord F m1 17) fun x3 =>
  cl_ (fUX_want F m1 x3) fun m4 =>
  cl_ (fUX_next F m4) fun m5 =>
  cl_ (fUX_isWord F m5 8) fun x6 =>
  cl_ (fUX_want F m5 x6) fun m7 =>
  cl2_ (fUX_wantNumber F m7 100000) fun x9 m8 =>
  some ((x9, m8)))
  else
  (some (((-1), m1)))
set_option maxHeartbeats 4000000 in
set_option maxRecDepth 20000 in
theorem cUX_wantGains (E : bz_E) (F : Nat)  {M : bz_Mm} {x0 : Int × bz_Mm} (hf : fUX_wantGains F M = some x0) : bz_Ct E yUX_wantGains (.code yUX_wantGains prog_11_method_6_code 1 (some .int)) 5 107 [bz_rf E 50] M (some (bz_i x0.1)) x0.2 := by
  refine bz_met (by decide +kernel) (Nat.le_of_ble_eq_true rfl) (fun K X => ?_)
  have X : bz_X K E prog_11_method_6_code 1 "UnitsWrong$Text" (some .int) 5 107 _ _ := X
  unfold fUX_wantGains at hf
  show bz_J K 1 0 [(0, bz_rf E 50)] [] M
  refine j_aload_n X dUX_wantGains_0 rfl 0 rfl ?_
  obtain ⟨m1, hz, hf⟩ := q_cl hf
  refine j_cv X (st := []) (cUX_next E F hz) gyUX_next gv_UX_next_50 rfl (by decide) (by decide) wd_655 rfl (Nat.le_of_ble_eq_true rfl) dUX_wantGains_1 ?_
  clear hz
  refine j_aload_n X dUX_wantGains_4 rfl 0 rfl ?_
  refine j_ldcS X (w := 16) (tx := "stay") (by decide +kernel) dUX_wantGains_5 ?_
  obtain ⟨x2, hzx2, hf⟩ := q_cl hf
  refine j_cv X (st := []) (cUX_isWord E F (by decide) hzx2) gyUX_isWord gv_UX_isWord_50 rfl (by decide) (by decide) wd_668 rfl (Nat.le_of_ble_eq_true rfl) dUX_wantGains_7 ?_
  refine j_if_eq X (tgt := 15) rfl dUX_wantGains_10 (by decide) hf (fun hf => ?_) (fun hf => ?_)
  · refine j_aload_n X dUX_wantGains_15 rfl 0 rfl ?_
    refine j_aload_n X dUX_wantGains_16 rfl 0 rfl ?_
    refine j_ldcS X (w := 17) (tx := "back") (by decide +kernel) dUX_wantGains_17 ?_
    obtain ⟨x3, hzx3, hf⟩ := q_cl hf
    refine j_cv X (st := [bz_rf E 50]) (cUX_isWord E F (by decide) hzx3) gyUX_isWord gv_UX_isWord_50 rfl (by decide) (by decide) wd_668 rfl (Nat.le_of_ble_eq_true rfl) dUX_wantGains_19 ?_
    obtain ⟨m4, hz, hf⟩ := q_cl hf
    refine j_cv X (st := []) (cUX_want E F hz) gyUX_want gv_UX_want_50 rfl (by decide) (by decide) wd_724 rfl (Nat.le_of_ble_eq_true rfl) dUX_wantGains_22 ?_
    clear hz
    refine j_aload_n X dUX_wantGains_25 rfl 0 rfl ?_
    obtain ⟨m5, hz, hf⟩ := q_cl hf
    refine j_cv X (st := []) (cUX_next E F hz) gyUX_next gv_UX_next_50 rfl (by decide) (by decide) wd_655 rfl (Nat.le_of_ble_eq_true rfl) dUX_wantGains_26 ?_
    clear hz
    show bz_J _ _ 29 _ _ _
    refine j_aload_n X dUX_wantGains_29 rfl 0 rfl ?_
    refine j_aload_n X dUX_wantGains_30 rfl 0 rfl ?_
    refine j_ldcS X (w := 8) (tx := "beyond") (by decide +kernel) dUX_wantGains_31 ?_
    obtain ⟨x6, hzx6, hf⟩ := q_cl hf
    refine j_cv X (st := [bz_rf E 50]) (cUX_isWord E F (by decide) hzx6) gyUX_isWord gv_UX_isWord_50 rfl (by decide) (by decide) wd_668 rfl (Nat.le_of_ble_eq_true rfl) dUX_wantGains_33 ?_
    obtain ⟨m7, hz, hf⟩ := q_cl hf
    refine j_cv X (st := []) (cUX_want E F hz) gyUX_want gv_UX_want_50 rfl (by decide) (by decide) wd_724 rfl (Nat.le_of_ble_eq_true rfl) dUX_wantGains_36 ?_
    clear hz
    refine j_aload_n X dUX_wantGains_39 rfl 0 rfl ?_
    refine j_ldc X (v := 100000) wd_743 dUX_wantGains_40 ?_
    obtain ⟨x9, m8, hz, hf⟩ := q_cl2 hf
    refine j_cv X (st := []) (cUX_wantNumber E F hz) gyUX_wantNumber gv_UX_wantNumber_50 rfl (by decide) (by decide) wd_720 rfl (Nat.le_of_ble_eq_true rfl) dUX_wantGains_42 ?_
    clear hz
    show bz_J _ _ 45 _ _ _
    cases hf
    exact j_iret X dUX_wantGains_45 rfl rfl
  · refine j_iconst X dUX_wantGains_13 ?_
    cases hf
    exact j_iret X dUX_wantGains_14 rfl rfl
def fUX_readRule (F : Nat) (M : bz_Mm) (a1 : Int) : Option (bz_Mm) :=
  cl_ (fUX_isWord F M 3) fun x1 =>
  if w32 x1 = 0 then
  (cl_ (fUX_isWord F M 4) fun x2 =>
  if w32 x2 = 0 then
  (cl_ (fUX_isWord F M 6) fun x3 =>
  if w32 x3 = 0 then
  (cl_ (fUX_isWord F M 7) fun x4 =>
  if w32 x4 = 0 then
  (cl_ (fUX_isWord F M 9) fun x5 =>
  if w32 x5 = 0 then
  (cl_ (fUX_isWord F M 11) fun x6 =>
  if w32 x6 = 0 then
  (cl_ (fUX_isWord F M 12) fun x7 =>
  if w32 x7 = 0 then
  (cl_ (fUX_isWord F M 14) fun x8 =>
  if w32 x8 = 0 then
  (cl_ (fUX_isWord F M 15) fun x9 =>
  if w32 x9 = 0 then
  (cl_ (fUX_want F M 0) fun m10 =>
  some m10)
  else
  (cl2_ (fUX_wantNumber F M 60) fun x12 m11 =>
  wa_ m11 52 (a1 + 11) 60 x12 fun m13 =>
  cl_ (fUX_wantWord F m13 13) fun m14 =>
  some m14))
  else
  (cl2_ (fUX_wantNumber F M 90) fun x16 m15 =>
  wa_ m15 52 (a1 + 10) 60 x16 fun m17 =>
  some m17))
  else
  (cl2_ (fUX_wantNumber F M 300) fun x19 m18 =>
  wa_ m18 52 (a1 + 8) 60 x19 fun m20 =>
  cl_ (fUX_wantWord F m20 13) fun m21 =>
  cl_ (fUX_wantWord F m21 10) fun m22 =>
  cl2_ (fUX_wantParty F m22) fun x24 m23 =>
  wa_ m23 52 (a1 + 9) 60 x24 fun m25 =>
  some m25))
  else
  (cl2_ (fUX_wantGains F M) fun x27 m26 =>
  wa_ m26 52 (a1 + 7) 60 x27 fun m28 =>
  some m28))
  else
  (cl2_ (fUX_wantNumber F M 100000) fun x30 m29 =>
  wa_ m29 52 (a1 + 5) 60 x30 fun m31 =>
  cl_ (fUX_wantWord F m31 10) fun m32 =>
  cl2_ (fUX_wantParty F m32) fun x34 m33 =>
  wa_ m33 52 (a1 + 6) 60 x34 fun m35 =>
  some m35))
  else
  (cl_ (fUX_wantWord F M 8) fun m36 =>
  cl2_ (fUX_wantNumber F m36 5000) fun x38 m37 =>
  wa_ m37 52 (a1 + 4) 60 x38 fun m39 =>
  some m39))
  else
  (cl2_ (fUX_wantNumber F M 24) fun x41 m40 =>
  wa_ m40 52 (a1 + 3) 60 x41 fun m42 =>
  some m42))
  else
  (cl2_ (fUX_wantNumber F M 1000) fun x44 m43 =>
  wa_ m43 52 (a1 + 1) 60 x44 fun m45 =>
  cl_ (fUX_wantWord F m45 5) fun m46 =>
  cl2_ (fUX_wantNumber F m46 10000) fun x48 m47 =>
  wa_ m47 52 (a1 + 2) 60 x48 fun m49 =>
  some m49))
  else
  (cl2_ (fUX_wantNumber F M 5000) fun x51 m50 =>
  wa_ m50 52 (a1 + 0) 60 x51 fun m52 =>
  some m52)
set_option maxHeartbeats 4000000 in
set_option maxRecDepth 20000 in
theorem cUX_readRule (E : bz_E) (F : Nat)  {M : bz_Mm} {a1 : Int} {x0 : bz_Mm} (hf : fUX_readRule F M a1 = some x0) : bz_Ct E yUX_readRule (.code yUX_readRule prog_11_method_5_code 2 none) 6 128 [bz_rf E 50, bz_i a1] M (none) x0 := by
  refine bz_met (by decide +kernel) (Nat.le_of_ble_eq_true rfl) (fun K X => ?_)
  have X : bz_X K E prog_11_method_5_code 2 "UnitsWrong$Text" none 6 128 _ _ := X
  unfold fUX_readRule at hf
  show bz_J K 2 0 [(0, bz_rf E 50), (1, bz_i a1)] [] M
  refine j_aload_n X dUX_readRule_0 rfl 0 rfl ?_
  refine j_ldcS X (w := 3) (tx := "fee") (by decide +kernel) dUX_readRule_1 ?_
  obtain ⟨x1, hzx1, hf⟩ := q_cl hf
  refine j_cv X (st := []) (cUX_isWord E F (by decide) hzx1) gyUX_isWord gv_UX_isWord_50 rfl (by decide) (by decide) wd_668 rfl (Nat.le_of_ble_eq_true rfl) dUX_readRule_3 ?_
  refine j_if_eq X (tgt := 27) rfl dUX_readRule_6 (by decide) hf (fun hf => ?_) (fun hf => ?_)
  · refine j_aload_n X dUX_readRule_27 rfl 0 rfl ?_
    refine j_ldcS X (w := 4) (tx := "swing") (by decide +kernel) dUX_readRule_28 ?_
    obtain ⟨x2, hzx2, hf⟩ := q_cl hf
    refine j_cv X (st := []) (cUX_isWord E F (by decide) hzx2) gyUX_isWord gv_UX_isWord_50 rfl (by decide) (by decide) wd_668 rfl (Nat.le_of_ble_eq_true rfl) dUX_readRule_30 ?_
    refine j_if_eq X (tgt := 75) rfl dUX_readRule_33 (by decide) hf (fun hf => ?_) (fun hf => ?_)
    · refine j_aload_n X dUX_readRule_75 rfl 0 rfl ?_
      refine j_ldcS X (w := 6) (tx := "cut") (by decide +kernel) dUX_readRule_76 ?_
      obtain ⟨x3, hzx3, hf⟩ := q_cl hf
      refine j_cv X (st := []) (cUX_isWord E F (by decide) hzx3) gyUX_isWord gv_UX_isWord_50 rfl (by decide) (by decide) wd_668 rfl (Nat.le_of_ble_eq_true rfl) dUX_readRule_78 ?_
      refine j_if_eq X (tgt := 101) rfl dUX_readRule_81 (by decide) hf (fun hf => ?_) (fun hf => ?_)
      · refine j_aload_n X dUX_readRule_101 rfl 0 rfl ?_
        refine j_ldcS X (w := 7) (tx := "error") (by decide +kernel) dUX_readRule_102 ?_
        obtain ⟨x4, hzx4, hf⟩ := q_cl hf
        refine j_cv X (st := []) (cUX_isWord E F (by decide) hzx4) gyUX_isWord gv_UX_isWord_50 rfl (by decide) (by decide) wd_668 rfl (Nat.le_of_ble_eq_true rfl) dUX_readRule_104 ?_
        refine j_if_eq X (tgt := 134) rfl dUX_readRule_107 (by decide) hf (fun hf => ?_) (fun hf => ?_)
        · refine j_aload_n X dUX_readRule_134 rfl 0 rfl ?_
          refine j_ldcS X (w := 9) (tx := "least") (by decide +kernel) dUX_readRule_135 ?_
          obtain ⟨x5, hzx5, hf⟩ := q_cl hf
          refine j_cv X (st := []) (cUX_isWord E F (by decide) hzx5) gyUX_isWord gv_UX_isWord_50 rfl (by decide) (by decide) wd_668 rfl (Nat.le_of_ble_eq_true rfl) dUX_readRule_137 ?_
          refine j_if_eq X (tgt := 179) rfl dUX_readRule_140 (by decide) hf (fun hf => ?_) (fun hf => ?_)
          · refine j_aload_n X dUX_readRule_179 rfl 0 rfl ?_
            refine j_ldcS X (w := 11) (tx := "gains") (by decide +kernel) dUX_readRule_180 ?_
            obtain ⟨x6, hzx6, hf⟩ := q_cl hf
            refine j_cv X (st := []) (cUX_isWord E F (by decide) hzx6) gyUX_isWord gv_UX_isWord_50 rfl (by decide) (by decide) wd_668 rfl (Nat.le_of_ble_eq_true rfl) dUX_readRule_182 ?_
            refine j_if_eq X (tgt := 204) rfl dUX_readRule_185 (by decide) hf (fun hf => ?_) (fun hf => ?_)
            · refine j_aload_n X dUX_readRule_204 rfl 0 rfl ?_
              refine j_ldcS X (w := 12) (tx := "gone") (by decide +kernel) dUX_readRule_205 ?_
              obtain ⟨x7, hzx7, hf⟩ := q_cl hf
              refine j_cv X (st := []) (cUX_isWord E F (by decide) hzx7) gyUX_isWord gv_UX_isWord_50 rfl (by decide) (by decide) wd_668 rfl (Nat.le_of_ble_eq_true rfl) dUX_readRule_207 ?_
              refine j_if_eq X (tgt := 257) rfl dUX_readRule_210 (by decide) hf (fun hf => ?_) (fun hf => ?_)
              · refine j_aload_n X dUX_readRule_257 rfl 0 rfl ?_
                refine j_ldcS X (w := 14) (tx := "tax") (by decide +kernel) dUX_readRule_258 ?_
                obtain ⟨x8, hzx8, hf⟩ := q_cl hf
                refine j_cv X (st := []) (cUX_isWord E F (by decide) hzx8) gyUX_isWord gv_UX_isWord_50 rfl (by decide) (by decide) wd_668 rfl (Nat.le_of_ble_eq_true rfl) dUX_readRule_260 ?_
                refine j_if_eq X (tgt := 284) rfl dUX_readRule_263 (by decide) hf (fun hf => ?_) (fun hf => ?_)
                · refine j_aload_n X dUX_readRule_284 rfl 0 rfl ?_
                  refine j_ldcS X (w := 15) (tx := "report") (by decide +kernel) dUX_readRule_285 ?_
                  obtain ⟨x9, hzx9, hf⟩ := q_cl hf
                  refine j_cv X (st := []) (cUX_isWord E F (by decide) hzx9) gyUX_isWord gv_UX_isWord_50 rfl (by decide) (by decide) wd_668 rfl (Nat.le_of_ble_eq_true rfl) dUX_readRule_287 ?_
                  refine j_if_eq X (tgt := 317) rfl dUX_readRule_290 (by decide) hf (fun hf => ?_) (fun hf => ?_)
                  · refine j_aload_n X dUX_readRule_317 rfl 0 rfl ?_
                    refine j_iconst X dUX_readRule_318 ?_
                    obtain ⟨m10, hz, hf⟩ := q_cl hf
                    refine j_cv X (st := []) (cUX_want E F hz) gyUX_want gv_UX_want_50 rfl (by decide) (by decide) wd_724 rfl (Nat.le_of_ble_eq_true rfl) dUX_readRule_319 ?_
                    clear hz
                    cases hf
                    exact j_vret X dUX_readRule_322 rfl rfl
                  · refine j_aload_n X dUX_readRule_293 rfl 0 rfl ?_
                    refine j_geta X gf_UX_15_50 dUX_readRule_294 ?_
                    refine j_iload_n X dUX_readRule_297 rfl 1 rfl ?_
                    refine j_bipush X dUX_readRule_298 rfl ?_
                    refine j_iadd X dUX_readRule_300 ?_
                    refine j_aload_n X dUX_readRule_301 rfl 0 rfl ?_
                    refine j_bipush X dUX_readRule_302 rfl ?_
                    show bz_J _ _ 304 _ _ _
                    obtain ⟨x12, m11, hz, hf⟩ := q_cl2 hf
                    refine j_cv X (st := [bz_i (a1 + 11), bz_rf E 52]) (cUX_wantNumber E F hz) gyUX_wantNumber gv_UX_wantNumber_50 rfl (by decide) (by decide) wd_720 rfl (Nat.le_of_ble_eq_true rfl) dUX_readRule_304 ?_
                    clear hz
                    refine j_iast X sh_52 dUX_readRule_307 hf (fun m13 hf => ?_)
                    refine j_aload_n X dUX_readRule_308 rfl 0 rfl ?_
                    refine j_ldcS X (w := 13) (tx := "days") (by decide +kernel) dUX_readRule_309 ?_
                    obtain ⟨m14, hz, hf⟩ := q_cl hf
                    refine j_cv X (st := []) (cUX_wantWord E F (by decide) hz) gyUX_wantWord gv_UX_wantWord_50 rfl (by decide) (by decide) wd_735 rfl (Nat.le_of_ble_eq_true rfl) dUX_readRule_311 ?_
                    clear hz
                    refine j_goto X (tgt := 322) dUX_readRule_314 (by decide) ?_
                    cases hf
                    exact j_vret X dUX_readRule_322 rfl rfl
                · refine j_aload_n X dUX_readRule_266 rfl 0 rfl ?_
                  refine j_geta X gf_UX_15_50 dUX_readRule_267 ?_
                  refine j_iload_n X dUX_readRule_270 rfl 1 rfl ?_
                  refine j_bipush X dUX_readRule_271 rfl ?_
                  refine j_iadd X dUX_readRule_273 ?_
                  refine j_aload_n X dUX_readRule_274 rfl 0 rfl ?_
                  refine j_bipush X dUX_readRule_275 rfl ?_
                  show bz_J _ _ 277 _ _ _
                  obtain ⟨x16, m15, hz, hf⟩ := q_cl2 hf
                  refine j_cv X (st := [bz_i (a1 + 10), bz_rf E 52]) (cUX_wantNumber E F hz) gyUX_wantNumber gv_UX_wantNumber_50 rfl (by decide) (by decide) wd_720 rfl (Nat.le_of_ble_eq_true rfl) dUX_readRule_277 ?_
                  clear hz
                  refine j_iast X sh_52 dUX_readRule_280 hf (fun m17 hf => ?_)
                  refine j_goto X (tgt := 322) dUX_readRule_281 (by decide) ?_
                  cases hf
                  exact j_vret X dUX_readRule_322 rfl rfl
              · refine j_aload_n X dUX_readRule_213 rfl 0 rfl ?_
                refine j_geta X gf_UX_15_50 dUX_readRule_214 ?_
                refine j_iload_n X dUX_readRule_217 rfl 1 rfl ?_
                refine j_bipush X dUX_readRule_218 rfl ?_
                refine j_iadd X dUX_readRule_220 ?_
                refine j_aload_n X dUX_readRule_221 rfl 0 rfl ?_
                refine j_sipush X dUX_readRule_222 rfl ?_
                show bz_J _ _ 225 _ _ _
                obtain ⟨x19, m18, hz, hf⟩ := q_cl2 hf
                refine j_cv X (st := [bz_i (a1 + 8), bz_rf E 52]) (cUX_wantNumber E F hz) gyUX_wantNumber gv_UX_wantNumber_50 rfl (by decide) (by decide) wd_720 rfl (Nat.le_of_ble_eq_true rfl) dUX_readRule_225 ?_
                clear hz
                refine j_iast X sh_52 dUX_readRule_228 hf (fun m20 hf => ?_)
                refine j_aload_n X dUX_readRule_229 rfl 0 rfl ?_
                refine j_ldcS X (w := 13) (tx := "days") (by decide +kernel) dUX_readRule_230 ?_
                obtain ⟨m21, hz, hf⟩ := q_cl hf
                refine j_cv X (st := []) (cUX_wantWord E F (by decide) hz) gyUX_wantWord gv_UX_wantWord_50 rfl (by decide) (by decide) wd_735 rfl (Nat.le_of_ble_eq_true rfl) dUX_readRule_232 ?_
                clear hz
                refine j_aload_n X dUX_readRule_235 rfl 0 rfl ?_
                refine j_ldcS X (w := 10) (tx := "to") (by decide +kernel) dUX_readRule_236 ?_
                obtain ⟨m22, hz, hf⟩ := q_cl hf
                refine j_cv X (st := []) (cUX_wantWord E F (by decide) hz) gyUX_wantWord gv_UX_wantWord_50 rfl (by decide) (by decide) wd_735 rfl (Nat.le_of_ble_eq_true rfl) dUX_readRule_238 ?_
                clear hz
                show bz_J _ _ 241 _ _ _
                refine j_aload_n X dUX_readRule_241 rfl 0 rfl ?_
                refine j_geta X gf_UX_15_50 dUX_readRule_242 ?_
                refine j_iload_n X dUX_readRule_245 rfl 1 rfl ?_
                refine j_bipush X dUX_readRule_246 rfl ?_
                refine j_iadd X dUX_readRule_248 ?_
                refine j_aload_n X dUX_readRule_249 rfl 0 rfl ?_
                obtain ⟨x24, m23, hz, hf⟩ := q_cl2 hf
                refine j_cv X (st := [bz_i (a1 + 9), bz_rf E 52]) (cUX_wantParty E F hz) gyUX_wantParty gv_UX_wantParty_50 rfl (by decide) (by decide) wd_745 rfl (Nat.le_of_ble_eq_true rfl) dUX_readRule_250 ?_
                clear hz
                refine j_iast X sh_52 dUX_readRule_253 hf (fun m25 hf => ?_)
                show bz_J _ _ 254 _ _ _
                refine j_goto X (tgt := 322) dUX_readRule_254 (by decide) ?_
                cases hf
                exact j_vret X dUX_readRule_322 rfl rfl
            · refine j_aload_n X dUX_readRule_188 rfl 0 rfl ?_
              refine j_geta X gf_UX_15_50 dUX_readRule_189 ?_
              refine j_iload_n X dUX_readRule_192 rfl 1 rfl ?_
              refine j_bipush X dUX_readRule_193 rfl ?_
              refine j_iadd X dUX_readRule_195 ?_
              refine j_aload_n X dUX_readRule_196 rfl 0 rfl ?_
              obtain ⟨x27, m26, hz, hf⟩ := q_cl2 hf
              refine j_cv X (st := [bz_i (a1 + 7), bz_rf E 52]) (cUX_wantGains E F hz) gyUX_wantGains gv_UX_wantGains_50 rfl (by decide) (by decide) wd_752 rfl (Nat.le_of_ble_eq_true rfl) dUX_readRule_197 ?_
              clear hz
              show bz_J _ _ 200 _ _ _
              refine j_iast X sh_52 dUX_readRule_200 hf (fun m28 hf => ?_)
              refine j_goto X (tgt := 322) dUX_readRule_201 (by decide) ?_
              cases hf
              exact j_vret X dUX_readRule_322 rfl rfl
          · refine j_aload_n X dUX_readRule_143 rfl 0 rfl ?_
            refine j_geta X gf_UX_15_50 dUX_readRule_144 ?_
            refine j_iload_n X dUX_readRule_147 rfl 1 rfl ?_
            refine j_iconst X dUX_readRule_148 ?_
            refine j_iadd X dUX_readRule_149 ?_
            refine j_aload_n X dUX_readRule_150 rfl 0 rfl ?_
            refine j_ldc X (v := 100000) wd_743 dUX_readRule_151 ?_
            show bz_J _ _ 153 _ _ _
            obtain ⟨x30, m29, hz, hf⟩ := q_cl2 hf
            refine j_cv X (st := [bz_i (a1 + 5), bz_rf E 52]) (cUX_wantNumber E F hz) gyUX_wantNumber gv_UX_wantNumber_50 rfl (by decide) (by decide) wd_720 rfl (Nat.le_of_ble_eq_true rfl) dUX_readRule_153 ?_
            clear hz
            refine j_iast X sh_52 dUX_readRule_156 hf (fun m31 hf => ?_)
            refine j_aload_n X dUX_readRule_157 rfl 0 rfl ?_
            refine j_ldcS X (w := 10) (tx := "to") (by decide +kernel) dUX_readRule_158 ?_
            obtain ⟨m32, hz, hf⟩ := q_cl hf
            refine j_cv X (st := []) (cUX_wantWord E F (by decide) hz) gyUX_wantWord gv_UX_wantWord_50 rfl (by decide) (by decide) wd_735 rfl (Nat.le_of_ble_eq_true rfl) dUX_readRule_160 ?_
            clear hz
            refine j_aload_n X dUX_readRule_163 rfl 0 rfl ?_
            refine j_geta X gf_UX_15_50 dUX_readRule_164 ?_
            refine j_iload_n X dUX_readRule_167 rfl 1 rfl ?_
            show bz_J _ _ 168 _ _ _
            refine j_bipush X dUX_readRule_168 rfl ?_
            refine j_iadd X dUX_readRule_170 ?_
            refine j_aload_n X dUX_readRule_171 rfl 0 rfl ?_
            obtain ⟨x34, m33, hz, hf⟩ := q_cl2 hf
            refine j_cv X (st := [bz_i (a1 + 6), bz_rf E 52]) (cUX_wantParty E F hz) gyUX_wantParty gv_UX_wantParty_50 rfl (by decide) (by decide) wd_745 rfl (Nat.le_of_ble_eq_true rfl) dUX_readRule_172 ?_
            clear hz
            refine j_iast X sh_52 dUX_readRule_175 hf (fun m35 hf => ?_)
            refine j_goto X (tgt := 322) dUX_readRule_176 (by decide) ?_
            cases hf
            exact j_vret X dUX_readRule_322 rfl rfl
        · refine j_aload_n X dUX_readRule_110 rfl 0 rfl ?_
          refine j_ldcS X (w := 8) (tx := "beyond") (by decide +kernel) dUX_readRule_111 ?_
          obtain ⟨m36, hz, hf⟩ := q_cl hf
          refine j_cv X (st := []) (cUX_wantWord E F (by decide) hz) gyUX_wantWord gv_UX_wantWord_50 rfl (by decide) (by decide) wd_735 rfl (Nat.le_of_ble_eq_true rfl) dUX_readRule_113 ?_
          clear hz
          refine j_aload_n X dUX_readRule_116 rfl 0 rfl ?_
          refine j_geta X gf_UX_15_50 dUX_readRule_117 ?_
          refine j_iload_n X dUX_readRule_120 rfl 1 rfl ?_
          refine j_iconst X dUX_readRule_121 ?_
          show bz_J _ _ 122 _ _ _
          refine j_iadd X dUX_readRule_122 ?_
          refine j_aload_n X dUX_readRule_123 rfl 0 rfl ?_
          refine j_sipush X dUX_readRule_124 rfl ?_
          obtain ⟨x38, m37, hz, hf⟩ := q_cl2 hf
          refine j_cv X (st := [bz_i (a1 + 4), bz_rf E 52]) (cUX_wantNumber E F hz) gyUX_wantNumber gv_UX_wantNumber_50 rfl (by decide) (by decide) wd_720 rfl (Nat.le_of_ble_eq_true rfl) dUX_readRule_127 ?_
          clear hz
          refine j_iast X sh_52 dUX_readRule_130 hf (fun m39 hf => ?_)
          refine j_goto X (tgt := 322) dUX_readRule_131 (by decide) ?_
          cases hf
          exact j_vret X dUX_readRule_322 rfl rfl
      · refine j_aload_n X dUX_readRule_84 rfl 0 rfl ?_
        refine j_geta X gf_UX_15_50 dUX_readRule_85 ?_
        refine j_iload_n X dUX_readRule_88 rfl 1 rfl ?_
        refine j_iconst X dUX_readRule_89 ?_
        refine j_iadd X dUX_readRule_90 ?_
        refine j_aload_n X dUX_readRule_91 rfl 0 rfl ?_
        refine j_bipush X dUX_readRule_92 rfl ?_
        show bz_J _ _ 94 _ _ _
        obtain ⟨x41, m40, hz, hf⟩ := q_cl2 hf
        refine j_cv X (st := [bz_i (a1 + 3), bz_rf E 52]) (cUX_wantNumber E F hz) gyUX_wantNumber gv_UX_wantNumber_50 rfl (by decide) (by decide) wd_720 rfl (Nat.le_of_ble_eq_true rfl) dUX_readRule_94 ?_
        clear hz
        refine j_iast X sh_52 dUX_readRule_97 hf (fun m42 hf => ?_)
        refine j_goto X (tgt := 322) dUX_readRule_98 (by decide) ?_
        cases hf
        exact j_vret X dUX_readRule_322 rfl rfl
    · refine j_aload_n X dUX_readRule_36 rfl 0 rfl ?_
      refine j_geta X gf_UX_15_50 dUX_readRule_37 ?_
      refine j_iload_n X dUX_readRule_40 rfl 1 rfl ?_
      refine j_iconst X dUX_readRule_41 ?_
      refine j_iadd X dUX_readRule_42 ?_
      refine j_aload_n X dUX_readRule_43 rfl 0 rfl ?_
      refine j_sipush X dUX_readRule_44 rfl ?_
      show bz_J _ _ 47 _ _ _
      obtain ⟨x44, m43, hz, hf⟩ := q_cl2 hf
      refine j_cv X (st := [bz_i (a1 + 1), bz_rf E 52]) (cUX_wantNumber E F hz) gyUX_wantNumber gv_UX_wantNumber_50 rfl (by decide) (by decide) wd_720 rfl (Nat.le_of_ble_eq_true rfl) dUX_readRule_47 ?_
      clear hz
      refine j_iast X sh_52 dUX_readRule_50 hf (fun m45 hf => ?_)
      refine j_aload_n X dUX_readRule_51 rfl 0 rfl ?_
      refine j_ldcS X (w := 5) (tx := "over") (by decide +kernel) dUX_readRule_52 ?_
      obtain ⟨m46, hz, hf⟩ := q_cl hf
      refine j_cv X (st := []) (cUX_wantWord E F (by decide) hz) gyUX_wantWord gv_UX_wantWord_50 rfl (by decide) (by decide) wd_735 rfl (Nat.le_of_ble_eq_true rfl) dUX_readRule_54 ?_
      clear hz
      refine j_aload_n X dUX_readRule_57 rfl 0 rfl ?_
      refine j_geta X gf_UX_15_50 dUX_readRule_58 ?_
      refine j_iload_n X dUX_readRule_61 rfl 1 rfl ?_
      show bz_J _ _ 62 _ _ _
      refine j_iconst X dUX_readRule_62 ?_
      refine j_iadd X dUX_readRule_63 ?_
      refine j_aload_n X dUX_readRule_64 rfl 0 rfl ?_
      refine j_sipush X dUX_readRule_65 rfl ?_
      obtain ⟨x48, m47, hz, hf⟩ := q_cl2 hf
      refine j_cv X (st := [bz_i (a1 + 2), bz_rf E 52]) (cUX_wantNumber E F hz) gyUX_wantNumber gv_UX_wantNumber_50 rfl (by decide) (by decide) wd_720 rfl (Nat.le_of_ble_eq_true rfl) dUX_readRule_68 ?_
      clear hz
      refine j_iast X sh_52 dUX_readRule_71 hf (fun m49 hf => ?_)
      refine j_goto X (tgt := 322) dUX_readRule_72 (by decide) ?_
      cases hf
      exact j_vret X dUX_readRule_322 rfl rfl
  · refine j_aload_n X dUX_readRule_9 rfl 0 rfl ?_
    refine j_geta X gf_UX_15_50 dUX_readRule_10 ?_
    refine j_iload_n X dUX_readRule_13 rfl 1 rfl ?_
    refine j_iconst X dUX_readRule_14 ?_
    refine j_iadd X dUX_readRule_15 ?_
    refine j_aload_n X dUX_readRule_16 rfl 0 rfl ?_
    refine j_sipush X dUX_readRule_17 rfl ?_
    show bz_J _ _ 20 _ _ _
    obtain ⟨x51, m50, hz, hf⟩ := q_cl2 hf
    refine j_cv X (st := [bz_i (a1 + 0), bz_rf E 52]) (cUX_wantNumber E F hz) gyUX_wantNumber gv_UX_wantNumber_50 rfl (by decide) (by decide) wd_720 rfl (Nat.le_of_ble_eq_true rfl) dUX_readRule_20 ?_
    clear hz
    refine j_iast X sh_52 dUX_readRule_23 hf (fun m52 hf => ?_)
    refine j_goto X (tgt := 322) dUX_readRule_24 (by decide) ?_
    cases hf
    exact j_vret X dUX_readRule_322 rfl rfl
def fUX_readLine (F : Nat) (M : bz_Mm) : Option (bz_Mm) :=
  cl_ (fUX_next F M) fun m1 =>
  cl_ (fUX_isWord F m1 0) fun x2 =>
  if w32 x2 = 0 then
  (if w32 (m1 50 3) = 0 then
  (wf_ m1 50 5 ((m1 50 4) + 1) fun m9 =>
  some m9)
  else
  (if w32 (m1 50 7) = (-1) then
  (cl_ (fUX_readRule F m1 (4 * 12)) fun m3 =>
  cl_ (fUX_next F m3) fun m4 =>
  cl1_ (if w32 (m4 50 3) = 0 then
  (some (1))
  else
  (some (0))) fun v6 =>
  cl_ (fUX_want F m4 v6) fun m7 =>
  wf_ m7 50 5 ((m7 50 4) + 1) fun m8 =>
  some m8)
  else
  (some m1)))
  else
  (cl2_ (fUX_wantNumber F m1 3) fun x11 m10 =>
  cl_ (fUX_next F m10) fun m12 =>
  cl1_ (if w32 (m12 50 3) = 3 then
  (some (1))
  else
  (some (0))) fun v14 =>
  cl_ (fUX_want F m12 v14) fun m15 =>
  cl_ (fUX_next F m15) fun m16 =>
  if w32 (m16 50 7) = (-1) then
  (cl_ (fUX_readRule F m16 (x11 * 12)) fun m17 =>
  cl_ (fUX_next F m17) fun m18 =>
  cl1_ (if w32 (m18 50 3) = 0 then
  (some (1))
  else
  (some (0))) fun v20 =>
  cl_ (fUX_want F m18 v20) fun m21 =>
  wf_ m21 50 5 ((m21 50 4) + 1) fun m22 =>
  some m22)
  else
  (some m16))
set_option maxHeartbeats 4000000 in
set_option maxRecDepth 20000 in
theorem cUX_readLine (E : bz_E) (F : Nat)  {M : bz_Mm} {x0 : bz_Mm} (hf : fUX_readLine F M = some x0) : bz_Ct E yUX_readLine (.code yUX_readLine prog_11_method_4_code 2 none) 7 149 [bz_rf E 50] M (none) x0 := by
  refine bz_met (by decide +kernel) (Nat.le_of_ble_eq_true rfl) (fun K X => ?_)
  have X : bz_X K E prog_11_method_4_code 2 "UnitsWrong$Text" none 7 149 _ _ := X
  unfold fUX_readLine at hf
  show bz_J K 2 0 [(0, bz_rf E 50)] [] M
  refine j_iconst X dUX_readLine_0 ?_
  refine j_istore_n X (lv' := [(1, bz_i 4), (0, bz_rf E 50)]) dUX_readLine_1 rfl (by decide) rfl ?_
  refine j_aload_n X dUX_readLine_2 rfl 1 rfl ?_
  obtain ⟨m1, hz, hf⟩ := q_cl hf
  refine j_cv X (st := []) (cUX_next E F hz) gyUX_next gv_UX_next_50 rfl (by decide) (by decide) wd_655 rfl (Nat.le_of_ble_eq_true rfl) dUX_readLine_3 ?_
  clear hz
  refine j_aload_n X dUX_readLine_6 rfl 1 rfl ?_
  refine j_ldcS X (w := 0) (tx := "fund") (by decide +kernel) dUX_readLine_7 ?_
  obtain ⟨x2, hzx2, hf⟩ := q_cl hf
  refine j_cv X (st := []) (cUX_isWord E F (by decide) hzx2) gyUX_isWord gv_UX_isWord_50 rfl (by decide) (by decide) wd_668 rfl (Nat.le_of_ble_eq_true rfl) dUX_readLine_9 ?_
  show bz_J _ _ 12 _ _ _
  refine j_if_eq X (tgt := 49) rfl dUX_readLine_12 (by decide) hf (fun hf => ?_) (fun hf => ?_)
  · refine j_aload_n X dUX_readLine_49 rfl 1 rfl ?_
    refine j_geti X gf_UX_51_50 dUX_readLine_50 ?_
    refine j_if_ne X (tgt := 67) rfl dUX_readLine_53 (by decide) hf (fun hf => ?_) (fun hf => ?_)
    · refine j_aload_n X dUX_readLine_67 rfl 1 rfl ?_
      refine j_geti X gf_UX_32_50 dUX_readLine_68 ?_
      refine j_iconst X dUX_readLine_71 ?_
      refine j_icmp_ne X (tgt := 113) rfl (w32_lit rfl) dUX_readLine_72 (by decide) hf (fun hf => ?_) (fun hf => ?_)
      · cases hf
        exact j_vret X dUX_readLine_113 rfl rfl
      · refine j_aload_n X dUX_readLine_75 rfl 1 rfl ?_
        refine j_iload_n X dUX_readLine_76 rfl 0 rfl ?_
        refine j_bipush X dUX_readLine_77 rfl ?_
        refine j_imul X dUX_readLine_79 ?_
        obtain ⟨m3, hz, hf⟩ := q_cl hf
        refine j_cv X (st := []) (cUX_readRule E F hz) gyUX_readRule gv_UX_readRule_50 rfl (by decide) (by decide) wd_728 rfl (Nat.le_of_ble_eq_true rfl) dUX_readLine_80 ?_
        clear hz
        refine j_aload_n X dUX_readLine_83 rfl 1 rfl ?_
        obtain ⟨m4, hz, hf⟩ := q_cl hf
        refine j_cv X (st := []) (cUX_next E F hz) gyUX_next gv_UX_next_50 rfl (by decide) (by decide) wd_655 rfl (Nat.le_of_ble_eq_true rfl) dUX_readLine_84 ?_
        clear hz
        show bz_J _ _ 87 _ _ _
        refine j_aload_n X dUX_readLine_87 rfl 1 rfl ?_
        refine j_aload_n X dUX_readLine_88 rfl 1 rfl ?_
        refine j_geti X gf_UX_51_50 dUX_readLine_89 ?_
        obtain ⟨resJ5, hf0, hkJ5⟩ := q_l1 hf
        have J5 : ∀ (v6 : Int), some v6 = some resJ5 → bz_J K 2 100 [(0, bz_rf E 50)] [bz_i v6, bz_rf E 50] m4 := by
          intro v6 he
          have hf := hkJ5 _ he
          obtain ⟨m7, hz, hf⟩ := q_cl hf
          refine j_cv X (st := []) (cUX_want E F hz) gyUX_want gv_UX_want_50 rfl (by decide) (by decide) wd_724 rfl (Nat.le_of_ble_eq_true rfl) dUX_readLine_100 ?_
          clear hz
          refine j_aload_n X dUX_readLine_103 rfl 0 rfl ?_
          refine j_aload_n X dUX_readLine_104 rfl 0 rfl ?_
          refine j_geti X gf_UX_58_50 dUX_readLine_105 ?_
          refine j_iconst X dUX_readLine_108 ?_
          refine j_iadd X dUX_readLine_109 ?_
          refine j_puti X pf_UX_29_50 dUX_readLine_110 hf (fun m8 hf => ?_)
          show bz_J _ _ 113 _ _ _
          cases hf
          exact j_vret X dUX_readLine_113 rfl rfl
        clear hf
        have hf := hf0
        clear hf0
        refine j_if_ne X (tgt := 99) rfl dUX_readLine_92 (by decide) hf (fun hf => ?_) (fun hf => ?_)
        · refine j_iconst X dUX_readLine_99 ?_
          exact j_sub [1] rfl (J5 _ hf)
        · refine j_iconst X dUX_readLine_95 ?_
          refine j_goto X (tgt := 100) dUX_readLine_96 (by decide) ?_
          exact j_sub [1] rfl (J5 _ hf)
    · refine j_aload_n X dUX_readLine_56 rfl 1 rfl ?_
      refine j_aload_n X dUX_readLine_57 rfl 1 rfl ?_
      refine j_geti X gf_UX_58_50 dUX_readLine_58 ?_
      refine j_iconst X dUX_readLine_61 ?_
      refine j_iadd X dUX_readLine_62 ?_
      refine j_puti X pf_UX_29_50 dUX_readLine_63 hf (fun m9 hf => ?_)
      cases hf
      exact j_vret X dUX_readLine_66 rfl rfl
  · refine j_aload_n X dUX_readLine_15 rfl 1 rfl ?_
    refine j_iconst X dUX_readLine_16 ?_
    obtain ⟨x11, m10, hz, hf⟩ := q_cl2 hf
    refine j_cv X (st := []) (cUX_wantNumber E F hz) gyUX_wantNumber gv_UX_wantNumber_50 rfl (by decide) (by decide) wd_720 rfl (Nat.le_of_ble_eq_true rfl) dUX_readLine_17 ?_
    clear hz
    refine j_istore_n X (lv' := [(1, bz_i x11), (0, bz_rf E 50)]) dUX_readLine_20 rfl (by decide) rfl ?_
    refine j_aload_n X dUX_readLine_21 rfl 1 rfl ?_
    obtain ⟨m12, hz, hf⟩ := q_cl hf
    refine j_cv X (st := []) (cUX_next E F hz) gyUX_next gv_UX_next_50 rfl (by decide) (by decide) wd_655 rfl (Nat.le_of_ble_eq_true rfl) dUX_readLine_22 ?_
    clear hz
    refine j_aload_n X dUX_readLine_25 rfl 1 rfl ?_
    show bz_J _ _ 26 _ _ _
    refine j_aload_n X dUX_readLine_26 rfl 1 rfl ?_
    refine j_geti X gf_UX_51_50 dUX_readLine_27 ?_
    refine j_iconst X dUX_readLine_30 ?_
    obtain ⟨resJ13, hf0, hkJ13⟩ := q_l1 hf
    have J13 : ∀ (v14 : Int), some v14 = some resJ13 → bz_J K 2 39 [(1, bz_i x11), (0, bz_rf E 50)] [bz_i v14, bz_rf E 50] m12 := by
      intro v14 he
      have hf := hkJ13 _ he
      obtain ⟨m15, hz, hf⟩ := q_cl hf
      refine j_cv X (st := []) (cUX_want E F hz) gyUX_want gv_UX_want_50 rfl (by decide) (by decide) wd_724 rfl (Nat.le_of_ble_eq_true rfl) dUX_readLine_39 ?_
      clear hz
      refine j_aload_n X dUX_readLine_42 rfl 1 rfl ?_
      obtain ⟨m16, hz, hf⟩ := q_cl hf
      refine j_cv X (st := []) (cUX_next E F hz) gyUX_next gv_UX_next_50 rfl (by decide) (by decide) wd_655 rfl (Nat.le_of_ble_eq_true rfl) dUX_readLine_43 ?_
      clear hz
      refine j_goto X (tgt := 67) dUX_readLine_46 (by decide) ?_
      refine j_aload_n X dUX_readLine_67 rfl 1 rfl ?_
      refine j_geti X gf_UX_32_50 dUX_readLine_68 ?_
      refine j_iconst X dUX_readLine_71 ?_
      show bz_J _ _ 72 _ _ _
      refine j_icmp_ne X (tgt := 113) rfl (w32_lit rfl) dUX_readLine_72 (by decide) hf (fun hf => ?_) (fun hf => ?_)
      · cases hf
        exact j_vret X dUX_readLine_113 rfl rfl
      · refine j_aload_n X dUX_readLine_75 rfl 1 rfl ?_
        refine j_iload_n X dUX_readLine_76 rfl 0 rfl ?_
        refine j_bipush X dUX_readLine_77 rfl ?_
        refine j_imul X dUX_readLine_79 ?_
        obtain ⟨m17, hz, hf⟩ := q_cl hf
        refine j_cv X (st := []) (cUX_readRule E F hz) gyUX_readRule gv_UX_readRule_50 rfl (by decide) (by decide) wd_728 rfl (Nat.le_of_ble_eq_true rfl) dUX_readLine_80 ?_
        clear hz
        refine j_aload_n X dUX_readLine_83 rfl 1 rfl ?_
        obtain ⟨m18, hz, hf⟩ := q_cl hf
        refine j_cv X (st := []) (cUX_next E F hz) gyUX_next gv_UX_next_50 rfl (by decide) (by decide) wd_655 rfl (Nat.le_of_ble_eq_true rfl) dUX_readLine_84 ?_
        clear hz
        show bz_J _ _ 87 _ _ _
        refine j_aload_n X dUX_readLine_87 rfl 1 rfl ?_
        refine j_aload_n X dUX_readLine_88 rfl 1 rfl ?_
        refine j_geti X gf_UX_51_50 dUX_readLine_89 ?_
        obtain ⟨resJ19, hf0, hkJ19⟩ := q_l1 hf
        have J19 : ∀ (v20 : Int), some v20 = some resJ19 → bz_J K 2 100 [(0, bz_rf E 50)] [bz_i v20, bz_rf E 50] m18 := by
          intro v20 he
          have hf := hkJ19 _ he
          obtain ⟨m21, hz, hf⟩ := q_cl hf
          refine j_cv X (st := []) (cUX_want E F hz) gyUX_want gv_UX_want_50 rfl (by decide) (by decide) wd_724 rfl (Nat.le_of_ble_eq_true rfl) dUX_readLine_100 ?_
          clear hz
          refine j_aload_n X dUX_readLine_103 rfl 0 rfl ?_
          refine j_aload_n X dUX_readLine_104 rfl 0 rfl ?_
          refine j_geti X gf_UX_58_50 dUX_readLine_105 ?_
          refine j_iconst X dUX_readLine_108 ?_
          refine j_iadd X dUX_readLine_109 ?_
          refine j_puti X pf_UX_29_50 dUX_readLine_110 hf (fun m22 hf => ?_)
          show bz_J _ _ 113 _ _ _
          cases hf
          exact j_vret X dUX_readLine_113 rfl rfl
        clear hf
        have hf := hf0
        clear hf0
        refine j_if_ne X (tgt := 99) rfl dUX_readLine_92 (by decide) hf (fun hf => ?_) (fun hf => ?_)
        · refine j_iconst X dUX_readLine_99 ?_
          exact j_sub [1] rfl (J19 _ hf)
        · refine j_iconst X dUX_readLine_95 ?_
          refine j_goto X (tgt := 100) dUX_readLine_96 (by decide) ?_
          exact j_sub [1] rfl (J19 _ hf)
    clear hf
    have hf := hf0
    clear hf0
    refine j_icmp_ne X (tgt := 38) rfl (w32_lit rfl) dUX_readLine_31 (by decide) hf (fun hf => ?_) (fun hf => ?_)
    · refine j_iconst X dUX_readLine_38 ?_
      exact J13 _ hf
    · refine j_iconst X dUX_readLine_34 ?_
      refine j_goto X (tgt := 39) dUX_readLine_35 (by decide) ?_
      exact J13 _ hf
def UX_read_L21 (F : Nat) : Nat → Int → bz_Mm → Option (bz_Mm)
  | 0, _, _ => none
  | n + 1, l1, M =>
    if w32 (M 50 2) < w32 l1 then
    (some M)
    else
    (if w32 (M 50 2) < w32 (M 50 5) then
    (some M)
    else
    (if w32 (M 50 7) = (-1) then
    (cl_ (fUX_readLine F M) fun m4 =>
    UX_read_L21 F n (l1 + 1) m4)
    else
    (some M)))
theorem lUX_read_L21 (E : bz_E) (F : Nat) {K : bz_K} {rv : Option Value} {M1 : bz_Mm} (X : bz_X K E prog_11_method_3_code 2 "UnitsWrong$Text" (some .int) 8 170 rv M1) {res : (bz_Mm)}
    (kx : ∀ (M : bz_Mm), some M = some res → bz_J K 2 58 [(0, bz_rf E 50)] [] M) :
    ∀ (n : Nat) (l1 : Int) (M : bz_Mm), UX_read_L21 F n l1 M = some res → bz_J K 2 21 [(1, bz_i l1), (0, bz_rf E 50)] [] M := by
  intro n
  induction n with
  | zero => intro l1 M hf; cases hf
  | succ n ih =>
    intro l1 M hf
    rw [UX_read_L21] at hf
    refine j_iload_n X dUX_read_21 rfl 0 rfl ?_
    refine j_aload_n X dUX_read_22 rfl 1 rfl ?_
    refine j_geti X gf_UX_18_50 dUX_read_23 ?_
    refine j_icmp_gt X (tgt := 58) rfl rfl dUX_read_26 (by decide) hf (fun hf => ?_) (fun hf => ?_)
    · exact j_sub [1] rfl (kx _ hf)
    · refine j_aload_n X dUX_read_29 rfl 1 rfl ?_
      refine j_geti X gf_UX_29_50 dUX_read_30 ?_
      refine j_aload_n X dUX_read_33 rfl 1 rfl ?_
      refine j_geti X gf_UX_18_50 dUX_read_34 ?_
      refine j_icmp_gt X (tgt := 58) rfl rfl dUX_read_37 (by decide) hf (fun hf => ?_) (fun hf => ?_)
      · exact j_sub [1] rfl (kx _ hf)
      · refine j_aload_n X dUX_read_40 rfl 1 rfl ?_
        refine j_geti X gf_UX_32_50 dUX_read_41 ?_
        refine j_iconst X dUX_read_44 ?_
        refine j_icmp_ne X (tgt := 58) rfl (w32_lit rfl) dUX_read_45 (by decide) hf (fun hf => ?_) (fun hf => ?_)
        · exact j_sub [1] rfl (kx _ hf)
        · refine j_aload_n X dUX_read_48 rfl 1 rfl ?_
          obtain ⟨m4, hz, hf⟩ := q_cl hf
          refine j_cv X (st := []) (cUX_readLine E F hz) gyUX_readLine gv_UX_readLine_50 rfl (by decide) (by decide) wd_651 rfl (Nat.le_of_ble_eq_true rfl) dUX_read_49 ?_
          clear hz
          refine j_iinc X (y := l1 + 1) (lv' := [(1, bz_i (l1 + 1)), (0, bz_rf E 50)]) dUX_read_52 0 rfl rfl (by decide) rfl ?_
          refine j_goto X (tgt := 21) dUX_read_55 (by decide) ?_
          exact ih _ _ hf
def fUX_read (F : Nat) (M : bz_Mm) : Option (Int × bz_Mm) :=
  cl_ (fJA_fill1 F M 52 60 ((-2147483648))) fun m1 =>
  wf_ m1 50 5 0 fun m2 =>
  wf_ m2 50 7 ((-1)) fun m3 =>
  cl1_ (UX_read_L21 F F 0 m3) fun m5 =>
  some ((m5 50 7, m5))
set_option maxHeartbeats 4000000 in
set_option maxRecDepth 20000 in
theorem cUX_read (E : bz_E) (F : Nat)  {M : bz_Mm} {x0 : Int × bz_Mm} (hf : fUX_read F M = some x0) : bz_Ct E yUX_read (.code yUX_read prog_11_method_3_code 2 (some .int)) 8 170 [bz_rf E 50] M (some (bz_i x0.1)) x0.2 := by
  refine bz_met (by decide +kernel) (Nat.le_of_ble_eq_true rfl) (fun K X => ?_)
  have X : bz_X K E prog_11_method_3_code 2 "UnitsWrong$Text" (some .int) 8 170 _ _ := X
  unfold fUX_read at hf
  show bz_J K 2 0 [(0, bz_rf E 50)] [] M
  refine j_aload_n X dUX_read_0 rfl 0 rfl ?_
  refine j_geta X gf_UX_15_50 dUX_read_1 ?_
  refine j_ldc X (v := -2147483648) wd_649 dUX_read_4 ?_
  obtain ⟨m1, hz, hf⟩ := q_cl hf
  refine j_cs X (st := []) (cJA_fill1 E F sh_52 hz) gyJA_fill1 wd_209 rfl (by decide) (by decide) wd_650 rfl (Nat.le_of_ble_eq_true rfl) dUX_read_6 ?_
  clear hz
  refine j_aload_n X dUX_read_9 rfl 0 rfl ?_
  refine j_iconst X dUX_read_10 ?_
  refine j_puti X pf_UX_29_50 dUX_read_11 hf (fun m2 hf => ?_)
  show bz_J _ _ 14 _ _ _
  refine j_aload_n X dUX_read_14 rfl 0 rfl ?_
  refine j_iconst X dUX_read_15 ?_
  refine j_puti X pf_UX_32_50 dUX_read_16 hf (fun m3 hf => ?_)
  refine j_iconst X dUX_read_19 ?_
  refine j_istore_n X (lv' := [(1, bz_i 0), (0, bz_rf E 50)]) dUX_read_20 rfl (by decide) rfl ?_
  obtain ⟨res6, hz6, hk6⟩ := q_l1 hf
  clear hf
  refine lUX_read_L21 E F X (fun m5 he => ?_) F 0 m3 hz6
  have hf := hk6 _ he
  refine j_aload_n X dUX_read_58 rfl 0 rfl ?_
  refine j_geti X gf_UX_32_50 dUX_read_59 ?_
  cases hf
  exact j_iret X dUX_read_62 rfl rfl
def fU_fault (F : Nat) (M : bz_Mm) : Option (Int × bz_Mm) :=
  cl2_ (fUX_read F M) fun x2 m1 =>
  some ((x2, m1))
set_option maxHeartbeats 4000000 in
set_option maxRecDepth 20000 in
theorem cU_fault (E : bz_E) (F : Nat)  {M : bz_Mm} {x0 : Int × bz_Mm} (hf : fU_fault F M = some x0) : bz_Ct E yU_fault (.code yU_fault prog_1_method_14_code 1 (some .int)) 9 191 [bz_rf E 0] M (some (bz_i x0.1)) x0.2 := by
  refine bz_met (by decide +kernel) (Nat.le_of_ble_eq_true rfl) (fun K X => ?_)
  have X : bz_X K E prog_1_method_14_code 1 "UnitsWrong" (some .int) 9 191 _ _ := X
  unfold fU_fault at hf
  show bz_J K 1 0 [(0, bz_rf E 0)] [] M
  refine j_aload_n X dU_fault_0 rfl 0 rfl ?_
  refine j_geta X gf_U_19_0 dU_fault_1 ?_
  obtain ⟨x2, m1, hz, hf⟩ := q_cl2 hf
  refine j_cv X (st := []) (cUX_read E F hz) gyUX_read gv_UX_read_50 rfl (by decide) (by decide) wd_645 rfl (Nat.le_of_ble_eq_true rfl) dU_fault_4 ?_
  clear hz
  cases hf
  exact j_iret X dU_fault_7 rfl rfl
def UL_add_52_L28 (F : Nat) : Nat → Int → Int → Int → Int → bz_Mm → Option (bz_Mm)
  | 0, _, _, _, _, _ => none
  | n + 1, l4, l3, l2, l5, M =>
    if w32 l5 < 12 then
    (rd_ M 52 ((l4 * 12) + l5) 60 fun x1 =>
    cl1_ (if w32 x1 = (-2147483648) then
    (rd_ M 52 (48 + l5) 60 fun x3 =>
    some (x3))
    else
    (some (x1))) fun l6 =>
    cl1_ (if w32 l6 = (-2147483648) then
    (rw_ l5 fun x5 =>
    some (x5))
    else
    (some (l6))) fun l6 =>
    wa_ M 47 ((((l3 * 4) + l4) * 12) + l5) 288 l6 fun m6 =>
    UL_add_52_L28 F n l4 l3 l2 (l5 + 1) m6)
    else
    (some M)
def UL_add_52_L19 (F : Nat) : Nat → Int → Int → Int → bz_Mm → Option (bz_Mm)
  | 0, _, _, _, _ => none
  | n + 1, l3, l2, l4, M =>
    if w32 l4 < 4 then
    (cl1_ (UL_add_52_L28 F F l4 l3 l2 0 M) fun m7 =>
    UL_add_52_L19 F n l3 l2 (l4 + 1) m7)
    else
    (some M)
theorem lUL_add_52_L28 (E : bz_E) (F : Nat) {K : bz_K} {rv : Option Value} {M1 : bz_Mm} (X : bz_X K E prog_7_method_2_code 7 "UnitsWrong$Laws" (some .int) 0 0 rv M1) {l4 : Int} {l3 : Int} {l2 : Int} {res : (bz_Mm)}
    (kx : ∀ (M : bz_Mm), some M = some res → bz_J K 7 103 [(4, bz_i l4), (3, bz_i l3), (0, bz_rf E 45), (1, bz_rf E 52), (2, bz_i l2)] [] M) :
    ∀ (n : Nat) (l5 : Int) (M : bz_Mm), UL_add_52_L28 F n l4 l3 l2 l5 M = some res → bz_J K 7 28 [(5, bz_i l5), (4, bz_i l4), (3, bz_i l3), (0, bz_rf E 45), (1, bz_rf E 52), (2, bz_i l2)] [] M := by
  intro n
  induction n with
  | zero => intro l5 M hf; cases hf
  | succ n ih =>
    intro l5 M hf
    rw [UL_add_52_L28] at hf
    refine j_iload X dUL_add_28 0 rfl ?_
    refine j_bipush X dUL_add_30 rfl ?_
    refine j_icmp_ge X (tgt := 103) rfl (w32_lit rfl) dUL_add_32 (by decide) hf (fun hf => ?_) (fun hf => ?_)
    · exact j_sub [1, 2, 3, 4, 5] rfl (kx _ hf)
    · refine j_aload_n X dUL_add_35 rfl 4 rfl ?_
      refine j_iload X dUL_add_36 1 rfl ?_
      refine j_bipush X dUL_add_38 rfl ?_
      refine j_imul X dUL_add_40 ?_
      refine j_iload X dUL_add_41 0 rfl ?_
      refine j_iadd X dUL_add_43 ?_
      refine j_iald X sh_52 dUL_add_44 hf (fun x1 hf => ?_)
      show bz_J _ _ 45 _ _ _
      refine j_istore X (lv' := [(6, bz_i x1), (5, bz_i l5), (4, bz_i l4), (3, bz_i l3), (0, bz_rf E 45), (1, bz_rf E 52), (2, bz_i l2)]) dUL_add_45 (by decide) rfl ?_
      refine j_iload X dUL_add_47 0 rfl ?_
      refine j_ldc X (v := -2147483648) wd_771 dUL_add_49 ?_
      obtain ⟨resJ2, hf0, hkJ2⟩ := q_l1 hf
      have J2 : ∀ (l6 : Int), some l6 = some resJ2 → bz_J K 7 63 [(6, bz_i l6), (5, bz_i l5), (4, bz_i l4), (3, bz_i l3), (0, bz_rf E 45), (1, bz_rf E 52), (2, bz_i l2)] [] M := by
        intro l6 he
        have hf := hkJ2 _ he
        refine j_iload X dUL_add_63 0 rfl ?_
        refine j_ldc X (v := -2147483648) wd_771 dUL_add_65 ?_
        obtain ⟨resJ4, hf0, hkJ4⟩ := q_l1 hf
        have J4 : ∀ (l6 : Int), some l6 = some resJ4 → bz_J K 7 78 [(6, bz_i l6), (5, bz_i l5), (4, bz_i l4), (3, bz_i l3), (0, bz_rf E 45), (1, bz_rf E 52), (2, bz_i l2)] [] M := by
          intro l6 he
          have hf := hkJ4 _ he
          refine j_aload_n X dUL_add_78 rfl 4 rfl ?_
          refine j_geta X gf_UL_15_45 dUL_add_79 ?_
          refine j_iload_n X dUL_add_82 rfl 3 rfl ?_
          refine j_iconst X dUL_add_83 ?_
          refine j_imul X dUL_add_84 ?_
          refine j_iload X dUL_add_85 2 rfl ?_
          refine j_iadd X dUL_add_87 ?_
          show bz_J _ _ 88 _ _ _
          refine j_bipush X dUL_add_88 rfl ?_
          refine j_imul X dUL_add_90 ?_
          refine j_iload X dUL_add_91 1 rfl ?_
          refine j_iadd X dUL_add_93 ?_
          refine j_iload X dUL_add_94 0 rfl ?_
          refine j_iast X sh_47 dUL_add_96 hf (fun m6 hf => ?_)
          refine j_iinc X (y := l5 + 1) (lv' := [(5, bz_i (l5 + 1)), (6, bz_i l6), (4, bz_i l4), (3, bz_i l3), (0, bz_rf E 45), (1, bz_rf E 52), (2, bz_i l2)]) dUL_add_97 1 rfl rfl (by decide) rfl ?_
          refine j_goto X (tgt := 28) dUL_add_100 (by decide) ?_
          exact j_sub [0, 2, 3, 4, 5, 6] rfl (ih _ _ hf)
        clear hf
        have hf := hf0
        clear hf0
        refine j_icmp_ne X (tgt := 78) rfl (w32_lit rfl) dUL_add_67 (by decide) hf (fun hf => ?_) (fun hf => ?_)
        · exact J4 _ hf
        · refine j_gets X wd_618 dUL_add_70 ?_
          refine j_iload X dUL_add_73 1 rfl ?_
          refine j_wald X dUL_add_75 hf (fun x5 hf => ?_)
          refine j_istore X (lv' := [(6, bz_i x5), (5, bz_i l5), (4, bz_i l4), (3, bz_i l3), (0, bz_rf E 45), (1, bz_rf E 52), (2, bz_i l2)]) dUL_add_76 (by decide) rfl ?_
          exact J4 _ hf
      clear hf
      have hf := hf0
      clear hf0
      refine j_icmp_ne X (tgt := 63) rfl (w32_lit rfl) dUL_add_51 (by decide) hf (fun hf => ?_) (fun hf => ?_)
      · exact J2 _ hf
      · refine j_aload_n X dUL_add_54 rfl 5 rfl ?_
        refine j_bipush X dUL_add_55 rfl ?_
        refine j_iload X dUL_add_57 1 rfl ?_
        refine j_iadd X dUL_add_59 ?_
        refine j_iald X sh_52 dUL_add_60 hf (fun x3 hf => ?_)
        refine j_istore X (lv' := [(6, bz_i x3), (5, bz_i l5), (4, bz_i l4), (3, bz_i l3), (0, bz_rf E 45), (1, bz_rf E 52), (2, bz_i l2)]) dUL_add_61 (by decide) rfl ?_
        exact J2 _ hf
theorem lUL_add_52_L19 (E : bz_E) (F : Nat) {K : bz_K} {rv : Option Value} {M1 : bz_Mm} (X : bz_X K E prog_7_method_2_code 7 "UnitsWrong$Laws" (some .int) 0 0 rv M1) {l3 : Int} {l2 : Int} {res : (bz_Mm)}
    (kx : ∀ (M : bz_Mm), some M = some res → bz_J K 7 109 [(3, bz_i l3), (0, bz_rf E 45), (2, bz_i l2)] [] M) :
    ∀ (n : Nat) (l4 : Int) (M : bz_Mm), UL_add_52_L19 F n l3 l2 l4 M = some res → bz_J K 7 19 [(4, bz_i l4), (3, bz_i l3), (0, bz_rf E 45), (1, bz_rf E 52), (2, bz_i l2)] [] M := by
  intro n
  induction n with
  | zero => intro l4 M hf; cases hf
  | succ n ih =>
    intro l4 M hf
    rw [UL_add_52_L19] at hf
    refine j_iload X dUL_add_19 0 rfl ?_
    refine j_iconst X dUL_add_21 ?_
    refine j_icmp_ge X (tgt := 109) rfl (w32_lit rfl) dUL_add_22 (by decide) hf (fun hf => ?_) (fun hf => ?_)
    · exact j_sub [1, 2, 4] rfl (kx _ hf)
    · refine j_iconst X dUL_add_25 ?_
      refine j_istore X (lv' := [(5, bz_i 0), (4, bz_i l4), (3, bz_i l3), (0, bz_rf E 45), (1, bz_rf E 52), (2, bz_i l2)]) dUL_add_26 (by decide) rfl ?_
      obtain ⟨res8, hz8, hk8⟩ := q_l1 hf
      clear hf
      refine lUL_add_52_L28 E F X (fun m7 he => ?_) F 0 M hz8
      have hf := hk8 _ he
      refine j_iinc X (y := l4 + 1) (lv' := [(4, bz_i (l4 + 1)), (3, bz_i l3), (0, bz_rf E 45), (1, bz_rf E 52), (2, bz_i l2)]) dUL_add_103 0 rfl rfl (by decide) rfl ?_
      refine j_goto X (tgt := 19) dUL_add_106 (by decide) ?_
      exact ih _ _ hf
def fUL_add_52 (F : Nat) (M : bz_Mm) (a2 : Int) : Option (Int × bz_Mm) :=
  if w32 (M 45 2) < 6 then
  (lt_ (M 45 2) fun l3 =>
  cl1_ (UL_add_52_L19 F F l3 a2 0 M) fun m9 =>
  wa_ m9 46 l3 6 a2 fun m10 =>
  wf_ m10 45 2 (l3 + 1) fun m11 =>
  some ((l3, m11)))
  else
  (some (((-1), M)))
set_option maxHeartbeats 4000000 in
set_option maxRecDepth 20000 in
theorem cUL_add_52 (E : bz_E) (F : Nat)  {M : bz_Mm} {a2 : Int} {x0 : Int × bz_Mm} (hf : fUL_add_52 F M a2 = some x0) : bz_Ct E yUL_add (.code yUL_add prog_7_method_2_code 7 (some .int)) 0 0 [bz_rf E 45, bz_rf E 52, bz_i a2] M (some (bz_i x0.1)) x0.2 := by
  refine bz_met (by decide +kernel) (Nat.le_of_ble_eq_true rfl) (fun K X => ?_)
  have X : bz_X K E prog_7_method_2_code 7 "UnitsWrong$Laws" (some .int) 0 0 _ _ := X
  unfold fUL_add_52 at hf
  show bz_J K 7 0 [(0, bz_rf E 45), (1, bz_rf E 52), (2, bz_i a2)] [] M
  refine j_aload_n X dUL_add_0 rfl 0 rfl ?_
  refine j_geti X gf_UL_18_45 dUL_add_1 ?_
  refine j_bipush X dUL_add_4 rfl ?_
  refine j_icmp_lt X (tgt := 11) rfl (w32_lit rfl) dUL_add_6 (by decide) hf (fun hf => ?_) (fun hf => ?_)
  · refine j_aload_n X dUL_add_11 rfl 0 rfl ?_
    refine j_geti X gf_UL_18_45 dUL_add_12 ?_
    refine j_lt (g := bz_i) hf (fun l3 hf => ?_)
    refine j_istore_n X (lv' := [(3, bz_i l3), (0, bz_rf E 45), (1, bz_rf E 52), (2, bz_i a2)]) dUL_add_15 rfl (by decide) rfl ?_
    refine j_iconst X dUL_add_16 ?_
    refine j_istore X (lv' := [(4, bz_i 0), (3, bz_i l3), (0, bz_rf E 45), (1, bz_rf E 52), (2, bz_i a2)]) dUL_add_17 (by decide) rfl ?_
    obtain ⟨res12, hz12, hk12⟩ := q_l1 hf
    clear hf
    refine lUL_add_52_L19 E F X (fun m9 he => ?_) F 0 M hz12
    have hf := hk12 _ he
    refine j_aload_n X dUL_add_109 rfl 1 rfl ?_
    refine j_geta X gf_UL_11_45 dUL_add_110 ?_
    refine j_iload_n X dUL_add_113 rfl 0 rfl ?_
    refine j_iload_n X dUL_add_114 rfl 2 rfl ?_
    refine j_iast X sh_46 dUL_add_115 hf (fun m10 hf => ?_)
    refine j_aload_n X dUL_add_116 rfl 1 rfl ?_
    refine j_iload_n X dUL_add_117 rfl 0 rfl ?_
    show bz_J _ _ 118 _ _ _
    refine j_iconst X dUL_add_118 ?_
    refine j_iadd X dUL_add_119 ?_
    refine j_puti X pf_UL_18_45 dUL_add_120 hf (fun m11 hf => ?_)
    refine j_iload_n X dUL_add_123 rfl 0 rfl ?_
    cases hf
    exact j_iret X dUL_add_124 rfl rfl
  · refine j_iconst X dUL_add_9 ?_
    cases hf
    exact j_iret X dUL_add_10 rfl rfl
def fU_take (F : Nat) (M : bz_Mm) : Option (Int × bz_Mm) :=
  if w32 (M 1 13) < 260 then
  (if w32 (M 45 2) < 6 then
  (cl2_ (fUX_read F M) fun x2 m1 =>
  if w32 x2 = (-1) then
  (wf_ m1 50 2 0 fun m3 =>
  cl2_ (fUL_add_52 F m3 (m3 1 13)) fun x5 m4 =>
  some ((x5, m4)))
  else
  (some (((-1), m1))))
  else
  (some (((-1), M))))
  else
  (some (((-1), M)))
set_option maxHeartbeats 4000000 in
set_option maxRecDepth 20000 in
theorem cU_take (E : bz_E) (F : Nat)  {M : bz_Mm} {x0 : Int × bz_Mm} (hf : fU_take F M = some x0) : bz_Ct E yU_take (.code yU_take prog_1_method_15_code 1 (some .int)) 9 191 [bz_rf E 0] M (some (bz_i x0.1)) x0.2 := by
  refine bz_met (by decide +kernel) (Nat.le_of_ble_eq_true rfl) (fun K X => ?_)
  have X : bz_X K E prog_1_method_15_code 1 "UnitsWrong" (some .int) 9 191 _ _ := X
  unfold fU_take at hf
  show bz_J K 1 0 [(0, bz_rf E 0)] [] M
  refine j_aload_n X dU_take_0 rfl 0 rfl ?_
  refine j_geta X gf_U_10_0 dU_take_1 ?_
  refine j_geti X gf_U_51_1 dU_take_4 ?_
  refine j_sipush X dU_take_7 rfl ?_
  refine j_icmp_ge X (tgt := 39) rfl (w32_lit rfl) dU_take_10 (by decide) hf (fun hf => ?_) (fun hf => ?_)
  · refine j_iconst X dU_take_39 ?_
    cases hf
    exact j_iret X dU_take_40 rfl rfl
  · refine j_aload_n X dU_take_13 rfl 0 rfl ?_
    refine j_geta X gf_U_10_0 dU_take_14 ?_
    refine j_geta X gf_U_173_1 dU_take_17 ?_
    refine j_geti X gf_U_177_45 dU_take_20 ?_
    refine j_bipush X dU_take_23 rfl ?_
    refine j_icmp_ge X (tgt := 39) rfl (w32_lit rfl) dU_take_25 (by decide) hf (fun hf => ?_) (fun hf => ?_)
    · refine j_iconst X dU_take_39 ?_
      cases hf
      exact j_iret X dU_take_40 rfl rfl
    · refine j_aload_n X dU_take_28 rfl 0 rfl ?_
      refine j_geta X gf_U_19_0 dU_take_29 ?_
      obtain ⟨x2, m1, hz, hf⟩ := q_cl2 hf
      refine j_cv X (st := []) (cUX_read E F hz) gyUX_read gv_UX_read_50 rfl (by decide) (by decide) wd_645 rfl (Nat.le_of_ble_eq_true rfl) dU_take_32 ?_
      clear hz
      refine j_iconst X dU_take_35 ?_
      refine j_icmp_eq X (tgt := 41) rfl (w32_lit rfl) dU_take_36 (by decide) hf (fun hf => ?_) (fun hf => ?_)
      · refine j_aload_n X dU_take_41 rfl 0 rfl ?_
        refine j_geta X gf_U_19_0 dU_take_42 ?_
        refine j_iconst X dU_take_45 ?_
        refine j_puti X pf_U_162_50 dU_take_46 hf (fun m3 hf => ?_)
        refine j_aload_n X dU_take_49 rfl 0 rfl ?_
        refine j_geta X gf_U_10_0 dU_take_50 ?_
        refine j_geta X gf_U_173_1 dU_take_53 ?_
        show bz_J _ _ 56 _ _ _
        refine j_aload_n X dU_take_56 rfl 0 rfl ?_
        refine j_geta X gf_U_19_0 dU_take_57 ?_
        refine j_geta X gf_U_180_50 dU_take_60 ?_
        refine j_aload_n X dU_take_63 rfl 0 rfl ?_
        refine j_geta X gf_U_10_0 dU_take_64 ?_
        refine j_geti X gf_U_51_1 dU_take_67 ?_
        obtain ⟨x5, m4, hz, hf⟩ := q_cl2 hf
        refine j_cv X (st := []) (cUL_add_52 E F hz) gyUL_add gv_UL_add_45 rfl (by decide) (by decide) wd_767 rfl (Nat.le_of_ble_eq_true rfl) dU_take_70 ?_
        clear hz
        cases hf
        exact j_iret X dU_take_73 rfl rfl
      · refine j_iconst X dU_take_39 ?_
        cases hf
        exact j_iret X dU_take_40 rfl rfl
def fU_rule (F : Nat) (M : bz_Mm) (a1 : Int) (a2 : Int) (a3 : Int) : Option (Int) :=
  if w32 (fUS_isFund M a1) = 0 then
  (some ((-2147483648)))
  else
  (if w32 (fU_isDay a2) = 0 then
  (some ((-2147483648)))
  else
  (if w32 a3 < 0 then
  (some ((-2147483648)))
  else
  (if w32 a3 < 12 then
  (cl_ (fUL_value F M a1 a2 a3) fun x1 =>
  some x1)
  else
  (some ((-2147483648))))))
set_option maxHeartbeats 4000000 in
set_option maxRecDepth 20000 in
theorem cU_rule (E : bz_E) (F : Nat)  {M : bz_Mm} {a1 : Int} {a2 : Int} {a3 : Int} {x0 : Int} (hf : fU_rule F M a1 a2 a3 = some x0) : bz_Ct E yU_rule (.code yU_rule prog_1_method_16_code 4 (some .int)) 1 24 [bz_rf E 0, bz_i a1, bz_i a2, bz_i a3] M (some (bz_i x0)) M := by
  refine bz_met (by decide +kernel) (Nat.le_of_ble_eq_true rfl) (fun K X => ?_)
  have X : bz_X K E prog_1_method_16_code 4 "UnitsWrong" (some .int) 1 24 _ _ := X
  unfold fU_rule at hf
  show bz_J K 4 0 [(0, bz_rf E 0), (1, bz_i a1), (2, bz_i a2), (3, bz_i a3)] [] M
  refine j_aload_n X dU_rule_0 rfl 0 rfl ?_
  refine j_geta X gf_U_10_0 dU_rule_1 ?_
  refine j_iload_n X dU_rule_4 rfl 1 rfl ?_
  refine j_cv X (st := []) (cUS_isFund E) gyUS_isFund gv_US_isFund_1 rfl (by decide) (by decide) wd_584 rfl (Nat.le_of_ble_eq_true rfl) dU_rule_5 ?_
  refine j_if_eq X (tgt := 28) rfl dU_rule_8 (by decide) hf (fun hf => ?_) (fun hf => ?_)
  · refine j_ldc X (v := -2147483648) wd_571 dU_rule_28 ?_
    cases hf
    exact j_iret X dU_rule_30 rfl rfl
  · refine j_iload_n X dU_rule_11 rfl 2 rfl ?_
    refine j_cs X (st := []) (cU_isDay E) gyU_isDay wd_546 rfl (by decide) (by decide) wd_558 rfl (Nat.le_of_ble_eq_true rfl) dU_rule_12 ?_
    refine j_if_eq X (tgt := 28) rfl dU_rule_15 (by decide) hf (fun hf => ?_) (fun hf => ?_)
    · refine j_ldc X (v := -2147483648) wd_571 dU_rule_28 ?_
      cases hf
      exact j_iret X dU_rule_30 rfl rfl
    · refine j_iload_n X dU_rule_18 rfl 3 rfl ?_
      refine j_if_lt X (tgt := 28) rfl dU_rule_19 (by decide) hf (fun hf => ?_) (fun hf => ?_)
      · refine j_ldc X (v := -2147483648) wd_571 dU_rule_28 ?_
        cases hf
        exact j_iret X dU_rule_30 rfl rfl
      · refine j_iload_n X dU_rule_22 rfl 3 rfl ?_
        refine j_bipush X dU_rule_23 rfl ?_
        refine j_icmp_lt X (tgt := 31) rfl (w32_lit rfl) dU_rule_25 (by decide) hf (fun hf => ?_) (fun hf => ?_)
        · refine j_aload_n X dU_rule_31 rfl 0 rfl ?_
          refine j_geta X gf_U_10_0 dU_rule_32 ?_
          refine j_geta X gf_U_173_1 dU_rule_35 ?_
          refine j_iload_n X dU_rule_38 rfl 1 rfl ?_
          refine j_iload_n X dU_rule_39 rfl 2 rfl ?_
          refine j_iload_n X dU_rule_40 rfl 3 rfl ?_
          obtain ⟨x1, hzx1, hf⟩ := q_cl hf
          refine j_cv X (st := []) (cUL_value E F hzx1) gyUL_value gv_UL_value_45 rfl (by decide) (by decide) wd_776 rfl (Nat.le_of_ble_eq_true rfl) dU_rule_41 ?_
          show bz_J _ _ 44 _ _ _
          cases hf
          exact j_iret X dU_rule_44 rfl rfl
        · refine j_ldc X (v := -2147483648) wd_571 dU_rule_28 ?_
          cases hf
          exact j_iret X dU_rule_30 rfl rfl
def fUC_start (F : Nat) (M : bz_Mm) : Option (bz_Mm) :=
  cp_ M 2 54 4 fun m1 =>
  cp_ m1 2 55 4 fun m2 =>
  cl_ (fJA_fill1 F m2 58 32 0) fun m3 =>
  cl_ (fJA_fill1 F m3 59 16 0) fun m4 =>
  cl_ (fJA_fill1 F m4 60 4 0) fun m5 =>
  cl_ (fJA_fill1 F m5 61 8 0) fun m6 =>
  cl_ (fJA_fill1 F m6 62 3 1000) fun m7 =>
  wf_ m7 53 11 1 fun m8 =>
  wf_ m8 53 12 1 fun m9 =>
  wf_ m9 53 13 0 fun m10 =>
  wf_ m10 53 14 0 fun m11 =>
  wf_ m11 53 16 0 fun m12 =>
  wf_ m12 53 17 ((-1)) fun m13 =>
  some m13
set_option maxHeartbeats 4000000 in
set_option maxRecDepth 20000 in
theorem cUC_start (E : bz_E) (F : Nat)  {M : bz_Mm} {x0 : bz_Mm} (hf : fUC_start F M = some x0) : bz_Ct E yUC_start (.code yUC_start prog_5_method_6_code 2 none) 1 26 [bz_rf E 53, bz_rf E 1] M (none) x0 := by
  refine bz_met (by decide +kernel) (Nat.le_of_ble_eq_true rfl) (fun K X => ?_)
  have X : bz_X K E prog_5_method_6_code 2 "UnitsWrong$Course" none 1 26 _ _ := X
  unfold fUC_start at hf
  show bz_J K 2 0 [(0, bz_rf E 53), (1, bz_rf E 1)] [] M
  refine j_aload_n X dUC_start_0 rfl 1 rfl ?_
  refine j_geta X gf_UC_132_1 dUC_start_1 ?_
  refine j_iconst X dUC_start_4 ?_
  refine j_aload_n X dUC_start_5 rfl 0 rfl ?_
  refine j_geta X gf_UC_9_53 dUC_start_6 ?_
  refine j_iconst X dUC_start_9 ?_
  refine j_iconst X dUC_start_10 ?_
  show bz_J _ _ 11 _ _ _
  refine j_copyl X (n := 4) sh_2 sh_54 rfl rfl rfl (by decide) (by decide) (by decide) wd_794 wd_796 wd_795 wd_20 (by decide) (by decide) (Nat.le_of_ble_eq_true rfl) dUC_start_11 hf (fun m1 hf => ?_)
  refine j_aload_n X dUC_start_14 rfl 1 rfl ?_
  refine j_geta X gf_UC_132_1 dUC_start_15 ?_
  refine j_iconst X dUC_start_18 ?_
  refine j_aload_n X dUC_start_19 rfl 0 rfl ?_
  refine j_geta X gf_UC_15_53 dUC_start_20 ?_
  refine j_iconst X dUC_start_23 ?_
  refine j_iconst X dUC_start_24 ?_
  show bz_J _ _ 25 _ _ _
  refine j_copyl X (n := 4) sh_2 sh_55 rfl rfl rfl (by decide) (by decide) (by decide) wd_794 wd_796 wd_795 wd_20 (by decide) (by decide) (Nat.le_of_ble_eq_true rfl) dUC_start_25 hf (fun m2 hf => ?_)
  refine j_aload_n X dUC_start_28 rfl 0 rfl ?_
  refine j_geta X gf_UC_25_53 dUC_start_29 ?_
  refine j_iconst X dUC_start_32 ?_
  obtain ⟨m3, hz, hf⟩ := q_cl hf
  refine j_cs X (st := []) (cJA_fill1 E F sh_58 hz) gyJA_fill1 wd_209 rfl (by decide) (by decide) wd_797 rfl (Nat.le_of_ble_eq_true rfl) dUC_start_33 ?_
  clear hz
  refine j_aload_n X dUC_start_36 rfl 0 rfl ?_
  refine j_geta X gf_UC_28_53 dUC_start_37 ?_
  refine j_iconst X dUC_start_40 ?_
  show bz_J _ _ 41 _ _ _
  obtain ⟨m4, hz, hf⟩ := q_cl hf
  refine j_cs X (st := []) (cJA_fill1 E F sh_59 hz) gyJA_fill1 wd_209 rfl (by decide) (by decide) wd_797 rfl (Nat.le_of_ble_eq_true rfl) dUC_start_41 ?_
  clear hz
  refine j_aload_n X dUC_start_44 rfl 0 rfl ?_
  refine j_geta X gf_UC_31_53 dUC_start_45 ?_
  refine j_iconst X dUC_start_48 ?_
  obtain ⟨m5, hz, hf⟩ := q_cl hf
  refine j_cs X (st := []) (cJA_fill1 E F sh_60 hz) gyJA_fill1 wd_209 rfl (by decide) (by decide) wd_797 rfl (Nat.le_of_ble_eq_true rfl) dUC_start_49 ?_
  clear hz
  refine j_aload_n X dUC_start_52 rfl 0 rfl ?_
  refine j_geta X gf_UC_34_53 dUC_start_53 ?_
  refine j_iconst X dUC_start_56 ?_
  show bz_J _ _ 57 _ _ _
  obtain ⟨m6, hz, hf⟩ := q_cl hf
  refine j_cs X (st := []) (cJA_fill1 E F sh_61 hz) gyJA_fill1 wd_209 rfl (by decide) (by decide) wd_797 rfl (Nat.le_of_ble_eq_true rfl) dUC_start_57 ?_
  clear hz
  refine j_aload_n X dUC_start_60 rfl 0 rfl ?_
  refine j_geta X gf_UC_37_53 dUC_start_61 ?_
  refine j_sipush X dUC_start_64 rfl ?_
  obtain ⟨m7, hz, hf⟩ := q_cl hf
  refine j_cs X (st := []) (cJA_fill1 E F sh_62 hz) gyJA_fill1 wd_209 rfl (by decide) (by decide) wd_797 rfl (Nat.le_of_ble_eq_true rfl) dUC_start_67 ?_
  clear hz
  refine j_aload_n X dUC_start_70 rfl 0 rfl ?_
  refine j_iconst X dUC_start_71 ?_
  refine j_putz X pf_UC_147_53 (by decide +kernel) (by decide +kernel) dUC_start_72 hf (fun m8 hf => ?_)
  show bz_J _ _ 75 _ _ _
  refine j_aload_n X dUC_start_75 rfl 0 rfl ?_
  refine j_iconst X dUC_start_76 ?_
  refine j_putz X pf_UC_151_53 (by decide +kernel) (by decide +kernel) dUC_start_77 hf (fun m9 hf => ?_)
  refine j_aload_n X dUC_start_80 rfl 0 rfl ?_
  refine j_iconst X dUC_start_81 ?_
  refine j_puti X pf_UC_154_53 dUC_start_82 hf (fun m10 hf => ?_)
  refine j_aload_n X dUC_start_85 rfl 0 rfl ?_
  refine j_iconst X dUC_start_86 ?_
  show bz_J _ _ 87 _ _ _
  refine j_puti X pf_UC_157_53 dUC_start_87 hf (fun m11 hf => ?_)
  refine j_aload_n X dUC_start_90 rfl 0 rfl ?_
  refine j_iconst X dUC_start_91 ?_
  refine j_puti X pf_UC_160_53 dUC_start_92 hf (fun m12 hf => ?_)
  refine j_aload_n X dUC_start_95 rfl 0 rfl ?_
  refine j_iconst X dUC_start_96 ?_
  refine j_puti X pf_UC_46_53 dUC_start_97 hf (fun m13 hf => ?_)
  cases hf
  exact j_vret X dUC_start_100 rfl rfl
def gUS_lastOver (M : bz_Mm) (a1 : Int) : Option Int :=
  some (fJM_min0 a1 ((M 1 13) - 1))
def fUS_lastOver (M : bz_Mm) (a1 : Int) : Int :=
  (fJM_min0 a1 ((M 1 13) - 1))
theorem tUS_lastOver (M : bz_Mm) (a1 : Int) : gUS_lastOver M a1 = some (fUS_lastOver M a1) := by
  unfold gUS_lastOver fUS_lastOver
  (repeat' (first | rfl | split))
set_option maxHeartbeats 4000000 in
set_option maxRecDepth 20000 in
theorem cUS_lastOver (E : bz_E) {M : bz_Mm} {a1 : Int} : bz_Ct E yUS_lastOver (.code yUS_lastOver prog_9_method_10_code 2 (some .int)) 1 21 [bz_rf E 1, bz_i a1] M (some (bz_i (fUS_lastOver M a1))) M := by
  have hf := tUS_lastOver M a1
  refine bz_met (by decide +kernel) (Nat.le_of_ble_eq_true rfl) (fun K X => ?_)
  have X : bz_X K E prog_9_method_10_code 2 "UnitsWrong$State" (some .int) 1 21 _ _ := X
  unfold gUS_lastOver at hf
  generalize fUS_lastOver M a1 = rr at hf X
  show bz_J K 2 0 [(0, bz_rf E 1), (1, bz_i a1)] [] M
  refine j_iload_n X dUS_lastOver_0 rfl 1 rfl ?_
  refine j_aload_n X dUS_lastOver_1 rfl 0 rfl ?_
  refine j_geti X gf_US_97_1 dUS_lastOver_2 ?_
  refine j_iconst X dUS_lastOver_5 ?_
  refine j_isub X dUS_lastOver_6 ?_
  refine j_cs X (st := []) (cJM_min0 E) gyJM_min0 wd_665 rfl (by decide) (by decide) wd_802 rfl (Nat.le_of_ble_eq_true rfl) dUS_lastOver_7 ?_
  cases hf
  exact j_iret X dUS_lastOver_10 rfl rfl
def fUC_hear_8 (F : Nat) (M : bz_Mm) (a2 : Int) : Option (bz_Mm) :=
  rd_ M 13 a2 400 fun x1 =>
  rd_ M 14 a2 400 fun x2 =>
  rd_ M 12 a2 400 fun x3 =>
  if w32 x3 = 0 then
  (wa_ M 61 x1 8 x2 fun m4 =>
  some m4)
  else if w32 x3 = 1 then
  (wa_ M 62 x1 3 x2 fun m5 =>
  some m5)
  else if w32 x3 = 2 then
  (wa_ M 63 x1 8 x2 fun m6 =>
  wf_ m6 53 11 1 fun m7 =>
  some m7)
  else (wa_ M 64 x1 8 x2 fun m8 =>
  wf_ m8 53 12 1 fun m9 =>
  some m9)
set_option maxHeartbeats 4000000 in
set_option maxRecDepth 20000 in
theorem cUC_hear_8 (E : bz_E) (F : Nat)  {M : bz_Mm} {a2 : Int} {x0 : bz_Mm} (hf : fUC_hear_8 F M a2 = some x0) : bz_Ct E yUC_hear (.code yUC_hear prog_5_method_11_code 5 none) 0 0 [bz_rf E 53, bz_rf E 8, bz_i a2] M (none) x0 := by
  refine bz_met (by decide +kernel) (Nat.le_of_ble_eq_true rfl) (fun K X => ?_)
  have X : bz_X K E prog_5_method_11_code 5 "UnitsWrong$Course" none 0 0 _ _ := X
  unfold fUC_hear_8 at hf
  show bz_J K 5 0 [(0, bz_rf E 53), (1, bz_rf E 8), (2, bz_i a2)] [] M
  refine j_aload_n X dUC_hear_0 rfl 1 rfl ?_
  refine j_geta X gf_UC_225_8 dUC_hear_1 ?_
  refine j_iload_n X dUC_hear_4 rfl 2 rfl ?_
  refine j_iald X sh_13 dUC_hear_5 hf (fun x1 hf => ?_)
  refine j_istore_n X (lv' := [(3, bz_i x1), (0, bz_rf E 53), (1, bz_rf E 8), (2, bz_i a2)]) dUC_hear_6 rfl (by decide) rfl ?_
  refine j_aload_n X dUC_hear_7 rfl 2 rfl ?_
  refine j_geta X gf_UC_228_8 dUC_hear_8 ?_
  show bz_J _ _ 11 _ _ _
  refine j_iload_n X dUC_hear_11 rfl 3 rfl ?_
  refine j_iald X sh_14 dUC_hear_12 hf (fun x2 hf => ?_)
  refine j_istore X (lv' := [(4, bz_i x2), (3, bz_i x1), (0, bz_rf E 53), (1, bz_rf E 8), (2, bz_i a2)]) dUC_hear_13 (by decide) rfl ?_
  refine j_aload_n X dUC_hear_15 rfl 3 rfl ?_
  refine j_geta X gf_UC_231_8 dUC_hear_16 ?_
  refine j_iload_n X dUC_hear_19 rfl 4 rfl ?_
  refine j_iald X sh_12 dUC_hear_20 hf (fun x3 hf => ?_)
  rcases q_ite hf with ⟨hc0, hf⟩ | ⟨hc0, hf⟩
  · refine j_tabIn X (tgt := 48) (v := 0) hc0 dUC_hear_21 (by decide) (by decide) rfl (by decide) ?_
    refine j_aload_n X dUC_hear_48 rfl 2 rfl ?_
    refine j_geta X gf_UC_34_53 dUC_hear_49 ?_
    refine j_iload_n X dUC_hear_52 rfl 1 rfl ?_
    refine j_iload X dUC_hear_53 0 rfl ?_
    refine j_iast X sh_61 dUC_hear_55 hf (fun m4 hf => ?_)
    refine j_goto X (tgt := 99) dUC_hear_56 (by decide) ?_
    cases hf
    exact j_vret X dUC_hear_99 rfl rfl
  rcases q_ite hf with ⟨hc1, hf⟩ | ⟨hc1, hf⟩
  · refine j_tabIn X (tgt := 59) (v := 1) hc1 dUC_hear_21 (by decide) (by decide) rfl (by decide) ?_
    refine j_aload_n X dUC_hear_59 rfl 2 rfl ?_
    refine j_geta X gf_UC_37_53 dUC_hear_60 ?_
    refine j_iload_n X dUC_hear_63 rfl 1 rfl ?_
    refine j_iload X dUC_hear_64 0 rfl ?_
    refine j_iast X sh_62 dUC_hear_66 hf (fun m5 hf => ?_)
    refine j_goto X (tgt := 99) dUC_hear_67 (by decide) ?_
    cases hf
    exact j_vret X dUC_hear_99 rfl rfl
  rcases q_ite hf with ⟨hc2, hf⟩ | ⟨hc2, hf⟩
  · refine j_tabIn X (tgt := 70) (v := 2) hc2 dUC_hear_21 (by decide) (by decide) rfl (by decide) ?_
    refine j_aload_n X dUC_hear_70 rfl 2 rfl ?_
    refine j_geta X gf_UC_40_53 dUC_hear_71 ?_
    refine j_iload_n X dUC_hear_74 rfl 1 rfl ?_
    refine j_iload X dUC_hear_75 0 rfl ?_
    refine j_iast X sh_63 dUC_hear_77 hf (fun m6 hf => ?_)
    refine j_aload_n X dUC_hear_78 rfl 2 rfl ?_
    refine j_iconst X dUC_hear_79 ?_
    show bz_J _ _ 80 _ _ _
    refine j_putz X pf_UC_147_53 (by decide +kernel) (by decide +kernel) dUC_hear_80 hf (fun m7 hf => ?_)
    refine j_goto X (tgt := 99) dUC_hear_83 (by decide) ?_
    cases hf
    exact j_vret X dUC_hear_99 rfl rfl
  refine j_tabOut X (tgt := 86) (by omega) dUC_hear_21 (by decide) ?_
  refine j_aload_n X dUC_hear_86 rfl 2 rfl ?_
  refine j_geta X gf_UC_43_53 dUC_hear_87 ?_
  refine j_iload_n X dUC_hear_90 rfl 1 rfl ?_
  refine j_iload X dUC_hear_91 0 rfl ?_
  refine j_iast X sh_64 dUC_hear_93 hf (fun m8 hf => ?_)
  refine j_aload_n X dUC_hear_94 rfl 2 rfl ?_
  refine j_iconst X dUC_hear_95 ?_
  show bz_J _ _ 96 _ _ _
  refine j_putz X pf_UC_151_53 (by decide +kernel) (by decide +kernel) dUC_hear_96 hf (fun m9 hf => ?_)
  cases hf
  exact j_vret X dUC_hear_99 rfl rfl
def UC_learn_L55 (F : Nat) : Nat → Int → Int → bz_Mm → Option (bz_Mm)
  | 0, _, _, _ => none
  | n + 1, l2, l3, M =>
    if w32 (M 53 13) < w32 (M 9 2) then
    (rd_ M 11 (M 53 13) 400 fun x9 =>
    rd_ M 10 x9 400 fun x10 =>
    if w32 x10 = w32 l2 then
    (rd_ M 11 (M 53 13) 400 fun x11 =>
    rd_ M 15 x11 400 fun x12 =>
    cl1_ (if w32 l3 < w32 x12 then
    (some (M))
    else
    (cl_ (fUC_hear_8 F M x11) fun m14 =>
    some (m14))) fun m15 =>
    wf_ m15 53 13 ((m15 53 13) + 1) fun m16 =>
    UC_learn_L55 F n l2 l3 m16)
    else
    (some M))
    else
    (some M)
theorem lUC_learn_L55 (E : bz_E) (F : Nat) {K : bz_K} {rv : Option Value} {M1 : bz_Mm} (X : bz_X K E prog_5_method_9_code 7 "UnitsWrong$Course" none 1 24 rv M1) {l2 : Int} {l3 : Int} {res : (bz_Mm)}
    (kx : ∀ (M : bz_Mm), some M = some res → bz_J K 7 132 [] [] M) :
    ∀ (n : Nat) (M : bz_Mm), UC_learn_L55 F n l2 l3 M = some res → bz_J K 7 55 [(5, bz_rf E 9), (4, bz_rf E 8), (0, bz_rf E 53), (2, bz_i l2), (3, bz_i l3)] [] M := by
  intro n
  induction n with
  | zero => intro M hf; cases hf
  | succ n ih =>
    intro M hf
    rw [UC_learn_L55] at hf
    refine j_aload_n X dUC_learn_55 rfl 2 rfl ?_
    refine j_geti X gf_UC_154_53 dUC_learn_56 ?_
    refine j_aload X dUC_learn_59 0 rfl ?_
    refine j_geti X gf_UC_207_9 dUC_learn_61 ?_
    refine j_icmp_ge X (tgt := 132) rfl rfl dUC_learn_64 (by decide) hf (fun hf => ?_) (fun hf => ?_)
    · exact j_sub [] rfl (kx _ hf)
    · refine j_aload X dUC_learn_67 0 rfl ?_
      refine j_geta X gf_UC_212_9 dUC_learn_69 ?_
      refine j_aload X dUC_learn_72 0 rfl ?_
      refine j_geta X gf_UC_215_9 dUC_learn_74 ?_
      refine j_aload_n X dUC_learn_77 rfl 2 rfl ?_
      refine j_geti X gf_UC_154_53 dUC_learn_78 ?_
      refine j_iald X sh_11 dUC_learn_81 hf (fun x9 hf => ?_)
      show bz_J _ _ 82 _ _ _
      refine j_iald X sh_10 dUC_learn_82 hf (fun x10 hf => ?_)
      refine j_iload_n X dUC_learn_83 rfl 3 rfl ?_
      refine j_icmp_ne X (tgt := 132) rfl rfl dUC_learn_84 (by decide) hf (fun hf => ?_) (fun hf => ?_)
      · exact j_sub [] rfl (kx _ hf)
      · refine j_aload X dUC_learn_87 0 rfl ?_
        refine j_geta X gf_UC_215_9 dUC_learn_89 ?_
        refine j_aload_n X dUC_learn_92 rfl 2 rfl ?_
        refine j_geti X gf_UC_154_53 dUC_learn_93 ?_
        refine j_iald X sh_11 dUC_learn_96 hf (fun x11 hf => ?_)
        refine j_istore X (lv' := [(6, bz_i x11), (5, bz_rf E 9), (4, bz_rf E 8), (0, bz_rf E 53), (2, bz_i l2), (3, bz_i l3)]) dUC_learn_97 (by decide) rfl ?_
        refine j_aload X dUC_learn_99 2 rfl ?_
        show bz_J _ _ 101 _ _ _
        refine j_geta X gf_UC_218_8 dUC_learn_101 ?_
        refine j_iload X dUC_learn_104 0 rfl ?_
        refine j_iald X sh_15 dUC_learn_106 hf (fun x12 hf => ?_)
        refine j_iload_n X dUC_learn_107 rfl 5 rfl ?_
        obtain ⟨resJ13, hf0, hkJ13⟩ := q_l1 hf
        have J13 : ∀ (m15 : bz_Mm), some m15 = some resJ13 → bz_J K 7 119 [(5, bz_rf E 9), (4, bz_rf E 8), (0, bz_rf E 53), (2, bz_i l2), (3, bz_i l3)] [] m15 := by
          intro m15 he
          have hf := hkJ13 _ he
          refine j_aload_n X dUC_learn_119 rfl 2 rfl ?_
          refine j_dup X dUC_learn_120 rfl ?_
          refine j_geti X gf_UC_154_53 dUC_learn_121 ?_
          refine j_iconst X dUC_learn_124 ?_
          refine j_iadd X dUC_learn_125 ?_
          refine j_puti X pf_UC_154_53 dUC_learn_126 hf (fun m16 hf => ?_)
          refine j_goto X (tgt := 55) dUC_learn_129 (by decide) ?_
          exact ih _ hf
        clear hf
        have hf := hf0
        clear hf0
        refine j_icmp_gt X (tgt := 119) rfl rfl dUC_learn_108 (by decide) hf (fun hf => ?_) (fun hf => ?_)
        · exact j_sub [1, 2, 3, 4, 5] rfl (J13 _ hf)
        · refine j_aload_n X dUC_learn_111 rfl 3 rfl ?_
          refine j_aload X dUC_learn_112 2 rfl ?_
          refine j_iload X dUC_learn_114 0 rfl ?_
          obtain ⟨m14, hz, hf⟩ := q_cl hf
          refine j_cv X (st := []) (cUC_hear_8 E F hz) gyUC_hear gv_UC_hear_53 rfl (by decide) (by decide) wd_815 rfl (Nat.le_of_ble_eq_true rfl) dUC_learn_116 ?_
          clear hz
          exact j_sub [1, 2, 3, 4, 5] rfl (J13 _ hf)
def fUC_learn (F : Nat) (M : bz_Mm) (a2 : Int) (a3 : Int) : Option (bz_Mm) :=
  cl1_ (if w32 (M 53 11) = 0 then
  (some (M))
  else
  (cl_ (fJA_fill1 F M 63 8 0) fun m2 =>
  some (m2))) fun m3 =>
  cl1_ (if w32 (m3 53 12) = 0 then
  (some (m3))
  else
  (cl_ (fJA_fill1 F m3 64 8 1000) fun m5 =>
  some (m5))) fun m6 =>
  wf_ m6 53 11 0 fun m7 =>
  wf_ m7 53 12 0 fun m8 =>
  cl1_ (UC_learn_L55 F F a2 a3 m8) fun m17 =>
  some m17
set_option maxHeartbeats 4000000 in
set_option maxRecDepth 20000 in
theorem cUC_learn (E : bz_E) (F : Nat)  {M : bz_Mm} {a2 : Int} {a3 : Int} {x0 : bz_Mm} (hf : fUC_learn F M a2 a3 = some x0) : bz_Ct E yUC_learn (.code yUC_learn prog_5_method_9_code 7 none) 1 24 [bz_rf E 53, bz_rf E 1, bz_i a2, bz_i a3] M (none) x0 := by
  refine bz_met (by decide +kernel) (Nat.le_of_ble_eq_true rfl) (fun K X => ?_)
  have X : bz_X K E prog_5_method_9_code 7 "UnitsWrong$Course" none 1 24 _ _ := X
  unfold fUC_learn at hf
  show bz_J K 7 0 [(0, bz_rf E 53), (1, bz_rf E 1), (2, bz_i a2), (3, bz_i a3)] [] M
  refine j_aload_n X dUC_learn_0 rfl 0 rfl ?_
  refine j_getz X gf_UC_147_53 dUC_learn_1 ?_
  obtain ⟨resJ1, hf0, hkJ1⟩ := q_l1 hf
  have J1 : ∀ (m3 : bz_Mm), some m3 = some resJ1 → bz_J K 7 15 [(0, bz_rf E 53), (1, bz_rf E 1), (2, bz_i a2), (3, bz_i a3)] [] m3 := by
    intro m3 he
    have hf := hkJ1 _ he
    refine j_aload_n X dUC_learn_15 rfl 0 rfl ?_
    refine j_getz X gf_UC_151_53 dUC_learn_16 ?_
    obtain ⟨resJ4, hf0, hkJ4⟩ := q_l1 hf
    have J4 : ∀ (m6 : bz_Mm), some m6 = some resJ4 → bz_J K 7 32 [(0, bz_rf E 53), (1, bz_rf E 1), (2, bz_i a2), (3, bz_i a3)] [] m6 := by
      intro m6 he
      have hf := hkJ4 _ he
      refine j_aload_n X dUC_learn_32 rfl 0 rfl ?_
      refine j_iconst X dUC_learn_33 ?_
      refine j_putz X pf_UC_147_53 (by decide +kernel) (by decide +kernel) dUC_learn_34 hf (fun m7 hf => ?_)
      refine j_aload_n X dUC_learn_37 rfl 0 rfl ?_
      refine j_iconst X dUC_learn_38 ?_
      refine j_putz X pf_UC_151_53 (by decide +kernel) (by decide +kernel) dUC_learn_39 hf (fun m8 hf => ?_)
      refine j_aload_n X dUC_learn_42 rfl 1 rfl ?_
      show bz_J _ _ 43 _ _ _
      refine j_geta X gf_UC_201_1 dUC_learn_43 ?_
      refine j_astore X (lv' := [(4, bz_rf E 8), (0, bz_rf E 53), (1, bz_rf E 1), (2, bz_i a2), (3, bz_i a3)]) dUC_learn_46 (by decide) rfl ?_
      refine j_aload X dUC_learn_48 0 rfl ?_
      refine j_geta X gf_UC_204_8 dUC_learn_50 ?_
      refine j_astore X (lv' := [(5, bz_rf E 9), (4, bz_rf E 8), (0, bz_rf E 53), (1, bz_rf E 1), (2, bz_i a2), (3, bz_i a3)]) dUC_learn_53 (by decide) rfl ?_
      obtain ⟨res18, hz18, hk18⟩ := q_l1 hf
      clear hf
      refine j_sub [0, 1, 2, 4, 5] rfl ?_
      refine lUC_learn_L55 E F X (fun m17 he => ?_) F m8 hz18
      have hf := hk18 _ he
      cases hf
      exact j_vret X dUC_learn_132 rfl rfl
    clear hf
    have hf := hf0
    clear hf0
    refine j_if_eq X (tgt := 32) rfl dUC_learn_19 (by decide) hf (fun hf => ?_) (fun hf => ?_)
    · exact J4 _ hf
    · refine j_aload_n X dUC_learn_22 rfl 0 rfl ?_
      refine j_geta X gf_UC_43_53 dUC_learn_23 ?_
      refine j_sipush X dUC_learn_26 rfl ?_
      obtain ⟨m5, hz, hf⟩ := q_cl hf
      refine j_cs X (st := []) (cJA_fill1 E F sh_64 hz) gyJA_fill1 wd_209 rfl (by decide) (by decide) wd_797 rfl (Nat.le_of_ble_eq_true rfl) dUC_learn_29 ?_
      clear hz
      exact J4 _ hf
  clear hf
  have hf := hf0
  clear hf0
  refine j_if_eq X (tgt := 15) rfl dUC_learn_4 (by decide) hf (fun hf => ?_) (fun hf => ?_)
  · exact J1 _ hf
  · refine j_aload_n X dUC_learn_7 rfl 0 rfl ?_
    refine j_geta X gf_UC_40_53 dUC_learn_8 ?_
    refine j_iconst X dUC_learn_11 ?_
    obtain ⟨m2, hz, hf⟩ := q_cl hf
    refine j_cs X (st := []) (cJA_fill1 E F sh_63 hz) gyJA_fill1 wd_209 rfl (by decide) (by decide) wd_797 rfl (Nat.le_of_ble_eq_true rfl) dUC_learn_12 ?_
    clear hz
    exact J1 _ hf
def fUC_hear_16 (F : Nat) (M : bz_Mm) (a2 : Int) : Option (bz_Mm) :=
  rd_ M 21 a2 7 fun x1 =>
  rd_ M 22 a2 7 fun x2 =>
  rd_ M 20 a2 7 fun x3 =>
  if w32 x3 = 0 then
  (wa_ M 61 x1 8 x2 fun m4 =>
  some m4)
  else if w32 x3 = 1 then
  (wa_ M 62 x1 3 x2 fun m5 =>
  some m5)
  else if w32 x3 = 2 then
  (wa_ M 63 x1 8 x2 fun m6 =>
  wf_ m6 53 11 1 fun m7 =>
  some m7)
  else (wa_ M 64 x1 8 x2 fun m8 =>
  wf_ m8 53 12 1 fun m9 =>
  some m9)
set_option maxHeartbeats 4000000 in
set_option maxRecDepth 20000 in
theorem cUC_hear_16 (E : bz_E) (F : Nat)  {M : bz_Mm} {a2 : Int} {x0 : bz_Mm} (hf : fUC_hear_16 F M a2 = some x0) : bz_Ct E yUC_hear (.code yUC_hear prog_5_method_11_code 5 none) 0 0 [bz_rf E 53, bz_rf E 16, bz_i a2] M (none) x0 := by
  refine bz_met (by decide +kernel) (Nat.le_of_ble_eq_true rfl) (fun K X => ?_)
  have X : bz_X K E prog_5_method_11_code 5 "UnitsWrong$Course" none 0 0 _ _ := X
  unfold fUC_hear_16 at hf
  show bz_J K 5 0 [(0, bz_rf E 53), (1, bz_rf E 16), (2, bz_i a2)] [] M
  refine j_aload_n X dUC_hear_0 rfl 1 rfl ?_
  refine j_geta X gf_UC_225_16 dUC_hear_1 ?_
  refine j_iload_n X dUC_hear_4 rfl 2 rfl ?_
  refine j_iald X sh_21 dUC_hear_5 hf (fun x1 hf => ?_)
  refine j_istore_n X (lv' := [(3, bz_i x1), (0, bz_rf E 53), (1, bz_rf E 16), (2, bz_i a2)]) dUC_hear_6 rfl (by decide) rfl ?_
  refine j_aload_n X dUC_hear_7 rfl 2 rfl ?_
  refine j_geta X gf_UC_228_16 dUC_hear_8 ?_
  show bz_J _ _ 11 _ _ _
  refine j_iload_n X dUC_hear_11 rfl 3 rfl ?_
  refine j_iald X sh_22 dUC_hear_12 hf (fun x2 hf => ?_)
  refine j_istore X (lv' := [(4, bz_i x2), (3, bz_i x1), (0, bz_rf E 53), (1, bz_rf E 16), (2, bz_i a2)]) dUC_hear_13 (by decide) rfl ?_
  refine j_aload_n X dUC_hear_15 rfl 3 rfl ?_
  refine j_geta X gf_UC_231_16 dUC_hear_16 ?_
  refine j_iload_n X dUC_hear_19 rfl 4 rfl ?_
  refine j_iald X sh_20 dUC_hear_20 hf (fun x3 hf => ?_)
  rcases q_ite hf with ⟨hc0, hf⟩ | ⟨hc0, hf⟩
  · refine j_tabIn X (tgt := 48) (v := 0) hc0 dUC_hear_21 (by decide) (by decide) rfl (by decide) ?_
    refine j_aload_n X dUC_hear_48 rfl 2 rfl ?_
    refine j_geta X gf_UC_34_53 dUC_hear_49 ?_
    refine j_iload_n X dUC_hear_52 rfl 1 rfl ?_
    refine j_iload X dUC_hear_53 0 rfl ?_
    refine j_iast X sh_61 dUC_hear_55 hf (fun m4 hf => ?_)
    refine j_goto X (tgt := 99) dUC_hear_56 (by decide) ?_
    cases hf
    exact j_vret X dUC_hear_99 rfl rfl
  rcases q_ite hf with ⟨hc1, hf⟩ | ⟨hc1, hf⟩
  · refine j_tabIn X (tgt := 59) (v := 1) hc1 dUC_hear_21 (by decide) (by decide) rfl (by decide) ?_
    refine j_aload_n X dUC_hear_59 rfl 2 rfl ?_
    refine j_geta X gf_UC_37_53 dUC_hear_60 ?_
    refine j_iload_n X dUC_hear_63 rfl 1 rfl ?_
    refine j_iload X dUC_hear_64 0 rfl ?_
    refine j_iast X sh_62 dUC_hear_66 hf (fun m5 hf => ?_)
    refine j_goto X (tgt := 99) dUC_hear_67 (by decide) ?_
    cases hf
    exact j_vret X dUC_hear_99 rfl rfl
  rcases q_ite hf with ⟨hc2, hf⟩ | ⟨hc2, hf⟩
  · refine j_tabIn X (tgt := 70) (v := 2) hc2 dUC_hear_21 (by decide) (by decide) rfl (by decide) ?_
    refine j_aload_n X dUC_hear_70 rfl 2 rfl ?_
    refine j_geta X gf_UC_40_53 dUC_hear_71 ?_
    refine j_iload_n X dUC_hear_74 rfl 1 rfl ?_
    refine j_iload X dUC_hear_75 0 rfl ?_
    refine j_iast X sh_63 dUC_hear_77 hf (fun m6 hf => ?_)
    refine j_aload_n X dUC_hear_78 rfl 2 rfl ?_
    refine j_iconst X dUC_hear_79 ?_
    show bz_J _ _ 80 _ _ _
    refine j_putz X pf_UC_147_53 (by decide +kernel) (by decide +kernel) dUC_hear_80 hf (fun m7 hf => ?_)
    refine j_goto X (tgt := 99) dUC_hear_83 (by decide) ?_
    cases hf
    exact j_vret X dUC_hear_99 rfl rfl
  refine j_tabOut X (tgt := 86) (by omega) dUC_hear_21 (by decide) ?_
  refine j_aload_n X dUC_hear_86 rfl 2 rfl ?_
  refine j_geta X gf_UC_43_53 dUC_hear_87 ?_
  refine j_iload_n X dUC_hear_90 rfl 1 rfl ?_
  refine j_iload X dUC_hear_91 0 rfl ?_
  refine j_iast X sh_64 dUC_hear_93 hf (fun m8 hf => ?_)
  refine j_aload_n X dUC_hear_94 rfl 2 rfl ?_
  refine j_iconst X dUC_hear_95 ?_
  show bz_J _ _ 96 _ _ _
  refine j_putz X pf_UC_151_53 (by decide +kernel) (by decide +kernel) dUC_hear_96 hf (fun m9 hf => ?_)
  cases hf
  exact j_vret X dUC_hear_99 rfl rfl
def UC_suspectOn_16_L3 (F : Nat) : Nat → Int → Int → Int → bz_Mm → Option (bz_Mm)
  | 0, _, _, _, _ => none
  | n + 1, l2, l3, l4, M =>
    if w32 l4 < w32 (M 17 2) then
    (if w32 (ia_ (sr_ l3 l4) 1) = 0 then
    (UC_suspectOn_16_L3 F n l2 l3 (l4 + 1) M)
    else
    (rd_ M 18 l4 7 fun x1 =>
    if w32 x1 = w32 l2 then
    (cl_ (fUC_hear_16 F M l4) fun m2 =>
    UC_suspectOn_16_L3 F n l2 l3 (l4 + 1) m2)
    else
    (UC_suspectOn_16_L3 F n l2 l3 (l4 + 1) M)))
    else
    (some M)
theorem lUC_suspectOn_16_L3 (E : bz_E) (F : Nat) {K : bz_K} {rv : Option Value} {M1 : bz_Mm} (X : bz_X K E prog_5_method_10_code 5 "UnitsWrong$Course" none 1 24 rv M1) {l2 : Int} {l3 : Int} {res : (bz_Mm)}
    (kx : ∀ (M : bz_Mm), some M = some res → bz_J K 5 51 [] [] M) :
    ∀ (n : Nat) (l4 : Int) (M : bz_Mm), UC_suspectOn_16_L3 F n l2 l3 l4 M = some res → bz_J K 5 3 [(4, bz_i l4), (0, bz_rf E 53), (1, bz_rf E 16), (2, bz_i l2), (3, bz_i l3)] [] M := by
  intro n
  induction n with
  | zero => intro l4 M hf; cases hf
  | succ n ih =>
    intro l4 M hf
    rw [UC_suspectOn_16_L3] at hf
    refine j_iload X dUC_suspectOn_3 0 rfl ?_
    refine j_aload_n X dUC_suspectOn_5 rfl 2 rfl ?_
    refine j_geta X gf_UC_204_16 dUC_suspectOn_6 ?_
    refine j_geti X gf_UC_207_17 dUC_suspectOn_9 ?_
    refine j_icmp_ge X (tgt := 51) rfl rfl dUC_suspectOn_12 (by decide) hf (fun hf => ?_) (fun hf => ?_)
    · exact j_sub [] rfl (kx _ hf)
    · refine j_iload_n X dUC_suspectOn_15 rfl 4 rfl ?_
      refine j_iload X dUC_suspectOn_16 0 rfl ?_
      refine j_ishr X dUC_suspectOn_18 ?_
      refine j_iconst X dUC_suspectOn_19 ?_
      refine j_iand X dUC_suspectOn_20 ?_
      refine j_if_eq X (tgt := 45) rfl dUC_suspectOn_21 (by decide) hf (fun hf => ?_) (fun hf => ?_)
      · refine j_iinc X (y := l4 + 1) (lv' := [(4, bz_i (l4 + 1)), (0, bz_rf E 53), (1, bz_rf E 16), (2, bz_i l2), (3, bz_i l3)]) dUC_suspectOn_45 0 rfl rfl (by decide) rfl ?_
        refine j_goto X (tgt := 3) dUC_suspectOn_48 (by decide) ?_
        exact ih _ _ hf
      · refine j_aload_n X dUC_suspectOn_24 rfl 2 rfl ?_
        refine j_geta X gf_UC_204_16 dUC_suspectOn_25 ?_
        refine j_geta X gf_UC_212_17 dUC_suspectOn_28 ?_
        refine j_iload X dUC_suspectOn_31 0 rfl ?_
        refine j_iald X sh_18 dUC_suspectOn_33 hf (fun x1 hf => ?_)
        refine j_iload_n X dUC_suspectOn_34 rfl 3 rfl ?_
        refine j_icmp_ne X (tgt := 45) rfl rfl dUC_suspectOn_35 (by decide) hf (fun hf => ?_) (fun hf => ?_)
        · refine j_iinc X (y := l4 + 1) (lv' := [(4, bz_i (l4 + 1)), (0, bz_rf E 53), (1, bz_rf E 16), (2, bz_i l2), (3, bz_i l3)]) dUC_suspectOn_45 0 rfl rfl (by decide) rfl ?_
          refine j_goto X (tgt := 3) dUC_suspectOn_48 (by decide) ?_
          exact ih _ _ hf
        · refine j_aload_n X dUC_suspectOn_38 rfl 1 rfl ?_
          refine j_aload_n X dUC_suspectOn_39 rfl 2 rfl ?_
          refine j_iload X dUC_suspectOn_40 0 rfl ?_
          obtain ⟨m2, hz, hf⟩ := q_cl hf
          refine j_cv X (st := []) (cUC_hear_16 E F hz) gyUC_hear gv_UC_hear_53 rfl (by decide) (by decide) wd_815 rfl (Nat.le_of_ble_eq_true rfl) dUC_suspectOn_42 ?_
          clear hz
          refine j_iinc X (y := l4 + 1) (lv' := [(4, bz_i (l4 + 1)), (0, bz_rf E 53), (1, bz_rf E 16), (2, bz_i l2), (3, bz_i l3)]) dUC_suspectOn_45 0 rfl rfl (by decide) rfl ?_
          refine j_goto X (tgt := 3) dUC_suspectOn_48 (by decide) ?_
          exact ih _ _ hf
def fUC_suspectOn_16 (F : Nat) (M : bz_Mm) (a2 : Int) (a3 : Int) : Option (bz_Mm) :=
  cl1_ (UC_suspectOn_16_L3 F F a2 a3 0 M) fun m3 =>
  some m3
set_option maxHeartbeats 4000000 in
set_option maxRecDepth 20000 in
theorem cUC_suspectOn_16 (E : bz_E) (F : Nat)  {M : bz_Mm} {a2 : Int} {a3 : Int} {x0 : bz_Mm} (hf : fUC_suspectOn_16 F M a2 a3 = some x0) : bz_Ct E yUC_suspectOn (.code yUC_suspectOn prog_5_method_10_code 5 none) 1 24 [bz_rf E 53, bz_rf E 16, bz_i a2, bz_i a3] M (none) x0 := by
  refine bz_met (by decide +kernel) (Nat.le_of_ble_eq_true rfl) (fun K X => ?_)
  have X : bz_X K E prog_5_method_10_code 5 "UnitsWrong$Course" none 1 24 _ _ := X
  unfold fUC_suspectOn_16 at hf
  show bz_J K 5 0 [(0, bz_rf E 53), (1, bz_rf E 16), (2, bz_i a2), (3, bz_i a3)] [] M
  refine j_iconst X dUC_suspectOn_0 ?_
  refine j_istore X (lv' := [(4, bz_i 0), (0, bz_rf E 53), (1, bz_rf E 16), (2, bz_i a2), (3, bz_i a3)]) dUC_suspectOn_1 (by decide) rfl ?_
  obtain ⟨res4, hz4, hk4⟩ := q_l1 hf
  clear hf
  refine lUC_suspectOn_16_L3 E F X (fun m3 he => ?_) F 0 M hz4
  have hf := hk4 _ he
  cases hf
  exact j_vret X dUC_suspectOn_51 rfl rfl
def gJM_min1 (a0 : Int) (a1 : Int) : Option Int :=
  if w64 a1 < w64 a0 then
  (some a1)
  else
  (some a0)
def fJM_min1 (a0 : Int) (a1 : Int) : Int :=
  if w64 a1 < w64 a0 then
  (a1)
  else
  (a0)
theorem tJM_min1 (a0 : Int) (a1 : Int) : gJM_min1 a0 a1 = some (fJM_min1 a0 a1) := by
  unfold gJM_min1 fJM_min1
  (repeat' (first | rfl | split))
set_option maxHeartbeats 4000000 in
set_option maxRecDepth 20000 in
theorem cJM_min1 (E : bz_E) {M : bz_Mm} {a0 : Int} {a1 : Int} : bz_Ct E yJM_min1 (.code yJM_min1 prog_16_method_70_code 4 (some .long)) 0 0 [bz_l a0, bz_l a1] M (some (bz_l (fJM_min1 a0 a1))) M := by
  have hf := tJM_min1 a0 a1
  refine bz_metF (by decide +kernel) (Nat.le_of_ble_eq_true rfl) (fun K X => ?_)
  have X : bz_X K E prog_16_method_70_code 4 "java/lang/Math" (some .long) 0 0 _ _ := X
  unfold gJM_min1 at hf
  generalize fJM_min1 a0 a1 = rr at hf X
  show bz_J K 4 0 [(0, bz_l a0), (2, bz_l a1)] [] M
  refine j_lload_n X dJM_min1_0 rfl 0 rfl ?_
  refine j_lload_n X dJM_min1_1 rfl 1 rfl ?_
  refine j_lcmp_gt X (tgt := 10) rfl rfl dJM_min1_2 dJM_min1_3 (by decide) hf (fun hf => ?_) (fun hf => ?_)
  · refine j_lload_n X dJM_min1_10 rfl 1 rfl ?_
    cases hf
    exact j_lret X dJM_min1_11 rfl rfl
  · refine j_lload_n X dJM_min1_6 rfl 0 rfl ?_
    refine j_goto X (tgt := 11) dJM_min1_7 (by decide) ?_
    cases hf
    exact j_lret X dJM_min1_11 rfl rfl
def gJM_max1 (a0 : Int) (a1 : Int) : Option Int :=
  if w64 a0 < w64 a1 then
  (some a1)
  else
  (some a0)
def fJM_max1 (a0 : Int) (a1 : Int) : Int :=
  if w64 a0 < w64 a1 then
  (a1)
  else
  (a0)
theorem tJM_max1 (a0 : Int) (a1 : Int) : gJM_max1 a0 a1 = some (fJM_max1 a0 a1) := by
  unfold gJM_max1 fJM_max1
  (repeat' (first | rfl | split))
set_option maxHeartbeats 4000000 in
set_option maxRecDepth 20000 in
theorem cJM_max1 (E : bz_E) {M : bz_Mm} {a0 : Int} {a1 : Int} : bz_Ct E yJM_max1 (.code yJM_max1 prog_16_method_66_code 4 (some .long)) 0 0 [bz_l a0, bz_l a1] M (some (bz_l (fJM_max1 a0 a1))) M := by
  have hf := tJM_max1 a0 a1
  refine bz_metF (by decide +kernel) (Nat.le_of_ble_eq_true rfl) (fun K X => ?_)
  have X : bz_X K E prog_16_method_66_code 4 "java/lang/Math" (some .long) 0 0 _ _ := X
  unfold gJM_max1 at hf
  generalize fJM_max1 a0 a1 = rr at hf X
  show bz_J K 4 0 [(0, bz_l a0), (2, bz_l a1)] [] M
  refine j_lload_n X dJM_max1_0 rfl 0 rfl ?_
  refine j_lload_n X dJM_max1_1 rfl 1 rfl ?_
  refine j_lcmp_lt X (tgt := 10) rfl rfl dJM_max1_2 dJM_max1_3 (by decide) hf (fun hf => ?_) (fun hf => ?_)
  · refine j_lload_n X dJM_max1_10 rfl 1 rfl ?_
    cases hf
    exact j_lret X dJM_max1_11 rfl rfl
  · refine j_lload_n X dJM_max1_6 rfl 0 rfl ?_
    refine j_goto X (tgt := 11) dJM_max1_7 (by decide) ?_
    cases hf
    exact j_lret X dJM_max1_11 rfl rfl
def gUC_bounded (a0 : Int) : Option Int :=
  some (fJM_max1 ((-1000000)) (fJM_min1 1000000 a0))
def fUC_bounded (a0 : Int) : Int :=
  (fJM_max1 ((-1000000)) (fJM_min1 1000000 a0))
theorem tUC_bounded (a0 : Int) : gUC_bounded a0 = some (fUC_bounded a0) := by
  unfold gUC_bounded fUC_bounded
  (repeat' (first | rfl | split))
set_option maxHeartbeats 4000000 in
set_option maxRecDepth 20000 in
theorem cUC_bounded (E : bz_E) {M : bz_Mm} {a0 : Int} : bz_Ct E yUC_bounded (.code yUC_bounded prog_5_method_15_code 2 (some .int)) 1 23 [bz_l a0] M (some (bz_i (fUC_bounded a0))) M := by
  have hf := tUC_bounded a0
  refine bz_met (by decide +kernel) (Nat.le_of_ble_eq_true rfl) (fun K X => ?_)
  have X : bz_X K E prog_5_method_15_code 2 "UnitsWrong$Course" (some .int) 1 23 _ _ := X
  unfold gUC_bounded at hf
  generalize fUC_bounded a0 = rr at hf X
  show bz_J K 2 0 [(0, bz_l a0)] [] M
  refine j_ldc2 X (v := -1000000) wd_831 dUC_bounded_0 ?_
  refine j_ldc2 X (v := 1000000) wd_832 dUC_bounded_3 ?_
  refine j_lload_n X dUC_bounded_6 rfl 0 rfl ?_
  refine j_cs X (st := [bz_l ((-1000000))]) (cJM_min1 E) gyJM_min1 wd_834 rfl (by decide) (by decide) wd_833 rfl (Nat.le_of_ble_eq_true rfl) dUC_bounded_7 ?_
  refine j_cs X (st := []) (cJM_max1 E) gyJM_max1 wd_837 rfl (by decide) (by decide) wd_836 rfl (Nat.le_of_ble_eq_true rfl) dUC_bounded_10 ?_
  refine j_l2i X dUC_bounded_13 ?_
  cases hf
  exact j_iret X dUC_bounded_14 rfl rfl
def UC_splitPieces_L9 (F : Nat) : Nat → Int → Int → Int → bz_Mm → Option (bz_Mm)
  | 0, _, _, _, _ => none
  | n + 1, l2, l1, l3, M =>
    if w32 l3 < 8 then
    (lt_ ((l2 * 8) + l3) fun l4 =>
    rd_ M 58 l4 32 fun x1 =>
    rd_ M 64 l3 8 fun x2 =>
    wa_ M 58 l4 32 (fUC_bounded ((w64 ((w32 x1) * (w32 x2))).tdiv 1000)) fun m3 =>
    UC_splitPieces_L9 F n l2 l1 (l3 + 1) m3)
    else
    (some M)
def UC_splitPieces_L2 (F : Nat) : Nat → Int → Int → bz_Mm → Option (bz_Mm)
  | 0, _, _, _ => none
  | n + 1, l1, l2, M =>
    if w32 l2 < w32 l1 then
    (cl1_ (UC_splitPieces_L9 F F l2 l1 0 M) fun m4 =>
    UC_splitPieces_L2 F n l1 (l2 + 1) m4)
    else
    (some M)
theorem lUC_splitPieces_L9 (E : bz_E) (F : Nat) {K : bz_K} {rv : Option Value} {M1 : bz_Mm} (X : bz_X K E prog_5_method_12_code 5 "UnitsWrong$Course" none 2 44 rv M1) {l2 : Int} {l1 : Int} {res : (bz_Mm)}
    (kx : ∀ (M : bz_Mm), some M = some res → bz_J K 5 59 [(2, bz_i l2), (0, bz_rf E 53), (1, bz_i l1)] [] M) :
    ∀ (n : Nat) (l3 : Int) (M : bz_Mm), UC_splitPieces_L9 F n l2 l1 l3 M = some res → bz_J K 5 9 [(3, bz_i l3), (2, bz_i l2), (0, bz_rf E 53), (1, bz_i l1)] [] M := by
  intro n
  induction n with
  | zero => intro l3 M hf; cases hf
  | succ n ih =>
    intro l3 M hf
    rw [UC_splitPieces_L9] at hf
    refine j_iload_n X dUC_splitPieces_9 rfl 0 rfl ?_
    refine j_bipush X dUC_splitPieces_10 rfl ?_
    refine j_icmp_ge X (tgt := 59) rfl (w32_lit rfl) dUC_splitPieces_12 (by decide) hf (fun hf => ?_) (fun hf => ?_)
    · exact j_sub [1, 2, 3] rfl (kx _ hf)
    · refine j_iload_n X dUC_splitPieces_15 rfl 1 rfl ?_
      refine j_bipush X dUC_splitPieces_16 rfl ?_
      refine j_imul X dUC_splitPieces_18 ?_
      refine j_iload_n X dUC_splitPieces_19 rfl 0 rfl ?_
      refine j_iadd X dUC_splitPieces_20 ?_
      refine j_lt (g := bz_i) hf (fun l4 hf => ?_)
      refine j_istore X (lv' := [(4, bz_i l4), (3, bz_i l3), (2, bz_i l2), (0, bz_rf E 53), (1, bz_i l1)]) dUC_splitPieces_21 (by decide) rfl ?_
      refine j_aload_n X dUC_splitPieces_23 rfl 3 rfl ?_
      show bz_J _ _ 24 _ _ _
      refine j_geta X gf_UC_25_53 dUC_splitPieces_24 ?_
      refine j_iload X dUC_splitPieces_27 0 rfl ?_
      refine j_aload_n X dUC_splitPieces_29 rfl 3 rfl ?_
      refine j_geta X gf_UC_25_53 dUC_splitPieces_30 ?_
      refine j_iload X dUC_splitPieces_33 0 rfl ?_
      refine j_iald X sh_58 dUC_splitPieces_35 hf (fun x1 hf => ?_)
      refine j_i2l X rfl dUC_splitPieces_36 ?_
      refine j_aload_n X dUC_splitPieces_37 rfl 3 rfl ?_
      show bz_J _ _ 38 _ _ _
      refine j_geta X gf_UC_43_53 dUC_splitPieces_38 ?_
      refine j_iload_n X dUC_splitPieces_41 rfl 1 rfl ?_
      refine j_iald X sh_64 dUC_splitPieces_42 hf (fun x2 hf => ?_)
      refine j_i2l X rfl dUC_splitPieces_43 ?_
      refine j_lmul X dUC_splitPieces_44 ?_
      refine j_ldc2 X (v := 1000) wd_827 dUC_splitPieces_45 ?_
      refine j_ldl X (w64_lit rfl) (by decide) dUC_splitPieces_48 ?_
      refine j_cs X (st := [bz_i l4, bz_rf E 58]) (cUC_bounded E) gyUC_bounded wd_829 rfl (by decide) (by decide) wd_828 rfl (Nat.le_of_ble_eq_true rfl) dUC_splitPieces_49 ?_
      show bz_J _ _ 52 _ _ _
      refine j_iast X sh_58 dUC_splitPieces_52 hf (fun m3 hf => ?_)
      refine j_iinc X (y := l3 + 1) (lv' := [(3, bz_i (l3 + 1)), (4, bz_i l4), (2, bz_i l2), (0, bz_rf E 53), (1, bz_i l1)]) dUC_splitPieces_53 1 rfl rfl (by decide) rfl ?_
      refine j_goto X (tgt := 9) dUC_splitPieces_56 (by decide) ?_
      exact j_sub [0, 2, 3, 4] rfl (ih _ _ hf)
theorem lUC_splitPieces_L2 (E : bz_E) (F : Nat) {K : bz_K} {rv : Option Value} {M1 : bz_Mm} (X : bz_X K E prog_5_method_12_code 5 "UnitsWrong$Course" none 2 44 rv M1) {l1 : Int} {res : (bz_Mm)}
    (kx : ∀ (M : bz_Mm), some M = some res → bz_J K 5 65 [] [] M) :
    ∀ (n : Nat) (l2 : Int) (M : bz_Mm), UC_splitPieces_L2 F n l1 l2 M = some res → bz_J K 5 2 [(2, bz_i l2), (0, bz_rf E 53), (1, bz_i l1)] [] M := by
  intro n
  induction n with
  | zero => intro l2 M hf; cases hf
  | succ n ih =>
    intro l2 M hf
    rw [UC_splitPieces_L2] at hf
    refine j_iload_n X dUC_splitPieces_2 rfl 0 rfl ?_
    refine j_iload_n X dUC_splitPieces_3 rfl 2 rfl ?_
    refine j_icmp_ge X (tgt := 65) rfl rfl dUC_splitPieces_4 (by decide) hf (fun hf => ?_) (fun hf => ?_)
    · exact j_sub [] rfl (kx _ hf)
    · refine j_iconst X dUC_splitPieces_7 ?_
      refine j_istore_n X (lv' := [(3, bz_i 0), (2, bz_i l2), (0, bz_rf E 53), (1, bz_i l1)]) dUC_splitPieces_8 rfl (by decide) rfl ?_
      obtain ⟨res5, hz5, hk5⟩ := q_l1 hf
      clear hf
      refine lUC_splitPieces_L9 E F X (fun m4 he => ?_) F 0 M hz5
      have hf := hk5 _ he
      refine j_iinc X (y := l2 + 1) (lv' := [(2, bz_i (l2 + 1)), (0, bz_rf E 53), (1, bz_i l1)]) dUC_splitPieces_59 0 rfl rfl (by decide) rfl ?_
      refine j_goto X (tgt := 2) dUC_splitPieces_62 (by decide) ?_
      exact ih _ _ hf
def fUC_splitPieces (F : Nat) (M : bz_Mm) (a1 : Int) : Option (bz_Mm) :=
  cl1_ (UC_splitPieces_L2 F F a1 0 M) fun m6 =>
  some m6
set_option maxHeartbeats 4000000 in
set_option maxRecDepth 20000 in
theorem cUC_splitPieces (E : bz_E) (F : Nat)  {M : bz_Mm} {a1 : Int} {x0 : bz_Mm} (hf : fUC_splitPieces F M a1 = some x0) : bz_Ct E yUC_splitPieces (.code yUC_splitPieces prog_5_method_12_code 5 none) 2 44 [bz_rf E 53, bz_i a1] M (none) x0 := by
  refine bz_met (by decide +kernel) (Nat.le_of_ble_eq_true rfl) (fun K X => ?_)
  have X : bz_X K E prog_5_method_12_code 5 "UnitsWrong$Course" none 2 44 _ _ := X
  unfold fUC_splitPieces at hf
  show bz_J K 5 0 [(0, bz_rf E 53), (1, bz_i a1)] [] M
  refine j_iconst X dUC_splitPieces_0 ?_
  refine j_istore_n X (lv' := [(2, bz_i 0), (0, bz_rf E 53), (1, bz_i a1)]) dUC_splitPieces_1 rfl (by decide) rfl ?_
  obtain ⟨res7, hz7, hk7⟩ := q_l1 hf
  clear hf
  refine lUC_splitPieces_L2 E F X (fun m6 he => ?_) F 0 M hz7
  have hf := hk7 _ he
  cases hf
  exact j_vret X dUC_splitPieces_65 rfl rfl
def UC_payDividends_L12 (F : Nat) : Nat → Int → Int → bz_Mm → Option (bz_Mm)
  | 0, _, _, _ => none
  | n + 1, l2, l3, M =>
    if w32 l3 < 8 then
    (rd_ M 63 l3 8 fun x1 =>
    rd_ M 6 l3 8 fun x2 =>
    rd_ M 62 x2 3 fun x3 =>
    lt_ ((w32 x1) * (w32 x3)) fun l4 =>
    rd_ M 58 ((l2 * 8) + l3) 32 fun x4 =>
    lt_ ((w64 ((w32 x4) * l4)).tdiv 1000) fun l6 =>
    rd_ M 54 l2 4 fun x5 =>
    wa_ M 54 l2 4 (x5 + l6) fun m6 =>
    rd_ m6 55 l2 4 fun x7 =>
    wa_ m6 55 l2 4 (x7 + l6) fun m8 =>
    UC_payDividends_L12 F n l2 (l3 + 1) m8)
    else
    (some M)
def UC_payDividends_L2 (F : Nat) : Nat → Int → bz_Mm → Option (bz_Mm)
  | 0, _, _ => none
  | n + 1, l2, M =>
    if w32 l2 < w32 (M 1 14) then
    (cl1_ (UC_payDividends_L12 F F l2 0 M) fun m9 =>
    UC_payDividends_L2 F n (l2 + 1) m9)
    else
    (some M)
theorem lUC_payDividends_L12 (E : bz_E) (F : Nat) {K : bz_K} {rv : Option Value} {M1 : bz_Mm} (X : bz_X K E prog_5_method_13_code 8 "UnitsWrong$Course" none 0 0 rv M1) {l2 : Int} {res : (bz_Mm)}
    (kx : ∀ (M : bz_Mm), some M = some res → bz_J K 8 89 [(2, bz_i l2), (0, bz_rf E 53), (1, bz_rf E 1)] [] M) :
    ∀ (n : Nat) (l3 : Int) (M : bz_Mm), UC_payDividends_L12 F n l2 l3 M = some res → bz_J K 8 12 [(3, bz_i l3), (2, bz_i l2), (0, bz_rf E 53), (1, bz_rf E 1)] [] M := by
  intro n
  induction n with
  | zero => intro l3 M hf; cases hf
  | succ n ih =>
    intro l3 M hf
    rw [UC_payDividends_L12] at hf
    refine j_iload_n X dUC_payDividends_12 rfl 0 rfl ?_
    refine j_bipush X dUC_payDividends_13 rfl ?_
    refine j_icmp_ge X (tgt := 89) rfl (w32_lit rfl) dUC_payDividends_15 (by decide) hf (fun hf => ?_) (fun hf => ?_)
    · exact j_sub [1, 2, 3] rfl (kx _ hf)
    · refine j_aload_n X dUC_payDividends_18 rfl 2 rfl ?_
      refine j_geta X gf_UC_40_53 dUC_payDividends_19 ?_
      refine j_iload_n X dUC_payDividends_22 rfl 0 rfl ?_
      refine j_iald X sh_63 dUC_payDividends_23 hf (fun x1 hf => ?_)
      refine j_i2l X rfl dUC_payDividends_24 ?_
      refine j_aload_n X dUC_payDividends_25 rfl 2 rfl ?_
      refine j_geta X gf_UC_37_53 dUC_payDividends_26 ?_
      show bz_J _ _ 29 _ _ _
      refine j_aload_n X dUC_payDividends_29 rfl 3 rfl ?_
      refine j_geta X gf_UC_240_1 dUC_payDividends_30 ?_
      refine j_iload_n X dUC_payDividends_33 rfl 0 rfl ?_
      refine j_iald X sh_6 dUC_payDividends_34 hf (fun x2 hf => ?_)
      refine j_iald X sh_62 dUC_payDividends_35 hf (fun x3 hf => ?_)
      refine j_i2l X rfl dUC_payDividends_36 ?_
      refine j_lmul X dUC_payDividends_37 ?_
      refine j_lt (g := bz_l) hf (fun l4 hf => ?_)
      refine j_lstore X (lv' := [(4, bz_l l4), (3, bz_i l3), (2, bz_i l2), (0, bz_rf E 53), (1, bz_rf E 1)]) dUC_payDividends_38 (by decide) rfl ?_
      show bz_J _ _ 40 _ _ _
      refine j_aload_n X dUC_payDividends_40 rfl 3 rfl ?_
      refine j_geta X gf_UC_25_53 dUC_payDividends_41 ?_
      refine j_iload_n X dUC_payDividends_44 rfl 2 rfl ?_
      refine j_bipush X dUC_payDividends_45 rfl ?_
      refine j_imul X dUC_payDividends_47 ?_
      refine j_iload_n X dUC_payDividends_48 rfl 1 rfl ?_
      refine j_iadd X dUC_payDividends_49 ?_
      refine j_iald X sh_58 dUC_payDividends_50 hf (fun x4 hf => ?_)
      show bz_J _ _ 51 _ _ _
      refine j_i2l X rfl dUC_payDividends_51 ?_
      refine j_lload X dUC_payDividends_52 0 rfl ?_
      refine j_lmul X dUC_payDividends_54 ?_
      refine j_ldc2 X (v := 1000) wd_827 dUC_payDividends_55 ?_
      refine j_ldl X (w64_lit rfl) (by decide) dUC_payDividends_58 ?_
      refine j_lt (g := bz_l) hf (fun l6 hf => ?_)
      refine j_lstore X (lv' := [(6, bz_l l6), (4, bz_l l4), (3, bz_i l3), (2, bz_i l2), (0, bz_rf E 53), (1, bz_rf E 1)]) dUC_payDividends_59 (by decide) rfl ?_
      refine j_aload_n X dUC_payDividends_61 rfl 4 rfl ?_
      refine j_geta X gf_UC_9_53 dUC_payDividends_62 ?_
      show bz_J _ _ 65 _ _ _
      refine j_iload_n X dUC_payDividends_65 rfl 3 rfl ?_
      refine j_dup2 X dUC_payDividends_66 rfl rfl ?_
      refine j_lald X sh_54 dUC_payDividends_67 hf (fun x5 hf => ?_)
      refine j_lload X dUC_payDividends_68 0 rfl ?_
      refine j_ladd X dUC_payDividends_70 ?_
      refine j_last X sh_54 dUC_payDividends_71 hf (fun m6 hf => ?_)
      refine j_aload_n X dUC_payDividends_72 rfl 4 rfl ?_
      refine j_geta X gf_UC_15_53 dUC_payDividends_73 ?_
      show bz_J _ _ 76 _ _ _
      refine j_iload_n X dUC_payDividends_76 rfl 3 rfl ?_
      refine j_dup2 X dUC_payDividends_77 rfl rfl ?_
      refine j_lald X sh_55 dUC_payDividends_78 hf (fun x7 hf => ?_)
      refine j_lload X dUC_payDividends_79 0 rfl ?_
      refine j_ladd X dUC_payDividends_81 ?_
      refine j_last X sh_55 dUC_payDividends_82 hf (fun m8 hf => ?_)
      refine j_iinc X (y := l3 + 1) (lv' := [(3, bz_i (l3 + 1)), (6, bz_l l6), (4, bz_l l4), (2, bz_i l2), (0, bz_rf E 53), (1, bz_rf E 1)]) dUC_payDividends_83 2 rfl rfl (by decide) rfl ?_
      refine j_goto X (tgt := 12) dUC_payDividends_86 (by decide) ?_
      exact j_sub [0, 3, 4, 5] rfl (ih _ _ hf)
theorem lUC_payDividends_L2 (E : bz_E) (F : Nat) {K : bz_K} {rv : Option Value} {M1 : bz_Mm} (X : bz_X K E prog_5_method_13_code 8 "UnitsWrong$Course" none 0 0 rv M1) {res : (bz_Mm)}
    (kx : ∀ (M : bz_Mm), some M = some res → bz_J K 8 95 [] [] M) :
    ∀ (n : Nat) (l2 : Int) (M : bz_Mm), UC_payDividends_L2 F n l2 M = some res → bz_J K 8 2 [(2, bz_i l2), (0, bz_rf E 53), (1, bz_rf E 1)] [] M := by
  intro n
  induction n with
  | zero => intro l2 M hf; cases hf
  | succ n ih =>
    intro l2 M hf
    rw [UC_payDividends_L2] at hf
    refine j_iload_n X dUC_payDividends_2 rfl 0 rfl ?_
    refine j_aload_n X dUC_payDividends_3 rfl 2 rfl ?_
    refine j_geti X gf_UC_94_1 dUC_payDividends_4 ?_
    refine j_icmp_ge X (tgt := 95) rfl rfl dUC_payDividends_7 (by decide) hf (fun hf => ?_) (fun hf => ?_)
    · exact j_sub [] rfl (kx _ hf)
    · refine j_iconst X dUC_payDividends_10 ?_
      refine j_istore_n X (lv' := [(3, bz_i 0), (2, bz_i l2), (0, bz_rf E 53), (1, bz_rf E 1)]) dUC_payDividends_11 rfl (by decide) rfl ?_
      obtain ⟨res10, hz10, hk10⟩ := q_l1 hf
      clear hf
      refine lUC_payDividends_L12 E F X (fun m9 he => ?_) F 0 M hz10
      have hf := hk10 _ he
      refine j_iinc X (y := l2 + 1) (lv' := [(2, bz_i (l2 + 1)), (0, bz_rf E 53), (1, bz_rf E 1)]) dUC_payDividends_89 0 rfl rfl (by decide) rfl ?_
      refine j_goto X (tgt := 2) dUC_payDividends_92 (by decide) ?_
      exact ih _ _ hf
def fUC_payDividends (F : Nat) (M : bz_Mm) : Option (bz_Mm) :=
  cl1_ (UC_payDividends_L2 F F 0 M) fun m11 =>
  some m11
set_option maxHeartbeats 4000000 in
set_option maxRecDepth 20000 in
theorem cUC_payDividends (E : bz_E) (F : Nat)  {M : bz_Mm} {x0 : bz_Mm} (hf : fUC_payDividends F M = some x0) : bz_Ct E yUC_payDividends (.code yUC_payDividends prog_5_method_13_code 8 none) 0 0 [bz_rf E 53, bz_rf E 1] M (none) x0 := by
  refine bz_met (by decide +kernel) (Nat.le_of_ble_eq_true rfl) (fun K X => ?_)
  have X : bz_X K E prog_5_method_13_code 8 "UnitsWrong$Course" none 0 0 _ _ := X
  unfold fUC_payDividends at hf
  show bz_J K 8 0 [(0, bz_rf E 53), (1, bz_rf E 1)] [] M
  refine j_iconst X dUC_payDividends_0 ?_
  refine j_istore_n X (lv' := [(2, bz_i 0), (0, bz_rf E 53), (1, bz_rf E 1)]) dUC_payDividends_1 rfl (by decide) rfl ?_
  obtain ⟨res12, hz12, hk12⟩ := q_l1 hf
  clear hf
  refine lUC_payDividends_L2 E F X (fun m11 he => ?_) F 0 M hz12
  have hf := hk12 _ he
  cases hf
  exact j_vret X dUC_payDividends_95 rfl rfl
def UC_passTrades_L6 (F : Nat) : Nat → Int → Int → bz_Mm → Option (bz_Mm)
  | 0, _, _, _ => none
  | n + 1, l2, l3, M =>
    if w32 (M 53 14) < w32 (M 25 2) then
    (rd_ M 27 (M 53 14) 120 fun x1 =>
    rd_ M 26 x1 120 fun x2 =>
    if w32 x2 = w32 l2 then
    (rd_ M 27 (M 53 14) 120 fun x3 =>
    rd_ M 32 x3 120 fun x4 =>
    cl1_ (if w32 l3 < w32 x4 then
    (some (M))
    else
    (rd_ M 28 x3 120 fun x6 =>
    rd_ M 29 x3 120 fun x7 =>
    lt_ ((x6 * 8) + x7) fun l7 =>
    rd_ M 58 l7 32 fun x8 =>
    rd_ M 30 x3 120 fun x9 =>
    wa_ M 58 l7 32 (fUC_bounded ((w32 x8) + (w32 x9))) fun m10 =>
    rd_ m10 54 x6 4 fun x11 =>
    rd_ m10 31 x3 120 fun x12 =>
    wa_ m10 54 x6 4 (x11 + (w32 x12)) fun m13 =>
    rd_ m13 55 x6 4 fun x14 =>
    rd_ m13 31 x3 120 fun x15 =>
    wa_ m13 55 x6 4 (x14 + (w32 x15)) fun m16 =>
    some (m16))) fun m17 =>
    wf_ m17 53 14 ((m17 53 14) + 1) fun m18 =>
    UC_passTrades_L6 F n l2 l3 m18)
    else
    (some M))
    else
    (some M)
theorem lUC_passTrades_L6 (E : bz_E) (F : Nat) {K : bz_K} {rv : Option Value} {M1 : bz_Mm} (X : bz_X K E prog_5_method_14_code 8 "UnitsWrong$Course" none 2 44 rv M1) {l2 : Int} {l3 : Int} {res : (bz_Mm)}
    (kx : ∀ (M : bz_Mm), some M = some res → bz_J K 8 161 [] [] M) :
    ∀ (n : Nat) (M : bz_Mm), UC_passTrades_L6 F n l2 l3 M = some res → bz_J K 8 6 [(4, bz_rf E 25), (0, bz_rf E 53), (1, bz_rf E 24), (2, bz_i l2), (3, bz_i l3)] [] M := by
  intro n
  induction n with
  | zero => intro M hf; cases hf
  | succ n ih =>
    intro M hf
    rw [UC_passTrades_L6] at hf
    refine j_aload_n X dUC_passTrades_6 rfl 1 rfl ?_
    refine j_geti X gf_UC_157_53 dUC_passTrades_7 ?_
    refine j_aload X dUC_passTrades_10 0 rfl ?_
    refine j_geti X gf_UC_207_25 dUC_passTrades_12 ?_
    refine j_icmp_ge X (tgt := 161) rfl rfl dUC_passTrades_15 (by decide) hf (fun hf => ?_) (fun hf => ?_)
    · exact j_sub [] rfl (kx _ hf)
    · refine j_aload X dUC_passTrades_18 0 rfl ?_
      refine j_geta X gf_UC_212_25 dUC_passTrades_20 ?_
      refine j_aload X dUC_passTrades_23 0 rfl ?_
      refine j_geta X gf_UC_215_25 dUC_passTrades_25 ?_
      refine j_aload_n X dUC_passTrades_28 rfl 1 rfl ?_
      refine j_geti X gf_UC_157_53 dUC_passTrades_29 ?_
      refine j_iald X sh_27 dUC_passTrades_32 hf (fun x1 hf => ?_)
      show bz_J _ _ 33 _ _ _
      refine j_iald X sh_26 dUC_passTrades_33 hf (fun x2 hf => ?_)
      refine j_iload_n X dUC_passTrades_34 rfl 3 rfl ?_
      refine j_icmp_ne X (tgt := 161) rfl rfl dUC_passTrades_35 (by decide) hf (fun hf => ?_) (fun hf => ?_)
      · exact j_sub [] rfl (kx _ hf)
      · refine j_aload X dUC_passTrades_38 0 rfl ?_
        refine j_geta X gf_UC_215_25 dUC_passTrades_40 ?_
        refine j_aload_n X dUC_passTrades_43 rfl 1 rfl ?_
        refine j_geti X gf_UC_157_53 dUC_passTrades_44 ?_
        refine j_iald X sh_27 dUC_passTrades_47 hf (fun x3 hf => ?_)
        refine j_istore X (lv' := [(5, bz_i x3), (4, bz_rf E 25), (0, bz_rf E 53), (1, bz_rf E 24), (2, bz_i l2), (3, bz_i l3)]) dUC_passTrades_48 (by decide) rfl ?_
        refine j_aload_n X dUC_passTrades_50 rfl 3 rfl ?_
        show bz_J _ _ 51 _ _ _
        refine j_geta X gf_UC_246_24 dUC_passTrades_51 ?_
        refine j_iload X dUC_passTrades_54 0 rfl ?_
        refine j_iald X sh_32 dUC_passTrades_56 hf (fun x4 hf => ?_)
        refine j_iload_n X dUC_passTrades_57 rfl 5 rfl ?_
        obtain ⟨resJ5, hf0, hkJ5⟩ := q_l1 hf
        have J5 : ∀ (m17 : bz_Mm), some m17 = some resJ5 → bz_J K 8 148 [(4, bz_rf E 25), (0, bz_rf E 53), (1, bz_rf E 24), (2, bz_i l2), (3, bz_i l3)] [] m17 := by
          intro m17 he
          have hf := hkJ5 _ he
          refine j_aload_n X dUC_passTrades_148 rfl 1 rfl ?_
          refine j_dup X dUC_passTrades_149 rfl ?_
          refine j_geti X gf_UC_157_53 dUC_passTrades_150 ?_
          refine j_iconst X dUC_passTrades_153 ?_
          refine j_iadd X dUC_passTrades_154 ?_
          refine j_puti X pf_UC_157_53 dUC_passTrades_155 hf (fun m18 hf => ?_)
          refine j_goto X (tgt := 6) dUC_passTrades_158 (by decide) ?_
          exact ih _ hf
        clear hf
        have hf := hf0
        clear hf0
        refine j_icmp_gt X (tgt := 148) rfl rfl dUC_passTrades_58 (by decide) hf (fun hf => ?_) (fun hf => ?_)
        · exact j_sub [1, 2, 3, 4, 5] rfl (J5 _ hf)
        · refine j_aload_n X dUC_passTrades_61 rfl 3 rfl ?_
          refine j_geta X gf_UC_247_24 dUC_passTrades_62 ?_
          refine j_iload X dUC_passTrades_65 0 rfl ?_
          refine j_iald X sh_28 dUC_passTrades_67 hf (fun x6 hf => ?_)
          refine j_istore X (lv' := [(6, bz_i x6), (5, bz_i x3), (4, bz_rf E 25), (0, bz_rf E 53), (1, bz_rf E 24), (2, bz_i l2), (3, bz_i l3)]) dUC_passTrades_68 (by decide) rfl ?_
          refine j_iload X dUC_passTrades_70 0 rfl ?_
          refine j_bipush X dUC_passTrades_72 rfl ?_
          show bz_J _ _ 74 _ _ _
          refine j_imul X dUC_passTrades_74 ?_
          refine j_aload_n X dUC_passTrades_75 rfl 4 rfl ?_
          refine j_geta X gf_UC_250_24 dUC_passTrades_76 ?_
          refine j_iload X dUC_passTrades_79 1 rfl ?_
          refine j_iald X sh_29 dUC_passTrades_81 hf (fun x7 hf => ?_)
          refine j_iadd X dUC_passTrades_82 ?_
          refine j_lt (g := bz_i) hf (fun l7 hf => ?_)
          refine j_istore X (lv' := [(7, bz_i l7), (6, bz_i x6), (5, bz_i x3), (4, bz_rf E 25), (0, bz_rf E 53), (1, bz_rf E 24), (2, bz_i l2), (3, bz_i l3)]) dUC_passTrades_83 (by decide) rfl ?_
          refine j_aload_n X dUC_passTrades_85 rfl 4 rfl ?_
          show bz_J _ _ 86 _ _ _
          refine j_geta X gf_UC_25_53 dUC_passTrades_86 ?_
          refine j_iload X dUC_passTrades_89 0 rfl ?_
          refine j_aload_n X dUC_passTrades_91 rfl 4 rfl ?_
          refine j_geta X gf_UC_25_53 dUC_passTrades_92 ?_
          refine j_iload X dUC_passTrades_95 0 rfl ?_
          refine j_iald X sh_58 dUC_passTrades_97 hf (fun x8 hf => ?_)
          refine j_i2l X rfl dUC_passTrades_98 ?_
          refine j_aload_n X dUC_passTrades_99 rfl 5 rfl ?_
          show bz_J _ _ 100 _ _ _
          refine j_geta X gf_UC_253_24 dUC_passTrades_100 ?_
          refine j_iload X dUC_passTrades_103 2 rfl ?_
          refine j_iald X sh_30 dUC_passTrades_105 hf (fun x9 hf => ?_)
          refine j_i2l X rfl dUC_passTrades_106 ?_
          refine j_ladd X dUC_passTrades_107 ?_
          refine j_cs X (st := [bz_i l7, bz_rf E 58]) (cUC_bounded E) gyUC_bounded wd_829 rfl (by decide) (by decide) wd_828 rfl (Nat.le_of_ble_eq_true rfl) dUC_passTrades_108 ?_
          refine j_iast X sh_58 dUC_passTrades_111 hf (fun m10 hf => ?_)
          refine j_aload_n X dUC_passTrades_112 rfl 4 rfl ?_
          show bz_J _ _ 113 _ _ _
          refine j_geta X gf_UC_9_53 dUC_passTrades_113 ?_
          refine j_iload X dUC_passTrades_116 1 rfl ?_
          refine j_dup2 X dUC_passTrades_118 rfl rfl ?_
          refine j_lald X sh_54 dUC_passTrades_119 hf (fun x11 hf => ?_)
          refine j_aload_n X dUC_passTrades_120 rfl 5 rfl ?_
          refine j_geta X gf_UC_254_24 dUC_passTrades_121 ?_
          refine j_iload X dUC_passTrades_124 2 rfl ?_
          refine j_iald X sh_31 dUC_passTrades_126 hf (fun x12 hf => ?_)
          show bz_J _ _ 127 _ _ _
          refine j_i2l X rfl dUC_passTrades_127 ?_
          refine j_ladd X dUC_passTrades_128 ?_
          refine j_last X sh_54 dUC_passTrades_129 hf (fun m13 hf => ?_)
          refine j_aload_n X dUC_passTrades_130 rfl 4 rfl ?_
          refine j_geta X gf_UC_15_53 dUC_passTrades_131 ?_
          refine j_iload X dUC_passTrades_134 1 rfl ?_
          refine j_dup2 X dUC_passTrades_136 rfl rfl ?_
          refine j_lald X sh_55 dUC_passTrades_137 hf (fun x14 hf => ?_)
          show bz_J _ _ 138 _ _ _
          refine j_aload_n X dUC_passTrades_138 rfl 5 rfl ?_
          refine j_geta X gf_UC_254_24 dUC_passTrades_139 ?_
          refine j_iload X dUC_passTrades_142 2 rfl ?_
          refine j_iald X sh_31 dUC_passTrades_144 hf (fun x15 hf => ?_)
          refine j_i2l X rfl dUC_passTrades_145 ?_
          refine j_ladd X dUC_passTrades_146 ?_
          refine j_last X sh_55 dUC_passTrades_147 hf (fun m16 hf => ?_)
          exact j_sub [3, 4, 5, 6, 7] rfl (J5 _ hf)
def fUC_passTrades (F : Nat) (M : bz_Mm) (a2 : Int) (a3 : Int) : Option (bz_Mm) :=
  cl1_ (UC_passTrades_L6 F F a2 a3 M) fun m19 =>
  some m19
set_option maxHeartbeats 4000000 in
set_option maxRecDepth 20000 in
theorem cUC_passTrades (E : bz_E) (F : Nat)  {M : bz_Mm} {a2 : Int} {a3 : Int} {x0 : bz_Mm} (hf : fUC_passTrades F M a2 a3 = some x0) : bz_Ct E yUC_passTrades (.code yUC_passTrades prog_5_method_14_code 8 none) 2 44 [bz_rf E 53, bz_rf E 24, bz_i a2, bz_i a3] M (none) x0 := by
  refine bz_met (by decide +kernel) (Nat.le_of_ble_eq_true rfl) (fun K X => ?_)
  have X : bz_X K E prog_5_method_14_code 8 "UnitsWrong$Course" none 2 44 _ _ := X
  unfold fUC_passTrades at hf
  show bz_J K 8 0 [(0, bz_rf E 53), (1, bz_rf E 24), (2, bz_i a2), (3, bz_i a3)] [] M
  refine j_aload_n X dUC_passTrades_0 rfl 1 rfl ?_
  refine j_geta X gf_UC_243_24 dUC_passTrades_1 ?_
  refine j_astore X (lv' := [(4, bz_rf E 25), (0, bz_rf E 53), (1, bz_rf E 24), (2, bz_i a2), (3, bz_i a3)]) dUC_passTrades_4 (by decide) rfl ?_
  obtain ⟨res20, hz20, hk20⟩ := q_l1 hf
  clear hf
  refine lUC_passTrades_L6 E F X (fun m19 he => ?_) F M hz20
  have hf := hk20 _ he
  cases hf
  exact j_vret X dUC_passTrades_161 rfl rfl
def UC_findDeals_34_L8 (F : Nat) : Nat → Int → bz_Mm → Option (bz_Mm)
  | 0, _, _ => none
  | n + 1, l2, M =>
    if w32 (M 53 16) < w32 (M 34 2) then
    (rd_ M 36 (M 53 16) 200 fun x2 =>
    rd_ M 35 x2 200 fun x3 =>
    if w32 x3 = w32 l2 then
    (wf_ M 53 16 ((M 53 16) + 1) fun m4 =>
    UC_findDeals_34_L8 F n l2 m4)
    else
    (some M))
    else
    (some M)
theorem lUC_findDeals_34_L8 (E : bz_E) (F : Nat) {K : bz_K} {rv : Option Value} {M1 : bz_Mm} (X : bz_X K E prog_5_method_16_code 3 "UnitsWrong$Course" none 0 0 rv M1) {l2 : Int} {res : (bz_Mm)}
    (kx : ∀ (M : bz_Mm), some M = some res → bz_J K 3 50 [] [] M) :
    ∀ (n : Nat) (M : bz_Mm), UC_findDeals_34_L8 F n l2 M = some res → bz_J K 3 8 [(0, bz_rf E 53), (1, bz_rf E 34), (2, bz_i l2)] [] M := by
  intro n
  induction n with
  | zero => intro M hf; cases hf
  | succ n ih =>
    intro M hf
    rw [UC_findDeals_34_L8] at hf
    refine j_aload_n X dUC_findDeals_8 rfl 0 rfl ?_
    refine j_geti X gf_UC_160_53 dUC_findDeals_9 ?_
    refine j_aload_n X dUC_findDeals_12 rfl 1 rfl ?_
    refine j_geti X gf_UC_207_34 dUC_findDeals_13 ?_
    refine j_icmp_ge X (tgt := 50) rfl rfl dUC_findDeals_16 (by decide) hf (fun hf => ?_) (fun hf => ?_)
    · exact j_sub [] rfl (kx _ hf)
    · refine j_aload_n X dUC_findDeals_19 rfl 1 rfl ?_
      refine j_geta X gf_UC_212_34 dUC_findDeals_20 ?_
      refine j_aload_n X dUC_findDeals_23 rfl 1 rfl ?_
      refine j_geta X gf_UC_215_34 dUC_findDeals_24 ?_
      refine j_aload_n X dUC_findDeals_27 rfl 0 rfl ?_
      refine j_geti X gf_UC_160_53 dUC_findDeals_28 ?_
      refine j_iald X sh_36 dUC_findDeals_31 hf (fun x2 hf => ?_)
      show bz_J _ _ 32 _ _ _
      refine j_iald X sh_35 dUC_findDeals_32 hf (fun x3 hf => ?_)
      refine j_iload_n X dUC_findDeals_33 rfl 2 rfl ?_
      refine j_icmp_ne X (tgt := 50) rfl rfl dUC_findDeals_34 (by decide) hf (fun hf => ?_) (fun hf => ?_)
      · exact j_sub [] rfl (kx _ hf)
      · refine j_aload_n X dUC_findDeals_37 rfl 0 rfl ?_
        refine j_dup X dUC_findDeals_38 rfl ?_
        refine j_geti X gf_UC_160_53 dUC_findDeals_39 ?_
        refine j_iconst X dUC_findDeals_42 ?_
        refine j_iadd X dUC_findDeals_43 ?_
        refine j_puti X pf_UC_160_53 dUC_findDeals_44 hf (fun m4 hf => ?_)
        refine j_goto X (tgt := 8) dUC_findDeals_47 (by decide) ?_
        exact ih _ hf
def fUC_findDeals_34 (F : Nat) (M : bz_Mm) (a2 : Int) : Option (bz_Mm) :=
  wf_ M 53 15 (M 53 16) fun m1 =>
  cl1_ (UC_findDeals_34_L8 F F a2 m1) fun m5 =>
  some m5
set_option maxHeartbeats 4000000 in
set_option maxRecDepth 20000 in
theorem cUC_findDeals_34 (E : bz_E) (F : Nat)  {M : bz_Mm} {a2 : Int} {x0 : bz_Mm} (hf : fUC_findDeals_34 F M a2 = some x0) : bz_Ct E yUC_findDeals (.code yUC_findDeals prog_5_method_16_code 3 none) 0 0 [bz_rf E 53, bz_rf E 34, bz_i a2] M (none) x0 := by
  refine bz_met (by decide +kernel) (Nat.le_of_ble_eq_true rfl) (fun K X => ?_)
  have X : bz_X K E prog_5_method_16_code 3 "UnitsWrong$Course" none 0 0 _ _ := X
  unfold fUC_findDeals_34 at hf
  show bz_J K 3 0 [(0, bz_rf E 53), (1, bz_rf E 34), (2, bz_i a2)] [] M
  refine j_aload_n X dUC_findDeals_0 rfl 0 rfl ?_
  refine j_aload_n X dUC_findDeals_1 rfl 0 rfl ?_
  refine j_geti X gf_UC_160_53 dUC_findDeals_2 ?_
  refine j_puti X pf_UC_268_53 dUC_findDeals_5 hf (fun m1 hf => ?_)
  obtain ⟨res6, hz6, hk6⟩ := q_l1 hf
  clear hf
  refine lUC_findDeals_34_L8 E F X (fun m5 he => ?_) F m1 hz6
  have hf := hk6 _ he
  cases hf
  exact j_vret X dUC_findDeals_50 rfl rfl
def fUC_openDay (F : Nat) (M : bz_Mm) (a2 : Int) (a3 : Int) (a4 : Int) : Option (bz_Mm) :=
  cl_ (fUC_learn F M a2 a3) fun m1 =>
  cl1_ (if w32 a4 = 0 then
  (some (m1))
  else
  (cl_ (fUC_suspectOn_16 F m1 a2 a4) fun m3 =>
  some (m3))) fun m4 =>
  cl1_ (if w32 (m4 53 12) = 0 then
  (some (m4))
  else
  (cl_ (fUC_splitPieces F m4 (m4 1 14)) fun m6 =>
  some (m6))) fun m7 =>
  cl1_ (if w32 (m7 53 11) = 0 then
  (some (m7))
  else
  (cl_ (fUC_payDividends F m7) fun m9 =>
  some (m9))) fun m10 =>
  cl_ (fUC_passTrades F m10 a2 a3) fun m11 =>
  cl_ (fUC_findDeals_34 F m11 a2) fun m12 =>
  some m12
set_option maxHeartbeats 4000000 in
set_option maxRecDepth 20000 in
theorem cUC_openDay (E : bz_E) (F : Nat)  {M : bz_Mm} {a2 : Int} {a3 : Int} {a4 : Int} {x0 : bz_Mm} (hf : fUC_openDay F M a2 a3 a4 = some x0) : bz_Ct E yUC_openDay (.code yUC_openDay prog_5_method_8_code 5 none) 3 71 [bz_rf E 53, bz_rf E 1, bz_i a2, bz_i a3, bz_i a4] M (none) x0 := by
  refine bz_met (by decide +kernel) (Nat.le_of_ble_eq_true rfl) (fun K X => ?_)
  have X : bz_X K E prog_5_method_8_code 5 "UnitsWrong$Course" none 3 71 _ _ := X
  unfold fUC_openDay at hf
  show bz_J K 5 0 [(0, bz_rf E 53), (1, bz_rf E 1), (2, bz_i a2), (3, bz_i a3), (4, bz_i a4)] [] M
  refine j_aload_n X dUC_openDay_0 rfl 0 rfl ?_
  refine j_aload_n X dUC_openDay_1 rfl 1 rfl ?_
  refine j_iload_n X dUC_openDay_2 rfl 2 rfl ?_
  refine j_iload_n X dUC_openDay_3 rfl 3 rfl ?_
  obtain ⟨m1, hz, hf⟩ := q_cl hf
  refine j_cv X (st := []) (cUC_learn E F hz) gyUC_learn gv_UC_learn_53 rfl (by decide) (by decide) wd_811 rfl (Nat.le_of_ble_eq_true rfl) dUC_openDay_4 ?_
  clear hz
  refine j_iload X dUC_openDay_7 4 rfl ?_
  obtain ⟨resJ2, hf0, hkJ2⟩ := q_l1 hf
  have J2 : ∀ (m4 : bz_Mm), some m4 = some resJ2 → bz_J K 5 23 [(0, bz_rf E 53), (1, bz_rf E 1), (2, bz_i a2), (3, bz_i a3)] [] m4 := by
    intro m4 he
    have hf := hkJ2 _ he
    refine j_aload_n X dUC_openDay_23 rfl 0 rfl ?_
    refine j_getz X gf_UC_151_53 dUC_openDay_24 ?_
    obtain ⟨resJ5, hf0, hkJ5⟩ := q_l1 hf
    have J5 : ∀ (m7 : bz_Mm), some m7 = some resJ5 → bz_J K 5 38 [(0, bz_rf E 53), (1, bz_rf E 1), (2, bz_i a2), (3, bz_i a3)] [] m7 := by
      intro m7 he
      have hf := hkJ5 _ he
      refine j_aload_n X dUC_openDay_38 rfl 0 rfl ?_
      refine j_getz X gf_UC_147_53 dUC_openDay_39 ?_
      obtain ⟨resJ8, hf0, hkJ8⟩ := q_l1 hf
      have J8 : ∀ (m10 : bz_Mm), some m10 = some resJ8 → bz_J K 5 50 [(0, bz_rf E 53), (1, bz_rf E 1), (2, bz_i a2), (3, bz_i a3)] [] m10 := by
        intro m10 he
        have hf := hkJ8 _ he
        refine j_aload_n X dUC_openDay_50 rfl 0 rfl ?_
        refine j_aload_n X dUC_openDay_51 rfl 1 rfl ?_
        refine j_geta X gf_UC_185_1 dUC_openDay_52 ?_
        refine j_iload_n X dUC_openDay_55 rfl 2 rfl ?_
        refine j_iload_n X dUC_openDay_56 rfl 3 rfl ?_
        obtain ⟨m11, hz, hf⟩ := q_cl hf
        refine j_cv X (st := []) (cUC_passTrades E F hz) gyUC_passTrades gv_UC_passTrades_53 rfl (by decide) (by decide) wd_843 rfl (Nat.le_of_ble_eq_true rfl) dUC_openDay_57 ?_
        clear hz
        refine j_aload_n X dUC_openDay_60 rfl 0 rfl ?_
        show bz_J _ _ 61 _ _ _
        refine j_aload_n X dUC_openDay_61 rfl 1 rfl ?_
        refine j_geta X gf_UC_105_1 dUC_openDay_62 ?_
        refine j_geta X gf_UC_193_33 dUC_openDay_65 ?_
        refine j_iload_n X dUC_openDay_68 rfl 2 rfl ?_
        obtain ⟨m12, hz, hf⟩ := q_cl hf
        refine j_cv X (st := []) (cUC_findDeals_34 E F hz) gyUC_findDeals gv_UC_findDeals_53 rfl (by decide) (by decide) wd_847 rfl (Nat.le_of_ble_eq_true rfl) dUC_openDay_69 ?_
        clear hz
        cases hf
        exact j_vret X dUC_openDay_72 rfl rfl
      clear hf
      have hf := hf0
      clear hf0
      refine j_if_eq X (tgt := 50) rfl dUC_openDay_42 (by decide) hf (fun hf => ?_) (fun hf => ?_)
      · exact J8 _ hf
      · refine j_aload_n X dUC_openDay_45 rfl 0 rfl ?_
        refine j_aload_n X dUC_openDay_46 rfl 1 rfl ?_
        obtain ⟨m9, hz, hf⟩ := q_cl hf
        refine j_cv X (st := []) (cUC_payDividends E F hz) gyUC_payDividends gv_UC_payDividends_53 rfl (by decide) (by decide) wd_839 rfl (Nat.le_of_ble_eq_true rfl) dUC_openDay_47 ?_
        clear hz
        exact J8 _ hf
    clear hf
    have hf := hf0
    clear hf0
    refine j_if_eq X (tgt := 38) rfl dUC_openDay_27 (by decide) hf (fun hf => ?_) (fun hf => ?_)
    · exact J5 _ hf
    · refine j_aload_n X dUC_openDay_30 rfl 0 rfl ?_
      refine j_aload_n X dUC_openDay_31 rfl 1 rfl ?_
      refine j_geti X gf_UC_94_1 dUC_openDay_32 ?_
      obtain ⟨m6, hz, hf⟩ := q_cl hf
      refine j_cv X (st := []) (cUC_splitPieces E F hz) gyUC_splitPieces gv_UC_splitPieces_53 rfl (by decide) (by decide) wd_823 rfl (Nat.le_of_ble_eq_true rfl) dUC_openDay_35 ?_
      clear hz
      exact J5 _ hf
  clear hf
  have hf := hf0
  clear hf0
  refine j_if_eq X (tgt := 23) rfl dUC_openDay_9 (by decide) hf (fun hf => ?_) (fun hf => ?_)
  · exact j_sub [0, 1, 2, 3] rfl (J2 _ hf)
  · refine j_aload_n X dUC_openDay_12 rfl 0 rfl ?_
    refine j_aload_n X dUC_openDay_13 rfl 1 rfl ?_
    refine j_geta X gf_UC_170_1 dUC_openDay_14 ?_
    refine j_iload_n X dUC_openDay_17 rfl 2 rfl ?_
    refine j_iload X dUC_openDay_18 4 rfl ?_
    obtain ⟨m3, hz, hf⟩ := q_cl hf
    refine j_cv X (st := []) (cUC_suspectOn_16 E F hz) gyUC_suspectOn gv_UC_suspectOn_53 rfl (by decide) (by decide) wd_819 rfl (Nat.le_of_ble_eq_true rfl) dUC_openDay_20 ?_
    clear hz
    exact j_sub [0, 1, 2, 3] rfl (J2 _ hf)
def gU_slot (a0 : Int) (a1 : Int) : Option Int :=
  some ((a0 * 260) + a1)
def fU_slot (a0 : Int) (a1 : Int) : Int :=
  ((a0 * 260) + a1)
theorem tU_slot (a0 : Int) (a1 : Int) : gU_slot a0 a1 = some (fU_slot a0 a1) := by
  unfold gU_slot fU_slot
  (repeat' (first | rfl | split))
set_option maxHeartbeats 4000000 in
set_option maxRecDepth 20000 in
theorem cU_slot (E : bz_E) {M : bz_Mm} {a0 : Int} {a1 : Int} : bz_Ct E yU_slot (.code yU_slot prog_1_method_46_code 2 (some .int)) 0 0 [bz_i a0, bz_i a1] M (some (bz_i (fU_slot a0 a1))) M := by
  have hf := tU_slot a0 a1
  refine bz_met (by decide +kernel) (Nat.le_of_ble_eq_true rfl) (fun K X => ?_)
  have X : bz_X K E prog_1_method_46_code 2 "UnitsWrong" (some .int) 0 0 _ _ := X
  unfold gU_slot at hf
  generalize fU_slot a0 a1 = rr at hf X
  show bz_J K 2 0 [(0, bz_i a0), (1, bz_i a1)] [] M
  refine j_iload_n X dU_slot_0 rfl 0 rfl ?_
  refine j_sipush X dU_slot_1 rfl ?_
  refine j_imul X dU_slot_4 ?_
  refine j_iload_n X dU_slot_5 rfl 1 rfl ?_
  refine j_iadd X dU_slot_6 ?_
  cases hf
  exact j_iret X dU_slot_7 rfl rfl
def UC_assetsOf_56_L7 (F : Nat) : Nat → bz_Mm → Int → Int → Int → Int → Option (Int)
  | 0, _, _, _, _, _ => none
  | n + 1, M, l2, l3, l9, l7 =>
    if w32 l9 < 8 then
    (rd_ M 58 ((l2 * 8) + l9) 32 fun x1 =>
    if w32 x1 = 0 then
    (UC_assetsOf_56_L7 F n M l2 l3 (l9 + 1) l7)
    else
    (rd_ M 61 l9 8 fun x2 =>
    rd_ M 6 l9 8 fun x3 =>
    rd_ M 62 x3 3 fun x4 =>
    lt_ (l7 + ((w64 (((w32 x1) * (w32 x2)) * (w32 x4))).tdiv 1000)) fun l7 =>
    UC_assetsOf_56_L7 F n M l2 l3 (l9 + 1) l7))
    else
    (some l7)
def UC_assetsOf_56_L77 (F : Nat) : Nat → bz_Mm → Int → Int → Int → Int → Option (Int)
  | 0, _, _, _, _, _ => none
  | n + 1, M, l2, l3, l9, l7 =>
    if w32 l9 < w32 l2 then
    (rd_ M 59 ((l2 * 4) + l9) 16 fun x5 =>
    rd_ M 56 (fU_slot l9 l3) 1040 fun x6 =>
    lt_ (l7 + ((w64 ((w32 x5) * (w32 x6))).tdiv 100)) fun l7 =>
    UC_assetsOf_56_L77 F n M l2 l3 (l9 + 1) l7)
    else
    (some l7)
theorem lUC_assetsOf_56_L7 (E : bz_E) (F : Nat) {K : bz_K} {rv : Option Value} {M1 : bz_Mm} (X : bz_X K E prog_5_method_17_code 11 "UnitsWrong$Course" (some .long) 1 21 rv M1) {M : bz_Mm} {l2 : Int} {l3 : Int} {res : (Int)}
    (kx : ∀ (l7 : Int), some l7 = some res → bz_J K 11 74 [(7, bz_l l7), (0, bz_rf E 53), (2, bz_i l2), (3, bz_i l3), (6, bz_rf E 56)] [] M) :
    ∀ (n : Nat) (l9 : Int) (l7 : Int), UC_assetsOf_56_L7 F n M l2 l3 l9 l7 = some res → bz_J K 11 7 [(9, bz_i l9), (7, bz_l l7), (0, bz_rf E 53), (1, bz_rf E 1), (2, bz_i l2), (3, bz_i l3), (6, bz_rf E 56)] [] M := by
  intro n
  induction n with
  | zero => intro l9 l7 hf; cases hf
  | succ n ih =>
    intro l9 l7 hf
    rw [UC_assetsOf_56_L7] at hf
    refine j_iload X dUC_assetsOf_7 0 rfl ?_
    refine j_bipush X dUC_assetsOf_9 rfl ?_
    refine j_icmp_ge X (tgt := 74) rfl (w32_lit rfl) dUC_assetsOf_11 (by decide) hf (fun hf => ?_) (fun hf => ?_)
    · exact j_sub [1, 2, 4, 5, 6] rfl (kx _ hf)
    · refine j_aload_n X dUC_assetsOf_14 rfl 2 rfl ?_
      refine j_geta X gf_UC_25_53 dUC_assetsOf_15 ?_
      refine j_iload_n X dUC_assetsOf_18 rfl 4 rfl ?_
      refine j_bipush X dUC_assetsOf_19 rfl ?_
      refine j_imul X dUC_assetsOf_21 ?_
      refine j_iload X dUC_assetsOf_22 0 rfl ?_
      refine j_iadd X dUC_assetsOf_24 ?_
      show bz_J _ _ 25 _ _ _
      refine j_iald X sh_58 dUC_assetsOf_25 hf (fun x1 hf => ?_)
      refine j_istore X (lv' := [(10, bz_i x1), (9, bz_i l9), (7, bz_l l7), (0, bz_rf E 53), (1, bz_rf E 1), (2, bz_i l2), (3, bz_i l3), (6, bz_rf E 56)]) dUC_assetsOf_26 (by decide) rfl ?_
      refine j_iload X dUC_assetsOf_28 0 rfl ?_
      refine j_if_eq X (tgt := 68) rfl dUC_assetsOf_30 (by decide) hf (fun hf => ?_) (fun hf => ?_)
      · refine j_iinc X (y := l9 + 1) (lv' := [(9, bz_i (l9 + 1)), (10, bz_i x1), (7, bz_l l7), (0, bz_rf E 53), (1, bz_rf E 1), (2, bz_i l2), (3, bz_i l3), (6, bz_rf E 56)]) dUC_assetsOf_68 1 rfl rfl (by decide) rfl ?_
        refine j_goto X (tgt := 7) dUC_assetsOf_71 (by decide) ?_
        exact j_sub [0, 2, 3, 4, 5, 6, 7] rfl (ih _ _ hf)
      · refine j_lload X dUC_assetsOf_33 2 rfl ?_
        refine j_iload X dUC_assetsOf_35 0 rfl ?_
        refine j_i2l X rfl dUC_assetsOf_37 ?_
        refine j_aload_n X dUC_assetsOf_38 rfl 3 rfl ?_
        refine j_geta X gf_UC_34_53 dUC_assetsOf_39 ?_
        refine j_iload X dUC_assetsOf_42 1 rfl ?_
        refine j_iald X sh_61 dUC_assetsOf_44 hf (fun x2 hf => ?_)
        show bz_J _ _ 45 _ _ _
        refine j_i2l X rfl dUC_assetsOf_45 ?_
        refine j_lmul X dUC_assetsOf_46 ?_
        refine j_aload_n X dUC_assetsOf_47 rfl 3 rfl ?_
        refine j_geta X gf_UC_37_53 dUC_assetsOf_48 ?_
        refine j_aload_n X dUC_assetsOf_51 rfl 4 rfl ?_
        refine j_geta X gf_UC_240_1 dUC_assetsOf_52 ?_
        refine j_iload X dUC_assetsOf_55 1 rfl ?_
        refine j_iald X sh_6 dUC_assetsOf_57 hf (fun x3 hf => ?_)
        show bz_J _ _ 58 _ _ _
        refine j_iald X sh_62 dUC_assetsOf_58 hf (fun x4 hf => ?_)
        refine j_i2l X rfl dUC_assetsOf_59 ?_
        refine j_lmul X dUC_assetsOf_60 ?_
        refine j_ldc2 X (v := 1000) wd_827 dUC_assetsOf_61 ?_
        refine j_ldl X (w64_lit rfl) (by decide) dUC_assetsOf_64 ?_
        refine j_ladd X dUC_assetsOf_65 ?_
        refine j_lt (g := bz_l) hf (fun l7 hf => ?_)
        refine j_lstore X (lv' := [(7, bz_l l7), (10, bz_i x1), (9, bz_i l9), (0, bz_rf E 53), (1, bz_rf E 1), (2, bz_i l2), (3, bz_i l3), (6, bz_rf E 56)]) dUC_assetsOf_66 (by decide) rfl ?_
        refine j_iinc X (y := l9 + 1) (lv' := [(9, bz_i (l9 + 1)), (7, bz_l l7), (10, bz_i x1), (0, bz_rf E 53), (1, bz_rf E 1), (2, bz_i l2), (3, bz_i l3), (6, bz_rf E 56)]) dUC_assetsOf_68 2 rfl rfl (by decide) rfl ?_
        show bz_J _ _ 71 _ _ _
        refine j_goto X (tgt := 7) dUC_assetsOf_71 (by decide) ?_
        exact j_sub [0, 1, 3, 4, 5, 6, 7] rfl (ih _ _ hf)
theorem lUC_assetsOf_56_L77 (E : bz_E) (F : Nat) {K : bz_K} {rv : Option Value} {M1 : bz_Mm} (X : bz_X K E prog_5_method_17_code 11 "UnitsWrong$Course" (some .long) 1 21 rv M1) {M : bz_Mm} {l2 : Int} {l3 : Int} {res : (Int)}
    (kx : ∀ (l7 : Int), some l7 = some res → bz_J K 11 121 [(7, bz_l l7)] [] M) :
    ∀ (n : Nat) (l9 : Int) (l7 : Int), UC_assetsOf_56_L77 F n M l2 l3 l9 l7 = some res → bz_J K 11 77 [(9, bz_i l9), (7, bz_l l7), (0, bz_rf E 53), (2, bz_i l2), (3, bz_i l3), (6, bz_rf E 56)] [] M := by
  intro n
  induction n with
  | zero => intro l9 l7 hf; cases hf
  | succ n ih =>
    intro l9 l7 hf
    rw [UC_assetsOf_56_L77] at hf
    refine j_iload X dUC_assetsOf_77 0 rfl ?_
    refine j_iload_n X dUC_assetsOf_79 rfl 3 rfl ?_
    refine j_icmp_ge X (tgt := 121) rfl rfl dUC_assetsOf_80 (by decide) hf (fun hf => ?_) (fun hf => ?_)
    · exact j_sub [1] rfl (kx _ hf)
    · refine j_lload X dUC_assetsOf_83 1 rfl ?_
      refine j_aload_n X dUC_assetsOf_85 rfl 2 rfl ?_
      refine j_geta X gf_UC_28_53 dUC_assetsOf_86 ?_
      refine j_iload_n X dUC_assetsOf_89 rfl 3 rfl ?_
      refine j_iconst X dUC_assetsOf_90 ?_
      refine j_imul X dUC_assetsOf_91 ?_
      refine j_iload X dUC_assetsOf_92 0 rfl ?_
      show bz_J _ _ 94 _ _ _
      refine j_iadd X dUC_assetsOf_94 ?_
      refine j_iald X sh_59 dUC_assetsOf_95 hf (fun x5 hf => ?_)
      refine j_i2l X rfl dUC_assetsOf_96 ?_
      refine j_aload X dUC_assetsOf_97 5 rfl ?_
      refine j_iload X dUC_assetsOf_99 0 rfl ?_
      refine j_iload_n X dUC_assetsOf_101 rfl 4 rfl ?_
      refine j_cn X (st := [bz_rf E 56, bz_l (w32 x5), bz_l l7]) (cU_slot E) gyU_slot wd_853 rfl (by decide) (by decide) nl_852 rfl (Nat.le_of_ble_eq_true rfl) dUC_assetsOf_102 ?_
      refine j_iald X sh_56 dUC_assetsOf_105 hf (fun x6 hf => ?_)
      show bz_J _ _ 106 _ _ _
      refine j_i2l X rfl dUC_assetsOf_106 ?_
      refine j_lmul X dUC_assetsOf_107 ?_
      refine j_ldc2 X (v := 100) wd_863 dUC_assetsOf_108 ?_
      refine j_ldl X (w64_lit rfl) (by decide) dUC_assetsOf_111 ?_
      refine j_ladd X dUC_assetsOf_112 ?_
      refine j_lt (g := bz_l) hf (fun l7 hf => ?_)
      refine j_lstore X (lv' := [(7, bz_l l7), (9, bz_i l9), (0, bz_rf E 53), (2, bz_i l2), (3, bz_i l3), (6, bz_rf E 56)]) dUC_assetsOf_113 (by decide) rfl ?_
      refine j_iinc X (y := l9 + 1) (lv' := [(9, bz_i (l9 + 1)), (7, bz_l l7), (0, bz_rf E 53), (2, bz_i l2), (3, bz_i l3), (6, bz_rf E 56)]) dUC_assetsOf_115 1 rfl rfl (by decide) rfl ?_
      refine j_goto X (tgt := 77) dUC_assetsOf_118 (by decide) ?_
      exact ih _ _ hf
def fUC_assetsOf_56 (F : Nat) (M : bz_Mm) (a2 : Int) (a3 : Int) (a4 : Int) : Option (Int) :=
  cl1_ (UC_assetsOf_56_L7 F F M a2 a3 0 a4) fun l7 =>
  cl1_ (UC_assetsOf_56_L77 F F M a2 a3 0 l7) fun l7 =>
  some l7
set_option maxHeartbeats 4000000 in
set_option maxRecDepth 20000 in
theorem cUC_assetsOf_56 (E : bz_E) (F : Nat)  {M : bz_Mm} {a2 : Int} {a3 : Int} {a4 : Int} {x0 : Int} (hf : fUC_assetsOf_56 F M a2 a3 a4 = some x0) : bz_Ct E yUC_assetsOf (.code yUC_assetsOf prog_5_method_17_code 11 (some .long)) 1 21 [bz_rf E 53, bz_rf E 1, bz_i a2, bz_i a3, bz_l a4, bz_rf E 56] M (some (bz_l x0)) M := by
  refine bz_met (by decide +kernel) (Nat.le_of_ble_eq_true rfl) (fun K X => ?_)
  have X : bz_X K E prog_5_method_17_code 11 "UnitsWrong$Course" (some .long) 1 21 _ _ := X
  unfold fUC_assetsOf_56 at hf
  show bz_J K 11 0 [(0, bz_rf E 53), (1, bz_rf E 1), (2, bz_i a2), (3, bz_i a3), (4, bz_l a4), (6, bz_rf E 56)] [] M
  refine j_lload X dUC_assetsOf_0 4 rfl ?_
  refine j_lstore X (lv' := [(7, bz_l a4), (0, bz_rf E 53), (1, bz_rf E 1), (2, bz_i a2), (3, bz_i a3), (4, bz_l a4), (6, bz_rf E 56)]) dUC_assetsOf_2 (by decide) rfl ?_
  refine j_iconst X dUC_assetsOf_4 ?_
  refine j_istore X (lv' := [(9, bz_i 0), (7, bz_l a4), (0, bz_rf E 53), (1, bz_rf E 1), (2, bz_i a2), (3, bz_i a3), (4, bz_l a4), (6, bz_rf E 56)]) dUC_assetsOf_5 (by decide) rfl ?_
  obtain ⟨res8, hz8, hk8⟩ := q_l1 hf
  clear hf
  refine j_sub [0, 1, 2, 3, 4, 5, 7] rfl ?_
  refine lUC_assetsOf_56_L7 E F X (fun l7 he => ?_) F 0 a4 hz8
  have hf := hk8 _ he
  refine j_iconst X dUC_assetsOf_74 ?_
  refine j_istore X (lv' := [(9, bz_i 0), (7, bz_l l7), (0, bz_rf E 53), (2, bz_i a2), (3, bz_i a3), (6, bz_rf E 56)]) dUC_assetsOf_75 (by decide) rfl ?_
  obtain ⟨res7, hz7, hk7⟩ := q_l1 hf
  clear hf
  refine lUC_assetsOf_56_L77 E F X (fun l7 he => ?_) F 0 l7 hz7
  have hf := hk7 _ he
  refine j_lload X dUC_assetsOf_121 0 rfl ?_
  cases hf
  exact j_lret X dUC_assetsOf_123 rfl rfl
def UC_flowOf_L8 (F : Nat) : Nat → bz_Mm → Int → Int → Int → Option (Int)
  | 0, _, _, _, _ => none
  | n + 1, M, l2, l5, l3 =>
    if w32 l5 < w32 (M 53 16) then
    (rd_ M 36 l5 200 fun x1 =>
    rd_ M 38 x1 200 fun x2 =>
    if w32 x2 = w32 l2 then
    (rd_ M 40 x1 200 fun x3 =>
    lt_ (l3 + (w32 x3)) fun l3 =>
    UC_flowOf_L8 F n M l2 (l5 + 1) l3)
    else
    (UC_flowOf_L8 F n M l2 (l5 + 1) l3))
    else
    (some l3)
theorem lUC_flowOf_L8 (E : bz_E) (F : Nat) {K : bz_K} {rv : Option Value} {M1 : bz_Mm} (X : bz_X K E prog_5_method_19_code 7 "UnitsWrong$Course" (some .long) 0 0 rv M1) {M : bz_Mm} {l2 : Int} {res : (Int)}
    (kx : ∀ (l3 : Int), some l3 = some res → bz_J K 7 57 [(3, bz_l l3)] [] M) :
    ∀ (n : Nat) (l5 : Int) (l3 : Int), UC_flowOf_L8 F n M l2 l5 l3 = some res → bz_J K 7 8 [(5, bz_i l5), (3, bz_l l3), (0, bz_rf E 53), (1, bz_rf E 33), (2, bz_i l2)] [] M := by
  intro n
  induction n with
  | zero => intro l5 l3 hf; cases hf
  | succ n ih =>
    intro l5 l3 hf
    rw [UC_flowOf_L8] at hf
    refine j_iload X dUC_flowOf_8 0 rfl ?_
    refine j_aload_n X dUC_flowOf_10 rfl 2 rfl ?_
    refine j_geti X gf_UC_160_53 dUC_flowOf_11 ?_
    refine j_icmp_ge X (tgt := 57) rfl rfl dUC_flowOf_14 (by decide) hf (fun hf => ?_) (fun hf => ?_)
    · exact j_sub [1] rfl (kx _ hf)
    · refine j_aload_n X dUC_flowOf_17 rfl 3 rfl ?_
      refine j_geta X gf_UC_193_33 dUC_flowOf_18 ?_
      refine j_geta X gf_UC_215_34 dUC_flowOf_21 ?_
      refine j_iload X dUC_flowOf_24 0 rfl ?_
      refine j_iald X sh_36 dUC_flowOf_26 hf (fun x1 hf => ?_)
      refine j_istore X (lv' := [(6, bz_i x1), (5, bz_i l5), (3, bz_l l3), (0, bz_rf E 53), (1, bz_rf E 33), (2, bz_i l2)]) dUC_flowOf_27 (by decide) rfl ?_
      refine j_aload_n X dUC_flowOf_29 rfl 4 rfl ?_
      show bz_J _ _ 30 _ _ _
      refine j_geta X gf_UC_295_33 dUC_flowOf_30 ?_
      refine j_iload X dUC_flowOf_33 0 rfl ?_
      refine j_iald X sh_38 dUC_flowOf_35 hf (fun x2 hf => ?_)
      refine j_iload_n X dUC_flowOf_36 rfl 5 rfl ?_
      refine j_icmp_ne X (tgt := 51) rfl rfl dUC_flowOf_37 (by decide) hf (fun hf => ?_) (fun hf => ?_)
      · refine j_iinc X (y := l5 + 1) (lv' := [(5, bz_i (l5 + 1)), (6, bz_i x1), (3, bz_l l3), (0, bz_rf E 53), (1, bz_rf E 33), (2, bz_i l2)]) dUC_flowOf_51 1 rfl rfl (by decide) rfl ?_
        refine j_goto X (tgt := 8) dUC_flowOf_54 (by decide) ?_
        exact j_sub [0, 2, 3, 4, 5] rfl (ih _ _ hf)
      · refine j_lload_n X dUC_flowOf_40 rfl 2 rfl ?_
        refine j_aload_n X dUC_flowOf_41 rfl 4 rfl ?_
        refine j_geta X gf_UC_296_33 dUC_flowOf_42 ?_
        refine j_iload X dUC_flowOf_45 0 rfl ?_
        refine j_iald X sh_40 dUC_flowOf_47 hf (fun x3 hf => ?_)
        refine j_i2l X rfl dUC_flowOf_48 ?_
        refine j_ladd X dUC_flowOf_49 ?_
        show bz_J _ _ 50 _ _ _
        refine j_lt (g := bz_l) hf (fun l3 hf => ?_)
        refine j_lstore_n X (lv' := [(3, bz_l l3), (6, bz_i x1), (5, bz_i l5), (0, bz_rf E 53), (1, bz_rf E 33), (2, bz_i l2)]) dUC_flowOf_50 rfl (by decide) rfl ?_
        refine j_iinc X (y := l5 + 1) (lv' := [(5, bz_i (l5 + 1)), (3, bz_l l3), (6, bz_i x1), (0, bz_rf E 53), (1, bz_rf E 33), (2, bz_i l2)]) dUC_flowOf_51 2 rfl rfl (by decide) rfl ?_
        refine j_goto X (tgt := 8) dUC_flowOf_54 (by decide) ?_
        exact j_sub [0, 1, 3, 4, 5] rfl (ih _ _ hf)
def fUC_flowOf (F : Nat) (M : bz_Mm) (a2 : Int) : Option (Int) :=
  lt_ (M 53 15) fun l5 =>
  cl1_ (UC_flowOf_L8 F F M a2 l5 0) fun l3 =>
  some l3
set_option maxHeartbeats 4000000 in
set_option maxRecDepth 20000 in
theorem cUC_flowOf (E : bz_E) (F : Nat)  {M : bz_Mm} {a2 : Int} {x0 : Int} (hf : fUC_flowOf F M a2 = some x0) : bz_Ct E yUC_flowOf (.code yUC_flowOf prog_5_method_19_code 7 (some .long)) 0 0 [bz_rf E 53, bz_rf E 33, bz_i a2] M (some (bz_l x0)) M := by
  refine bz_met (by decide +kernel) (Nat.le_of_ble_eq_true rfl) (fun K X => ?_)
  have X : bz_X K E prog_5_method_19_code 7 "UnitsWrong$Course" (some .long) 0 0 _ _ := X
  unfold fUC_flowOf at hf
  show bz_J K 7 0 [(0, bz_rf E 53), (1, bz_rf E 33), (2, bz_i a2)] [] M
  refine j_lconst X (v := 0) dUC_flowOf_0 rfl ?_
  refine j_lstore_n X (lv' := [(3, bz_l 0), (0, bz_rf E 53), (1, bz_rf E 33), (2, bz_i a2)]) dUC_flowOf_1 rfl (by decide) rfl ?_
  refine j_aload_n X dUC_flowOf_2 rfl 1 rfl ?_
  refine j_geti X gf_UC_268_53 dUC_flowOf_3 ?_
  refine j_lt (g := bz_i) hf (fun l5 hf => ?_)
  refine j_istore X (lv' := [(5, bz_i l5), (3, bz_l 0), (0, bz_rf E 53), (1, bz_rf E 33), (2, bz_i a2)]) dUC_flowOf_6 (by decide) rfl ?_
  obtain ⟨res4, hz4, hk4⟩ := q_l1 hf
  clear hf
  refine lUC_flowOf_L8 E F X (fun l3 he => ?_) F l5 0 hz4
  have hf := hk4 _ he
  refine j_lload_n X dUC_flowOf_57 rfl 0 rfl ?_
  cases hf
  exact j_lret X dUC_flowOf_58 rfl rfl
def gJM_abs1 (a0 : Int) : Option Int :=
  if w64 a0 < 0 then
  (some (-a0))
  else
  (some a0)
def fJM_abs1 (a0 : Int) : Int :=
  if w64 a0 < 0 then
  ((-a0))
  else
  (a0)
theorem tJM_abs1 (a0 : Int) : gJM_abs1 a0 = some (fJM_abs1 a0) := by
  unfold gJM_abs1 fJM_abs1
  (repeat' (first | rfl | split))
set_option maxHeartbeats 4000000 in
set_option maxRecDepth 20000 in
theorem cJM_abs1 (E : bz_E) {M : bz_Mm} {a0 : Int} : bz_Ct E yJM_abs1 (.code yJM_abs1 prog_16_method_61_code 2 (some .long)) 0 0 [bz_l a0] M (some (bz_l (fJM_abs1 a0))) M := by
  have hf := tJM_abs1 a0
  refine bz_metF (by decide +kernel) (Nat.le_of_ble_eq_true rfl) (fun K X => ?_)
  have X : bz_X K E prog_16_method_61_code 2 "java/lang/Math" (some .long) 0 0 _ _ := X
  unfold gJM_abs1 at hf
  generalize fJM_abs1 a0 = rr at hf X
  show bz_J K 2 0 [(0, bz_l a0)] [] M
  refine j_lload_n X dJM_abs1_0 rfl 0 rfl ?_
  refine j_lconst X (v := 0) dJM_abs1_1 rfl ?_
  refine j_lcmp_ge X (tgt := 11) rfl (w64_lit rfl) dJM_abs1_2 dJM_abs1_3 (by decide) hf (fun hf => ?_) (fun hf => ?_)
  · refine j_lload_n X dJM_abs1_11 rfl 0 rfl ?_
    cases hf
    exact j_lret X dJM_abs1_12 rfl rfl
  · refine j_lload_n X dJM_abs1_6 rfl 0 rfl ?_
    refine j_lneg X dJM_abs1_7 ?_
    refine j_goto X (tgt := 12) dJM_abs1_8 (by decide) ?_
    cases hf
    exact j_lret X dJM_abs1_12 rfl rfl
def fUC_makePrice_55_56_57 (F : Nat) (M : bz_Mm) (a2 : Int) (a3 : Int) : Option (bz_Mm) :=
  rd_ M 55 a2 4 fun x1 =>
  cl_ (fUC_assetsOf_56 F M a2 a3 x1) fun x2 =>
  cl_ (fUL_value F M a2 a3 0) fun x3 =>
  lt_ ((w64 ((fJM_max1 0 x2) * (w32 x3))).tdiv 1000000) fun l9 =>
  rd_ M 60 a2 4 fun x4 =>
  cl1_ (if 0 < w32 x4 then
  (rd_ M 60 a2 4 fun x7 =>
  dv_ ((x2 - l9) * 100) (w32 x7) fun x8 =>
  some (x8))
  else
  (some (10000))) fun v6 =>
  lt_ (fJM_max1 0 (fJM_min1 10000000 v6)) fun l11 =>
  cl_ (fUC_flowOf F M a2) fun x9 =>
  cl_ (fUL_value F M a2 a3 2) fun x10 =>
  rd_ M 60 a2 4 fun x11 =>
  cl1_ (if w64 ((w32 x10) * (w32 x11)) < w64 (10000 * (fJM_abs1 x9)) then
  (cl_ (fUL_value F M a2 a3 1) fun x13 =>
  cl1_ (if w64 x9 < 0 then
  (some (10000 - x13))
  else
  (some (10000 + x13))) fun v15 =>
  lt_ (fJM_min1 10000000 ((w64 (l11 * (w32 v15))).tdiv 10000)) fun l11 =>
  some (l11))
  else
  (some (l11))) fun l11 =>
  wa_ M 57 (fU_slot a2 a3) 1040 l9 fun m16 =>
  wa_ m16 56 (fU_slot a2 a3) 1040 l11 fun m17 =>
  some m17
set_option maxHeartbeats 4000000 in
set_option maxRecDepth 20000 in
theorem cUC_makePrice_55_56_57 (E : bz_E) (F : Nat)  {M : bz_Mm} {a2 : Int} {a3 : Int} {x0 : bz_Mm} (hf : fUC_makePrice_55_56_57 F M a2 a3 = some x0) : bz_Ct E yUC_makePrice (.code yUC_makePrice prog_5_method_18_code 16 none) 2 51 [bz_rf E 53, bz_rf E 1, bz_i a2, bz_i a3, bz_rf E 55, bz_rf E 56, bz_rf E 57] M (none) x0 := by
  refine bz_met (by decide +kernel) (Nat.le_of_ble_eq_true rfl) (fun K X => ?_)
  have X : bz_X K E prog_5_method_18_code 16 "UnitsWrong$Course" none 2 51 _ _ := X
  unfold fUC_makePrice_55_56_57 at hf
  show bz_J K 16 0 [(0, bz_rf E 53), (1, bz_rf E 1), (2, bz_i a2), (3, bz_i a3), (4, bz_rf E 55), (5, bz_rf E 56), (6, bz_rf E 57)] [] M
  refine j_aload_n X dUC_makePrice_0 rfl 0 rfl ?_
  refine j_aload_n X dUC_makePrice_1 rfl 1 rfl ?_
  refine j_iload_n X dUC_makePrice_2 rfl 2 rfl ?_
  refine j_iload_n X dUC_makePrice_3 rfl 3 rfl ?_
  refine j_aload X dUC_makePrice_4 4 rfl ?_
  refine j_iload_n X dUC_makePrice_6 rfl 2 rfl ?_
  refine j_lald X sh_55 dUC_makePrice_7 hf (fun x1 hf => ?_)
  show bz_J _ _ 8 _ _ _
  refine j_aload X dUC_makePrice_8 5 rfl ?_
  obtain ⟨x2, hzx2, hf⟩ := q_cl hf
  refine j_cv X (st := []) (cUC_assetsOf_56 E F hzx2) gyUC_assetsOf gv_UC_assetsOf_53 rfl (by decide) (by decide) wd_859 rfl (Nat.le_of_ble_eq_true rfl) dUC_makePrice_10 ?_
  refine j_lstore X (lv' := [(7, bz_l x2), (0, bz_rf E 53), (1, bz_rf E 1), (2, bz_i a2), (3, bz_i a3), (4, bz_rf E 55), (5, bz_rf E 56), (6, bz_rf E 57)]) dUC_makePrice_13 (by decide) rfl ?_
  refine j_lconst X (v := 0) dUC_makePrice_15 rfl ?_
  refine j_lload X dUC_makePrice_16 0 rfl ?_
  refine j_cs X (st := []) (cJM_max1 E) gyJM_max1 wd_837 rfl (by decide) (by decide) wd_836 rfl (Nat.le_of_ble_eq_true rfl) dUC_makePrice_18 ?_
  refine j_aload_n X dUC_makePrice_21 rfl 2 rfl ?_
  refine j_geta X gf_UC_277_1 dUC_makePrice_22 ?_
  show bz_J _ _ 25 _ _ _
  refine j_iload_n X dUC_makePrice_25 rfl 3 rfl ?_
  refine j_iload_n X dUC_makePrice_26 rfl 4 rfl ?_
  refine j_iconst X dUC_makePrice_27 ?_
  obtain ⟨x3, hzx3, hf⟩ := q_cl hf
  refine j_cv X (st := [bz_l (fJM_max1 0 x2)]) (cUL_value E F hzx3) gyUL_value gv_UL_value_45 rfl (by decide) (by decide) wd_864 rfl (Nat.le_of_ble_eq_true rfl) dUC_makePrice_28 ?_
  refine j_i2l X rfl dUC_makePrice_31 ?_
  refine j_lmul X dUC_makePrice_32 ?_
  refine j_ldc2 X (v := 1000000) wd_832 dUC_makePrice_33 ?_
  refine j_ldl X (w64_lit rfl) (by decide) dUC_makePrice_36 ?_
  show bz_J _ _ 37 _ _ _
  refine j_lt (g := bz_l) hf (fun l9 hf => ?_)
  refine j_lstore X (lv' := [(9, bz_l l9), (7, bz_l x2), (0, bz_rf E 53), (1, bz_rf E 1), (2, bz_i a2), (3, bz_i a3), (4, bz_rf E 55), (5, bz_rf E 56), (6, bz_rf E 57)]) dUC_makePrice_37 (by decide) rfl ?_
  refine j_aload_n X dUC_makePrice_39 rfl 2 rfl ?_
  refine j_geta X gf_UC_31_53 dUC_makePrice_40 ?_
  refine j_iload_n X dUC_makePrice_43 rfl 4 rfl ?_
  refine j_iald X sh_60 dUC_makePrice_44 hf (fun x4 hf => ?_)
  obtain ⟨resJ5, hf0, hkJ5⟩ := q_l1 hf
  have J5 : ∀ (v6 : Int), some v6 = some resJ5 → bz_J K 16 71 [(9, bz_l l9), (0, bz_rf E 53), (1, bz_rf E 1), (2, bz_i a2), (3, bz_i a3), (5, bz_rf E 56), (6, bz_rf E 57)] [bz_l v6] M := by
    intro v6 he
    have hf := hkJ5 _ he
    refine j_lstore X (lv' := [(11, bz_l v6), (9, bz_l l9), (0, bz_rf E 53), (1, bz_rf E 1), (2, bz_i a2), (3, bz_i a3), (5, bz_rf E 56), (6, bz_rf E 57)]) dUC_makePrice_71 (by decide) rfl ?_
    refine j_lconst X (v := 0) dUC_makePrice_73 rfl ?_
    refine j_ldc2 X (v := 10000000) wd_866 dUC_makePrice_74 ?_
    refine j_lload X dUC_makePrice_77 0 rfl ?_
    refine j_cs X (st := [bz_l 0]) (cJM_min1 E) gyJM_min1 wd_834 rfl (by decide) (by decide) wd_833 rfl (Nat.le_of_ble_eq_true rfl) dUC_makePrice_79 ?_
    refine j_cs X (st := []) (cJM_max1 E) gyJM_max1 wd_837 rfl (by decide) (by decide) wd_836 rfl (Nat.le_of_ble_eq_true rfl) dUC_makePrice_82 ?_
    refine j_lt (g := bz_l) hf (fun l11 hf => ?_)
    refine j_lstore X (lv' := [(11, bz_l l11), (9, bz_l l9), (0, bz_rf E 53), (1, bz_rf E 1), (2, bz_i a2), (3, bz_i a3), (5, bz_rf E 56), (6, bz_rf E 57)]) dUC_makePrice_85 (by decide) rfl ?_
    show bz_J _ _ 87 _ _ _
    refine j_aload_n X dUC_makePrice_87 rfl 2 rfl ?_
    refine j_aload_n X dUC_makePrice_88 rfl 3 rfl ?_
    refine j_geta X gf_UC_105_1 dUC_makePrice_89 ?_
    refine j_iload_n X dUC_makePrice_92 rfl 4 rfl ?_
    obtain ⟨x9, hzx9, hf⟩ := q_cl hf
    refine j_cv X (st := []) (cUC_flowOf E F hzx9) gyUC_flowOf gv_UC_flowOf_53 rfl (by decide) (by decide) wd_867 rfl (Nat.le_of_ble_eq_true rfl) dUC_makePrice_93 ?_
    refine j_lstore X (lv' := [(13, bz_l x9), (11, bz_l l11), (9, bz_l l9), (0, bz_rf E 53), (1, bz_rf E 1), (2, bz_i a2), (3, bz_i a3), (5, bz_rf E 56), (6, bz_rf E 57)]) dUC_makePrice_96 (by decide) rfl ?_
    refine j_ldc2 X (v := 10000) wd_865 dUC_makePrice_98 ?_
    refine j_lload X dUC_makePrice_101 0 rfl ?_
    show bz_J _ _ 103 _ _ _
    refine j_cs X (st := [bz_l 10000]) (cJM_abs1 E) gyJM_abs1 wd_872 rfl (by decide) (by decide) wd_871 rfl (Nat.le_of_ble_eq_true rfl) dUC_makePrice_103 ?_
    refine j_lmul X dUC_makePrice_106 ?_
    refine j_aload_n X dUC_makePrice_107 rfl 4 rfl ?_
    refine j_geta X gf_UC_277_1 dUC_makePrice_108 ?_
    refine j_iload_n X dUC_makePrice_111 rfl 5 rfl ?_
    refine j_iload_n X dUC_makePrice_112 rfl 6 rfl ?_
    refine j_iconst X dUC_makePrice_113 ?_
    obtain ⟨x10, hzx10, hf⟩ := q_cl hf
    refine j_cv X (st := [bz_l (10000 * (fJM_abs1 x9))]) (cUL_value E F hzx10) gyUL_value gv_UL_value_45 rfl (by decide) (by decide) wd_864 rfl (Nat.le_of_ble_eq_true rfl) dUC_makePrice_114 ?_
    show bz_J _ _ 117 _ _ _
    refine j_i2l X rfl dUC_makePrice_117 ?_
    refine j_aload_n X dUC_makePrice_118 rfl 3 rfl ?_
    refine j_geta X gf_UC_31_53 dUC_makePrice_119 ?_
    refine j_iload_n X dUC_makePrice_122 rfl 5 rfl ?_
    refine j_iald X sh_60 dUC_makePrice_123 hf (fun x11 hf => ?_)
    refine j_i2l X rfl dUC_makePrice_124 ?_
    refine j_lmul X dUC_makePrice_125 ?_
    obtain ⟨resJ12, hf0, hkJ12⟩ := q_l1 hf
    have J12 : ∀ (l11 : Int), some l11 = some resJ12 → bz_J K 16 180 [(11, bz_l l11), (9, bz_l l9), (2, bz_i a2), (3, bz_i a3), (5, bz_rf E 56), (6, bz_rf E 57)] [] M := by
      intro l11 he
      have hf := hkJ12 _ he
      refine j_aload X dUC_makePrice_180 5 rfl ?_
      refine j_iload_n X dUC_makePrice_182 rfl 2 rfl ?_
      refine j_iload_n X dUC_makePrice_183 rfl 3 rfl ?_
      refine j_cn X (st := [bz_rf E 57]) (cU_slot E) gyU_slot wd_853 rfl (by decide) (by decide) nl_852 rfl (Nat.le_of_ble_eq_true rfl) dUC_makePrice_184 ?_
      refine j_lload X dUC_makePrice_187 1 rfl ?_
      refine j_last X sh_57 dUC_makePrice_189 hf (fun m16 hf => ?_)
      refine j_aload X dUC_makePrice_190 4 rfl ?_
      show bz_J _ _ 192 _ _ _
      refine j_iload_n X dUC_makePrice_192 rfl 2 rfl ?_
      refine j_iload_n X dUC_makePrice_193 rfl 3 rfl ?_
      refine j_cn X (st := [bz_rf E 56]) (cU_slot E) gyU_slot wd_853 rfl (by decide) (by decide) nl_852 rfl (Nat.le_of_ble_eq_true rfl) dUC_makePrice_194 ?_
      refine j_lload X dUC_makePrice_197 0 rfl ?_
      refine j_l2i X dUC_makePrice_199 ?_
      refine j_iast X sh_56 dUC_makePrice_200 hf (fun m17 hf => ?_)
      cases hf
      exact j_vret X dUC_makePrice_201 rfl rfl
    clear hf
    have hf := hf0
    clear hf0
    refine j_lcmp_le X (tgt := 180) rfl rfl dUC_makePrice_126 dUC_makePrice_127 (by decide) hf (fun hf => ?_) (fun hf => ?_)
    · exact j_sub [1, 2, 5, 6, 7, 8] rfl (J12 _ hf)
    · refine j_aload_n X dUC_makePrice_130 rfl 4 rfl ?_
      refine j_geta X gf_UC_277_1 dUC_makePrice_131 ?_
      refine j_iload_n X dUC_makePrice_134 rfl 5 rfl ?_
      refine j_iload_n X dUC_makePrice_135 rfl 6 rfl ?_
      refine j_iconst X dUC_makePrice_136 ?_
      obtain ⟨x13, hzx13, hf⟩ := q_cl hf
      refine j_cv X (st := []) (cUL_value E F hzx13) gyUL_value gv_UL_value_45 rfl (by decide) (by decide) wd_864 rfl (Nat.le_of_ble_eq_true rfl) dUC_makePrice_137 ?_
      refine j_istore X (lv' := [(15, bz_i x13), (13, bz_l x9), (11, bz_l l11), (9, bz_l l9), (0, bz_rf E 53), (1, bz_rf E 1), (2, bz_i a2), (3, bz_i a3), (5, bz_rf E 56), (6, bz_rf E 57)]) dUC_makePrice_140 (by decide) rfl ?_
      show bz_J _ _ 142 _ _ _
      refine j_ldc2 X (v := 10000000) wd_866 dUC_makePrice_142 ?_
      refine j_lload X dUC_makePrice_145 2 rfl ?_
      refine j_lload X dUC_makePrice_147 1 rfl ?_
      refine j_lconst X (v := 0) dUC_makePrice_149 rfl ?_
      obtain ⟨resJ14, hf0, hkJ14⟩ := q_l1 hf
      have J14 : ∀ (v15 : Int), some v15 = some resJ14 → bz_J K 16 169 [(9, bz_l l9), (2, bz_i a2), (3, bz_i a3), (5, bz_rf E 56), (6, bz_rf E 57)] [bz_i v15, bz_l l11, bz_l 10000000] M := by
        intro v15 he
        have hf := hkJ14 _ he
        refine j_i2l X rfl dUC_makePrice_169 ?_
        refine j_lmul X dUC_makePrice_170 ?_
        refine j_ldc2 X (v := 10000) wd_865 dUC_makePrice_171 ?_
        refine j_ldl X (w64_lit rfl) (by decide) dUC_makePrice_174 ?_
        refine j_cs X (st := []) (cJM_min1 E) gyJM_min1 wd_834 rfl (by decide) (by decide) wd_833 rfl (Nat.le_of_ble_eq_true rfl) dUC_makePrice_175 ?_
        refine j_lt (g := bz_l) hf (fun l11 hf => ?_)
        refine j_lstore X (lv' := [(11, bz_l l11), (9, bz_l l9), (2, bz_i a2), (3, bz_i a3), (5, bz_rf E 56), (6, bz_rf E 57)]) dUC_makePrice_178 (by decide) rfl ?_
        exact J12 _ hf
      clear hf
      have hf := hf0
      clear hf0
      refine j_lcmp_ge X (tgt := 163) rfl (w64_lit rfl) dUC_makePrice_150 dUC_makePrice_151 (by decide) hf (fun hf => ?_) (fun hf => ?_)
      · refine j_sipush X dUC_makePrice_163 rfl ?_
        refine j_iload X dUC_makePrice_166 0 rfl ?_
        refine j_iadd X dUC_makePrice_168 ?_
        exact j_sub [3, 6, 7, 8, 9] rfl (J14 _ hf)
      · refine j_sipush X dUC_makePrice_154 rfl ?_
        refine j_iload X dUC_makePrice_157 0 rfl ?_
        refine j_isub X dUC_makePrice_159 ?_
        refine j_goto X (tgt := 169) dUC_makePrice_160 (by decide) ?_
        exact j_sub [3, 6, 7, 8, 9] rfl (J14 _ hf)
  clear hf
  have hf := hf0
  clear hf0
  refine j_if_le X (tgt := 68) rfl dUC_makePrice_45 (by decide) hf (fun hf => ?_) (fun hf => ?_)
  · refine j_ldc2 X (v := 10000) wd_865 dUC_makePrice_68 ?_
    exact j_sub [0, 2, 3, 4, 5, 7, 8] rfl (J5 _ hf)
  · refine j_lload X dUC_makePrice_48 1 rfl ?_
    refine j_lload X dUC_makePrice_50 0 rfl ?_
    refine j_lsub X dUC_makePrice_52 ?_
    refine j_ldc2 X (v := 100) wd_863 dUC_makePrice_53 ?_
    refine j_lmul X dUC_makePrice_56 ?_
    refine j_aload_n X dUC_makePrice_57 rfl 2 rfl ?_
    refine j_geta X gf_UC_31_53 dUC_makePrice_58 ?_
    show bz_J _ _ 61 _ _ _
    refine j_iload_n X dUC_makePrice_61 rfl 4 rfl ?_
    refine j_iald X sh_60 dUC_makePrice_62 hf (fun x7 hf => ?_)
    refine j_i2l X rfl dUC_makePrice_63 ?_
    refine j_ldiv X dUC_makePrice_64 hf (fun x8 hf => ?_)
    refine j_goto X (tgt := 71) dUC_makePrice_65 (by decide) ?_
    exact j_sub [0, 2, 3, 4, 5, 7, 8] rfl (J5 _ hf)
def gUD_coinsOf (a0 : Int) (a1 : Int) : Option Int :=
  if 0 < w32 a0 then
  (some ((w64 (((w32 a0) * (w32 a1)) + 99)).tdiv 100))
  else
  (some ((w64 ((-(w32 a0)) * (w32 a1))).tdiv 100))
def fUD_coinsOf (a0 : Int) (a1 : Int) : Int :=
  if 0 < w32 a0 then
  (((w64 (((w32 a0) * (w32 a1)) + 99)).tdiv 100))
  else
  (((w64 ((-(w32 a0)) * (w32 a1))).tdiv 100))
theorem tUD_coinsOf (a0 : Int) (a1 : Int) : gUD_coinsOf a0 a1 = some (fUD_coinsOf a0 a1) := by
  unfold gUD_coinsOf fUD_coinsOf
  (repeat' (first | rfl | split))
set_option maxHeartbeats 4000000 in
set_option maxRecDepth 20000 in
theorem cUD_coinsOf (E : bz_E) {M : bz_Mm} {a0 : Int} {a1 : Int} : bz_Ct E yUD_coinsOf (.code yUD_coinsOf prog_6_method_4_code 2 (some .long)) 0 0 [bz_i a0, bz_i a1] M (some (bz_l (fUD_coinsOf a0 a1))) M := by
  have hf := tUD_coinsOf a0 a1
  refine bz_met (by decide +kernel) (Nat.le_of_ble_eq_true rfl) (fun K X => ?_)
  have X : bz_X K E prog_6_method_4_code 2 "UnitsWrong$Deals" (some .long) 0 0 _ _ := X
  unfold gUD_coinsOf at hf
  generalize fUD_coinsOf a0 a1 = rr at hf X
  show bz_J K 2 0 [(0, bz_i a0), (1, bz_i a1)] [] M
  refine j_iload_n X dUD_coinsOf_0 rfl 0 rfl ?_
  refine j_if_le X (tgt := 20) rfl dUD_coinsOf_1 (by decide) hf (fun hf => ?_) (fun hf => ?_)
  · refine j_iload_n X dUD_coinsOf_20 rfl 0 rfl ?_
    refine j_i2l X rfl dUD_coinsOf_21 ?_
    refine j_lneg X dUD_coinsOf_22 ?_
    refine j_iload_n X dUD_coinsOf_23 rfl 1 rfl ?_
    refine j_i2l X rfl dUD_coinsOf_24 ?_
    refine j_lmul X dUD_coinsOf_25 ?_
    refine j_ldc2 X (v := 100) wd_882 dUD_coinsOf_26 ?_
    show bz_J _ _ 29 _ _ _
    refine j_ldl X (w64_lit rfl) (by decide) dUD_coinsOf_29 ?_
    cases hf
    exact j_lret X dUD_coinsOf_30 rfl rfl
  · refine j_iload_n X dUD_coinsOf_4 rfl 0 rfl ?_
    refine j_i2l X rfl dUD_coinsOf_5 ?_
    refine j_iload_n X dUD_coinsOf_6 rfl 1 rfl ?_
    refine j_i2l X rfl dUD_coinsOf_7 ?_
    refine j_lmul X dUD_coinsOf_8 ?_
    refine j_ldc2 X (v := 99) wd_881 dUD_coinsOf_9 ?_
    refine j_ladd X dUD_coinsOf_12 ?_
    show bz_J _ _ 13 _ _ _
    refine j_ldc2 X (v := 100) wd_882 dUD_coinsOf_13 ?_
    refine j_ldl X (w64_lit rfl) (by decide) dUD_coinsOf_16 ?_
    refine j_goto X (tgt := 30) dUD_coinsOf_17 (by decide) ?_
    cases hf
    exact j_lret X dUD_coinsOf_30 rfl rfl
def UC_countCoins_42_L6 (F : Nat) : Nat → Int → Int → Int → bz_Mm → Option (bz_Mm)
  | 0, _, _, _, _ => none
  | n + 1, l2, l3, l5, M =>
    if w32 l5 < w32 (M 53 16) then
    (rd_ M 36 l5 200 fun x1 =>
    rd_ M 38 x1 200 fun x2 =>
    if w32 x2 = w32 l2 then
    (rd_ M 40 x1 200 fun x3 =>
    wa_ M 42 x1 200 (fUD_coinsOf x3 l3) fun m4 =>
    UC_countCoins_42_L6 F n l2 l3 (l5 + 1) m4)
    else
    (UC_countCoins_42_L6 F n l2 l3 (l5 + 1) M))
    else
    (some M)
theorem lUC_countCoins_42_L6 (E : bz_E) (F : Nat) {K : bz_K} {rv : Option Value} {M1 : bz_Mm} (X : bz_X K E prog_5_method_21_code 7 "UnitsWrong$Course" none 1 21 rv M1) {l2 : Int} {l3 : Int} {res : (bz_Mm)}
    (kx : ∀ (M : bz_Mm), some M = some res → bz_J K 7 60 [] [] M) :
    ∀ (n : Nat) (l5 : Int) (M : bz_Mm), UC_countCoins_42_L6 F n l2 l3 l5 M = some res → bz_J K 7 6 [(5, bz_i l5), (0, bz_rf E 53), (1, bz_rf E 33), (2, bz_i l2), (3, bz_i l3), (4, bz_rf E 42)] [] M := by
  intro n
  induction n with
  | zero => intro l5 M hf; cases hf
  | succ n ih =>
    intro l5 M hf
    rw [UC_countCoins_42_L6] at hf
    refine j_iload X dUC_countCoins_6 0 rfl ?_
    refine j_aload_n X dUC_countCoins_8 rfl 1 rfl ?_
    refine j_geti X gf_UC_160_53 dUC_countCoins_9 ?_
    refine j_icmp_ge X (tgt := 60) rfl rfl dUC_countCoins_12 (by decide) hf (fun hf => ?_) (fun hf => ?_)
    · exact j_sub [] rfl (kx _ hf)
    · refine j_aload_n X dUC_countCoins_15 rfl 2 rfl ?_
      refine j_geta X gf_UC_193_33 dUC_countCoins_16 ?_
      refine j_geta X gf_UC_215_34 dUC_countCoins_19 ?_
      refine j_iload X dUC_countCoins_22 0 rfl ?_
      refine j_iald X sh_36 dUC_countCoins_24 hf (fun x1 hf => ?_)
      refine j_istore X (lv' := [(6, bz_i x1), (5, bz_i l5), (0, bz_rf E 53), (1, bz_rf E 33), (2, bz_i l2), (3, bz_i l3), (4, bz_rf E 42)]) dUC_countCoins_25 (by decide) rfl ?_
      refine j_aload_n X dUC_countCoins_27 rfl 3 rfl ?_
      show bz_J _ _ 28 _ _ _
      refine j_geta X gf_UC_295_33 dUC_countCoins_28 ?_
      refine j_iload X dUC_countCoins_31 0 rfl ?_
      refine j_iald X sh_38 dUC_countCoins_33 hf (fun x2 hf => ?_)
      refine j_iload_n X dUC_countCoins_34 rfl 4 rfl ?_
      refine j_icmp_ne X (tgt := 54) rfl rfl dUC_countCoins_35 (by decide) hf (fun hf => ?_) (fun hf => ?_)
      · refine j_iinc X (y := l5 + 1) (lv' := [(5, bz_i (l5 + 1)), (6, bz_i x1), (0, bz_rf E 53), (1, bz_rf E 33), (2, bz_i l2), (3, bz_i l3), (4, bz_rf E 42)]) dUC_countCoins_54 1 rfl rfl (by decide) rfl ?_
        refine j_goto X (tgt := 6) dUC_countCoins_57 (by decide) ?_
        exact j_sub [0, 2, 3, 4, 5, 6] rfl (ih _ _ hf)
      · refine j_aload X dUC_countCoins_38 6 rfl ?_
        refine j_iload X dUC_countCoins_40 0 rfl ?_
        refine j_aload_n X dUC_countCoins_42 rfl 3 rfl ?_
        refine j_geta X gf_UC_296_33 dUC_countCoins_43 ?_
        refine j_iload X dUC_countCoins_46 0 rfl ?_
        refine j_iald X sh_40 dUC_countCoins_48 hf (fun x3 hf => ?_)
        refine j_iload_n X dUC_countCoins_49 rfl 5 rfl ?_
        show bz_J _ _ 50 _ _ _
        refine j_cs X (st := [bz_i x1, bz_rf E 42]) (cUD_coinsOf E) gyUD_coinsOf wd_879 rfl (by decide) (by decide) wd_878 rfl (Nat.le_of_ble_eq_true rfl) dUC_countCoins_50 ?_
        refine j_last X sh_42 dUC_countCoins_53 hf (fun m4 hf => ?_)
        refine j_iinc X (y := l5 + 1) (lv' := [(5, bz_i (l5 + 1)), (6, bz_i x1), (0, bz_rf E 53), (1, bz_rf E 33), (2, bz_i l2), (3, bz_i l3), (4, bz_rf E 42)]) dUC_countCoins_54 1 rfl rfl (by decide) rfl ?_
        refine j_goto X (tgt := 6) dUC_countCoins_57 (by decide) ?_
        exact j_sub [0, 2, 3, 4, 5, 6] rfl (ih _ _ hf)
def fUC_countCoins_42 (F : Nat) (M : bz_Mm) (a2 : Int) (a3 : Int) : Option (bz_Mm) :=
  lt_ (M 53 15) fun l5 =>
  cl1_ (UC_countCoins_42_L6 F F a2 a3 l5 M) fun m5 =>
  some m5
set_option maxHeartbeats 4000000 in
set_option maxRecDepth 20000 in
theorem cUC_countCoins_42 (E : bz_E) (F : Nat)  {M : bz_Mm} {a2 : Int} {a3 : Int} {x0 : bz_Mm} (hf : fUC_countCoins_42 F M a2 a3 = some x0) : bz_Ct E yUC_countCoins (.code yUC_countCoins prog_5_method_21_code 7 none) 1 21 [bz_rf E 53, bz_rf E 33, bz_i a2, bz_i a3, bz_rf E 42] M (none) x0 := by
  refine bz_met (by decide +kernel) (Nat.le_of_ble_eq_true rfl) (fun K X => ?_)
  have X : bz_X K E prog_5_method_21_code 7 "UnitsWrong$Course" none 1 21 _ _ := X
  unfold fUC_countCoins_42 at hf
  show bz_J K 7 0 [(0, bz_rf E 53), (1, bz_rf E 33), (2, bz_i a2), (3, bz_i a3), (4, bz_rf E 42)] [] M
  refine j_aload_n X dUC_countCoins_0 rfl 0 rfl ?_
  refine j_geti X gf_UC_268_53 dUC_countCoins_1 ?_
  refine j_lt (g := bz_i) hf (fun l5 hf => ?_)
  refine j_istore X (lv' := [(5, bz_i l5), (0, bz_rf E 53), (1, bz_rf E 33), (2, bz_i a2), (3, bz_i a3), (4, bz_rf E 42)]) dUC_countCoins_4 (by decide) rfl ?_
  obtain ⟨res6, hz6, hk6⟩ := q_l1 hf
  clear hf
  refine lUC_countCoins_42_L6 E F X (fun m5 he => ?_) F l5 M hz6
  have hf := hk6 _ he
  cases hf
  exact j_vret X dUC_countCoins_60 rfl rfl
def UC_passDeals_L5 (F : Nat) : Nat → Int → Int → bz_Mm → Option (bz_Mm)
  | 0, _, _, _ => none
  | n + 1, l2, l3, M =>
    if w32 l3 < w32 (M 53 16) then
    (rd_ M 36 l3 200 fun x1 =>
    rd_ M 38 x1 200 fun x2 =>
    if w32 x2 = w32 l2 then
    (rd_ M 40 x1 200 fun x3 =>
    cl1_ (if 0 < w32 x3 then
    (rd_ M 41 x1 200 fun x7 =>
    some (x7))
    else
    (rd_ M 41 x1 200 fun x6 =>
    some (-x6))) fun v5 =>
    cl1_ (if 0 < w32 x3 then
    (rd_ M 42 x1 200 fun x11 =>
    some (x11))
    else
    (rd_ M 42 x1 200 fun x10 =>
    some (-x10))) fun v9 =>
    rd_ M 54 l2 4 fun x12 =>
    wa_ M 54 l2 4 (x12 + v5) fun m13 =>
    rd_ m13 55 l2 4 fun x14 =>
    wa_ m13 55 l2 4 (x14 + v9) fun m15 =>
    rd_ m15 60 l2 4 fun x16 =>
    wa_ m15 60 l2 4 (x16 + x3) fun m17 =>
    rd_ m17 37 x1 200 fun x18 =>
    lt_ (x18 - 20) fun l10 =>
    if w32 l10 < 0 then
    (UC_passDeals_L5 F n l2 (l3 + 1) m17)
    else
    (rd_ m17 54 l10 4 fun x19 =>
    wa_ m17 54 l10 4 (x19 - v5) fun m20 =>
    rd_ m20 55 l10 4 fun x21 =>
    wa_ m20 55 l10 4 (x21 - v9) fun m22 =>
    rd_ m22 59 ((l10 * 4) + l2) 16 fun x23 =>
    wa_ m22 59 ((l10 * 4) + l2) 16 (x23 + x3) fun m24 =>
    UC_passDeals_L5 F n l2 (l3 + 1) m24))
    else
    (UC_passDeals_L5 F n l2 (l3 + 1) M))
    else
    (some M)
theorem lUC_passDeals_L5 (E : bz_E) (F : Nat) {K : bz_K} {rv : Option Value} {M1 : bz_Mm} (X : bz_X K E prog_5_method_22_code 11 "UnitsWrong$Course" none 0 0 rv M1) {l2 : Int} {res : (bz_Mm)}
    (kx : ∀ (M : bz_Mm), some M = some res → bz_J K 11 193 [] [] M) :
    ∀ (n : Nat) (l3 : Int) (M : bz_Mm), UC_passDeals_L5 F n l2 l3 M = some res → bz_J K 11 5 [(3, bz_i l3), (0, bz_rf E 53), (1, bz_rf E 33), (2, bz_i l2)] [] M := by
  intro n
  induction n with
  | zero => intro l3 M hf; cases hf
  | succ n ih =>
    intro l3 M hf
    rw [UC_passDeals_L5] at hf
    refine j_iload_n X dUC_passDeals_5 rfl 0 rfl ?_
    refine j_aload_n X dUC_passDeals_6 rfl 1 rfl ?_
    refine j_geti X gf_UC_160_53 dUC_passDeals_7 ?_
    refine j_icmp_ge X (tgt := 193) rfl rfl dUC_passDeals_10 (by decide) hf (fun hf => ?_) (fun hf => ?_)
    · exact j_sub [] rfl (kx _ hf)
    · refine j_aload_n X dUC_passDeals_13 rfl 2 rfl ?_
      refine j_geta X gf_UC_193_33 dUC_passDeals_14 ?_
      refine j_geta X gf_UC_215_34 dUC_passDeals_17 ?_
      refine j_iload_n X dUC_passDeals_20 rfl 0 rfl ?_
      refine j_iald X sh_36 dUC_passDeals_21 hf (fun x1 hf => ?_)
      refine j_istore X (lv' := [(4, bz_i x1), (3, bz_i l3), (0, bz_rf E 53), (1, bz_rf E 33), (2, bz_i l2)]) dUC_passDeals_22 (by decide) rfl ?_
      refine j_aload_n X dUC_passDeals_24 rfl 3 rfl ?_
      show bz_J _ _ 25 _ _ _
      refine j_geta X gf_UC_295_33 dUC_passDeals_25 ?_
      refine j_iload X dUC_passDeals_28 0 rfl ?_
      refine j_iald X sh_38 dUC_passDeals_30 hf (fun x2 hf => ?_)
      refine j_iload_n X dUC_passDeals_31 rfl 4 rfl ?_
      refine j_icmp_eq X (tgt := 38) rfl rfl dUC_passDeals_32 (by decide) hf (fun hf => ?_) (fun hf => ?_)
      · refine j_aload_n X dUC_passDeals_38 rfl 3 rfl ?_
        refine j_geta X gf_UC_296_33 dUC_passDeals_39 ?_
        refine j_iload X dUC_passDeals_42 0 rfl ?_
        refine j_iald X sh_40 dUC_passDeals_44 hf (fun x3 hf => ?_)
        refine j_istore X (lv' := [(5, bz_i x3), (4, bz_i x1), (3, bz_i l3), (0, bz_rf E 53), (1, bz_rf E 33), (2, bz_i l2)]) dUC_passDeals_45 (by decide) rfl ?_
        refine j_iload X dUC_passDeals_47 0 rfl ?_
        obtain ⟨resJ4, hf0, hkJ4⟩ := q_l1 hf
        have J4 : ∀ (v5 : Int), some v5 = some resJ4 → bz_J K 11 70 [(5, bz_i x3), (4, bz_i x1), (3, bz_i l3), (0, bz_rf E 53), (1, bz_rf E 33), (2, bz_i l2)] [bz_l v5] M := by
          intro v5 he
          have hf := hkJ4 _ he
          refine j_lstore X (lv' := [(6, bz_l v5), (5, bz_i x3), (4, bz_i x1), (3, bz_i l3), (0, bz_rf E 53), (1, bz_rf E 33), (2, bz_i l2)]) dUC_passDeals_70 (by decide) rfl ?_
          refine j_iload X dUC_passDeals_72 1 rfl ?_
          obtain ⟨resJ8, hf0, hkJ8⟩ := q_l1 hf
          have J8 : ∀ (v9 : Int), some v9 = some resJ8 → bz_J K 11 95 [(6, bz_l v5), (5, bz_i x3), (4, bz_i x1), (3, bz_i l3), (0, bz_rf E 53), (1, bz_rf E 33), (2, bz_i l2)] [bz_l v9] M := by
            intro v9 he
            have hf := hkJ8 _ he
            refine j_lstore X (lv' := [(8, bz_l v9), (6, bz_l v5), (5, bz_i x3), (4, bz_i x1), (3, bz_i l3), (0, bz_rf E 53), (1, bz_rf E 33), (2, bz_i l2)]) dUC_passDeals_95 (by decide) rfl ?_
            refine j_aload_n X dUC_passDeals_97 rfl 5 rfl ?_
            refine j_geta X gf_UC_9_53 dUC_passDeals_98 ?_
            refine j_iload_n X dUC_passDeals_101 rfl 7 rfl ?_
            refine j_dup2 X dUC_passDeals_102 rfl rfl ?_
            refine j_lald X sh_54 dUC_passDeals_103 hf (fun x12 hf => ?_)
            refine j_lload X dUC_passDeals_104 1 rfl ?_
            show bz_J _ _ 106 _ _ _
            refine j_ladd X dUC_passDeals_106 ?_
            refine j_last X sh_54 dUC_passDeals_107 hf (fun m13 hf => ?_)
            refine j_aload_n X dUC_passDeals_108 rfl 5 rfl ?_
            refine j_geta X gf_UC_15_53 dUC_passDeals_109 ?_
            refine j_iload_n X dUC_passDeals_112 rfl 7 rfl ?_
            refine j_dup2 X dUC_passDeals_113 rfl rfl ?_
            refine j_lald X sh_55 dUC_passDeals_114 hf (fun x14 hf => ?_)
            refine j_lload X dUC_passDeals_115 0 rfl ?_
            show bz_J _ _ 117 _ _ _
            refine j_ladd X dUC_passDeals_117 ?_
            refine j_last X sh_55 dUC_passDeals_118 hf (fun m15 hf => ?_)
            refine j_aload_n X dUC_passDeals_119 rfl 5 rfl ?_
            refine j_geta X gf_UC_31_53 dUC_passDeals_120 ?_
            refine j_iload_n X dUC_passDeals_123 rfl 7 rfl ?_
            refine j_dup2 X dUC_passDeals_124 rfl rfl ?_
            refine j_iald X sh_60 dUC_passDeals_125 hf (fun x16 hf => ?_)
            refine j_iload X dUC_passDeals_126 2 rfl ?_
            show bz_J _ _ 128 _ _ _
            refine j_iadd X dUC_passDeals_128 ?_
            refine j_iast X sh_60 dUC_passDeals_129 hf (fun m17 hf => ?_)
            refine j_aload_n X dUC_passDeals_130 rfl 6 rfl ?_
            refine j_geta X gf_UC_305_33 dUC_passDeals_131 ?_
            refine j_iload X dUC_passDeals_134 3 rfl ?_
            refine j_iald X sh_37 dUC_passDeals_136 hf (fun x18 hf => ?_)
            refine j_bipush X dUC_passDeals_137 rfl ?_
            refine j_isub X dUC_passDeals_139 ?_
            show bz_J _ _ 140 _ _ _
            refine j_lt (g := bz_i) hf (fun l10 hf => ?_)
            refine j_istore X (lv' := [(10, bz_i l10), (8, bz_l v9), (6, bz_l v5), (5, bz_i x3), (4, bz_i x1), (3, bz_i l3), (0, bz_rf E 53), (1, bz_rf E 33), (2, bz_i l2)]) dUC_passDeals_140 (by decide) rfl ?_
            refine j_iload X dUC_passDeals_142 0 rfl ?_
            refine j_if_lt X (tgt := 187) rfl dUC_passDeals_144 (by decide) hf (fun hf => ?_) (fun hf => ?_)
            · refine j_iinc X (y := l3 + 1) (lv' := [(3, bz_i (l3 + 1)), (10, bz_i l10), (8, bz_l v9), (6, bz_l v5), (5, bz_i x3), (4, bz_i x1), (0, bz_rf E 53), (1, bz_rf E 33), (2, bz_i l2)]) dUC_passDeals_187 5 rfl rfl (by decide) rfl ?_
              refine j_goto X (tgt := 5) dUC_passDeals_190 (by decide) ?_
              exact j_sub [0, 6, 7, 8] rfl (ih _ _ hf)
            · refine j_aload_n X dUC_passDeals_147 rfl 6 rfl ?_
              refine j_geta X gf_UC_9_53 dUC_passDeals_148 ?_
              refine j_iload X dUC_passDeals_151 0 rfl ?_
              refine j_dup2 X dUC_passDeals_153 rfl rfl ?_
              refine j_lald X sh_54 dUC_passDeals_154 hf (fun x19 hf => ?_)
              refine j_lload X dUC_passDeals_155 2 rfl ?_
              refine j_lsub X dUC_passDeals_157 ?_
              show bz_J _ _ 158 _ _ _
              refine j_last X sh_54 dUC_passDeals_158 hf (fun m20 hf => ?_)
              refine j_aload_n X dUC_passDeals_159 rfl 6 rfl ?_
              refine j_geta X gf_UC_15_53 dUC_passDeals_160 ?_
              refine j_iload X dUC_passDeals_163 0 rfl ?_
              refine j_dup2 X dUC_passDeals_165 rfl rfl ?_
              refine j_lald X sh_55 dUC_passDeals_166 hf (fun x21 hf => ?_)
              refine j_lload X dUC_passDeals_167 1 rfl ?_
              refine j_lsub X dUC_passDeals_169 ?_
              show bz_J _ _ 170 _ _ _
              refine j_last X sh_55 dUC_passDeals_170 hf (fun m22 hf => ?_)
              refine j_aload_n X dUC_passDeals_171 rfl 6 rfl ?_
              refine j_geta X gf_UC_28_53 dUC_passDeals_172 ?_
              refine j_iload X dUC_passDeals_175 0 rfl ?_
              refine j_iconst X dUC_passDeals_177 ?_
              refine j_imul X dUC_passDeals_178 ?_
              refine j_iload_n X dUC_passDeals_179 rfl 8 rfl ?_
              refine j_iadd X dUC_passDeals_180 ?_
              show bz_J _ _ 181 _ _ _
              refine j_dup2 X dUC_passDeals_181 rfl rfl ?_
              refine j_iald X sh_59 dUC_passDeals_182 hf (fun x23 hf => ?_)
              refine j_iload X dUC_passDeals_183 3 rfl ?_
              refine j_iadd X dUC_passDeals_185 ?_
              refine j_iast X sh_59 dUC_passDeals_186 hf (fun m24 hf => ?_)
              refine j_iinc X (y := l3 + 1) (lv' := [(3, bz_i (l3 + 1)), (10, bz_i l10), (8, bz_l v9), (6, bz_l v5), (5, bz_i x3), (4, bz_i x1), (0, bz_rf E 53), (1, bz_rf E 33), (2, bz_i l2)]) dUC_passDeals_187 5 rfl rfl (by decide) rfl ?_
              refine j_goto X (tgt := 5) dUC_passDeals_190 (by decide) ?_
              exact j_sub [0, 6, 7, 8] rfl (ih _ _ hf)
          clear hf
          have hf := hf0
          clear hf0
          refine j_if_le X (tgt := 87) rfl dUC_passDeals_74 (by decide) hf (fun hf => ?_) (fun hf => ?_)
          · refine j_aload_n X dUC_passDeals_87 rfl 5 rfl ?_
            refine j_geta X gf_UC_163_33 dUC_passDeals_88 ?_
            refine j_iload X dUC_passDeals_91 2 rfl ?_
            refine j_lald X sh_42 dUC_passDeals_93 hf (fun x10 hf => ?_)
            refine j_lneg X dUC_passDeals_94 ?_
            exact J8 _ hf
          · refine j_aload_n X dUC_passDeals_77 rfl 5 rfl ?_
            refine j_geta X gf_UC_163_33 dUC_passDeals_78 ?_
            refine j_iload X dUC_passDeals_81 2 rfl ?_
            refine j_lald X sh_42 dUC_passDeals_83 hf (fun x11 hf => ?_)
            refine j_goto X (tgt := 95) dUC_passDeals_84 (by decide) ?_
            exact J8 _ hf
        clear hf
        have hf := hf0
        clear hf0
        refine j_if_le X (tgt := 62) rfl dUC_passDeals_49 (by decide) hf (fun hf => ?_) (fun hf => ?_)
        · refine j_aload_n X dUC_passDeals_62 rfl 4 rfl ?_
          refine j_geta X gf_UC_120_33 dUC_passDeals_63 ?_
          refine j_iload X dUC_passDeals_66 1 rfl ?_
          refine j_lald X sh_41 dUC_passDeals_68 hf (fun x6 hf => ?_)
          refine j_lneg X dUC_passDeals_69 ?_
          exact J4 _ hf
        · refine j_aload_n X dUC_passDeals_52 rfl 4 rfl ?_
          refine j_geta X gf_UC_120_33 dUC_passDeals_53 ?_
          refine j_iload X dUC_passDeals_56 1 rfl ?_
          refine j_lald X sh_41 dUC_passDeals_58 hf (fun x7 hf => ?_)
          refine j_goto X (tgt := 70) dUC_passDeals_59 (by decide) ?_
          exact J4 _ hf
      · refine j_goto X (tgt := 187) dUC_passDeals_35 (by decide) ?_
        refine j_iinc X (y := l3 + 1) (lv' := [(3, bz_i (l3 + 1)), (4, bz_i x1), (0, bz_rf E 53), (1, bz_rf E 33), (2, bz_i l2)]) dUC_passDeals_187 1 rfl rfl (by decide) rfl ?_
        refine j_goto X (tgt := 5) dUC_passDeals_190 (by decide) ?_
        exact j_sub [0, 2, 3, 4] rfl (ih _ _ hf)
def fUC_passDeals (F : Nat) (M : bz_Mm) (a2 : Int) : Option (bz_Mm) :=
  lt_ (M 53 15) fun l3 =>
  cl1_ (UC_passDeals_L5 F F a2 l3 M) fun m25 =>
  some m25
set_option maxHeartbeats 4000000 in
set_option maxRecDepth 20000 in
theorem cUC_passDeals (E : bz_E) (F : Nat)  {M : bz_Mm} {a2 : Int} {x0 : bz_Mm} (hf : fUC_passDeals F M a2 = some x0) : bz_Ct E yUC_passDeals (.code yUC_passDeals prog_5_method_22_code 11 none) 0 0 [bz_rf E 53, bz_rf E 33, bz_i a2] M (none) x0 := by
  refine bz_met (by decide +kernel) (Nat.le_of_ble_eq_true rfl) (fun K X => ?_)
  have X : bz_X K E prog_5_method_22_code 11 "UnitsWrong$Course" none 0 0 _ _ := X
  unfold fUC_passDeals at hf
  show bz_J K 11 0 [(0, bz_rf E 53), (1, bz_rf E 33), (2, bz_i a2)] [] M
  refine j_aload_n X dUC_passDeals_0 rfl 0 rfl ?_
  refine j_geti X gf_UC_268_53 dUC_passDeals_1 ?_
  refine j_lt (g := bz_i) hf (fun l3 hf => ?_)
  refine j_istore_n X (lv' := [(3, bz_i l3), (0, bz_rf E 53), (1, bz_rf E 33), (2, bz_i a2)]) dUC_passDeals_4 rfl (by decide) rfl ?_
  obtain ⟨res26, hz26, hk26⟩ := q_l1 hf
  clear hf
  refine lUC_passDeals_L5 E F X (fun m25 he => ?_) F l3 M hz26
  have hf := hk26 _ he
  cases hf
  exact j_vret X dUC_passDeals_193 rfl rfl
def UC_passDay_L12 (F : Nat) : Nat → Int → Int → bz_Mm → Option (bz_Mm)
  | 0, _, _, _ => none
  | n + 1, l2, l5, M =>
    if w32 l5 < w32 (M 1 14) then
    (cl_ (fUS_isOpen F M l2) fun x2 =>
    if w32 x2 = 0 then
    (some M)
    else
    (lt_ (fU_slot l5 l2) fun l6 =>
    cl_ (fUC_makePrice_55_56_57 F M l5 l2) fun m3 =>
    rd_ m3 56 l6 1040 fun x4 =>
    cl_ (fUC_countCoins_42 F m3 l5 x4) fun m5 =>
    rd_ m5 55 l5 4 fun x6 =>
    rd_ m5 57 l6 1040 fun x7 =>
    wa_ m5 55 l5 4 (x6 - x7) fun m8 =>
    rd_ m8 54 l5 4 fun x9 =>
    rd_ m8 49 l6 1040 fun x10 =>
    wa_ m8 54 l5 4 (x9 - x10) fun m11 =>
    cl_ (fUC_passDeals F m11 l5) fun m12 =>
    UC_passDay_L12 F n l2 (l5 + 1) m12))
    else
    (some M)
theorem lUC_passDay_L12 (E : bz_E) (F : Nat) {K : bz_K} {rv : Option Value} {M1 : bz_Mm} (X : bz_X K E prog_5_method_7_code 7 "UnitsWrong$Course" none 4 95 rv M1) {l2 : Int} {res : (bz_Mm)}
    (kx : ∀ (M : bz_Mm), some M = some res → bz_J K 7 131 [] [] M) :
    ∀ (n : Nat) (l5 : Int) (M : bz_Mm), UC_passDay_L12 F n l2 l5 M = some res → bz_J K 7 12 [(5, bz_i l5), (0, bz_rf E 53), (1, bz_rf E 1), (2, bz_i l2)] [] M := by
  intro n
  induction n with
  | zero => intro l5 M hf; cases hf
  | succ n ih =>
    intro l5 M hf
    rw [UC_passDay_L12] at hf
    refine j_iload X dUC_passDay_12 0 rfl ?_
    refine j_aload_n X dUC_passDay_14 rfl 2 rfl ?_
    refine j_geti X gf_UC_94_1 dUC_passDay_15 ?_
    refine j_icmp_ge X (tgt := 131) rfl rfl dUC_passDay_18 (by decide) hf (fun hf => ?_) (fun hf => ?_)
    · exact j_sub [] rfl (kx _ hf)
    · refine j_aload_n X dUC_passDay_21 rfl 2 rfl ?_
      refine j_iload_n X dUC_passDay_22 rfl 3 rfl ?_
      obtain ⟨x2, hzx2, hf⟩ := q_cl hf
      refine j_cv X (st := []) (cUS_isOpen E F hzx2) gyUS_isOpen gv_US_isOpen_1 rfl (by decide) (by decide) wd_851 rfl (Nat.le_of_ble_eq_true rfl) dUC_passDay_23 ?_
      refine j_if_eq X (tgt := 131) rfl dUC_passDay_26 (by decide) hf (fun hf => ?_) (fun hf => ?_)
      · exact j_sub [] rfl (kx _ hf)
      · refine j_iload X dUC_passDay_29 0 rfl ?_
        refine j_iload_n X dUC_passDay_31 rfl 3 rfl ?_
        refine j_cn X (st := []) (cU_slot E) gyU_slot wd_853 rfl (by decide) (by decide) nl_852 rfl (Nat.le_of_ble_eq_true rfl) dUC_passDay_32 ?_
        refine j_lt (g := bz_i) hf (fun l6 hf => ?_)
        refine j_istore X (lv' := [(6, bz_i l6), (5, bz_i l5), (0, bz_rf E 53), (1, bz_rf E 1), (2, bz_i l2)]) dUC_passDay_35 (by decide) rfl ?_
        refine j_aload_n X dUC_passDay_37 rfl 2 rfl ?_
        refine j_aload_n X dUC_passDay_38 rfl 3 rfl ?_
        refine j_iload X dUC_passDay_39 1 rfl ?_
        show bz_J _ _ 41 _ _ _
        refine j_iload_n X dUC_passDay_41 rfl 4 rfl ?_
        refine j_aload_n X dUC_passDay_42 rfl 2 rfl ?_
        refine j_geta X gf_UC_15_53 dUC_passDay_43 ?_
        refine j_aload_n X dUC_passDay_46 rfl 2 rfl ?_
        refine j_geta X gf_UC_18_53 dUC_passDay_47 ?_
        refine j_aload_n X dUC_passDay_50 rfl 2 rfl ?_
        refine j_geta X gf_UC_22_53 dUC_passDay_51 ?_
        obtain ⟨m3, hz, hf⟩ := q_cl hf
        refine j_cv X (st := []) (cUC_makePrice_55_56_57 E F hz) gyUC_makePrice gv_UC_makePrice_53 rfl (by decide) (by decide) wd_855 rfl (Nat.le_of_ble_eq_true rfl) dUC_passDay_54 ?_
        clear hz
        show bz_J _ _ 57 _ _ _
        refine j_aload_n X dUC_passDay_57 rfl 2 rfl ?_
        refine j_aload_n X dUC_passDay_58 rfl 3 rfl ?_
        refine j_geta X gf_UC_105_1 dUC_passDay_59 ?_
        refine j_iload X dUC_passDay_62 1 rfl ?_
        refine j_aload_n X dUC_passDay_64 rfl 2 rfl ?_
        refine j_geta X gf_UC_18_53 dUC_passDay_65 ?_
        refine j_iload X dUC_passDay_68 0 rfl ?_
        refine j_iald X sh_56 dUC_passDay_70 hf (fun x4 hf => ?_)
        show bz_J _ _ 71 _ _ _
        refine j_aload_n X dUC_passDay_71 rfl 3 rfl ?_
        refine j_geta X gf_UC_105_1 dUC_passDay_72 ?_
        refine j_geta X gf_UC_163_33 dUC_passDay_75 ?_
        obtain ⟨m5, hz, hf⟩ := q_cl hf
        refine j_cv X (st := []) (cUC_countCoins_42 E F hz) gyUC_countCoins gv_UC_countCoins_53 rfl (by decide) (by decide) wd_874 rfl (Nat.le_of_ble_eq_true rfl) dUC_passDay_78 ?_
        clear hz
        refine j_aload_n X dUC_passDay_81 rfl 2 rfl ?_
        refine j_geta X gf_UC_15_53 dUC_passDay_82 ?_
        refine j_iload X dUC_passDay_85 1 rfl ?_
        refine j_dup2 X dUC_passDay_87 rfl rfl ?_
        show bz_J _ _ 88 _ _ _
        refine j_lald X sh_55 dUC_passDay_88 hf (fun x6 hf => ?_)
        refine j_aload_n X dUC_passDay_89 rfl 2 rfl ?_
        refine j_geta X gf_UC_22_53 dUC_passDay_90 ?_
        refine j_iload X dUC_passDay_93 0 rfl ?_
        refine j_lald X sh_57 dUC_passDay_95 hf (fun x7 hf => ?_)
        refine j_lsub X dUC_passDay_96 ?_
        refine j_last X sh_55 dUC_passDay_97 hf (fun m8 hf => ?_)
        refine j_aload_n X dUC_passDay_98 rfl 2 rfl ?_
        show bz_J _ _ 99 _ _ _
        refine j_geta X gf_UC_9_53 dUC_passDay_99 ?_
        refine j_iload X dUC_passDay_102 1 rfl ?_
        refine j_dup2 X dUC_passDay_104 rfl rfl ?_
        refine j_lald X sh_54 dUC_passDay_105 hf (fun x9 hf => ?_)
        refine j_aload_n X dUC_passDay_106 rfl 3 rfl ?_
        refine j_geta X gf_UC_113_1 dUC_passDay_107 ?_
        refine j_iload X dUC_passDay_110 0 rfl ?_
        refine j_lald X sh_49 dUC_passDay_112 hf (fun x10 hf => ?_)
        show bz_J _ _ 113 _ _ _
        refine j_lsub X dUC_passDay_113 ?_
        refine j_last X sh_54 dUC_passDay_114 hf (fun m11 hf => ?_)
        refine j_aload_n X dUC_passDay_115 rfl 2 rfl ?_
        refine j_aload_n X dUC_passDay_116 rfl 3 rfl ?_
        refine j_geta X gf_UC_105_1 dUC_passDay_117 ?_
        refine j_iload X dUC_passDay_120 1 rfl ?_
        obtain ⟨m12, hz, hf⟩ := q_cl hf
        refine j_cv X (st := []) (cUC_passDeals E F hz) gyUC_passDeals gv_UC_passDeals_53 rfl (by decide) (by decide) wd_883 rfl (Nat.le_of_ble_eq_true rfl) dUC_passDay_122 ?_
        clear hz
        refine j_iinc X (y := l5 + 1) (lv' := [(5, bz_i (l5 + 1)), (6, bz_i l6), (0, bz_rf E 53), (1, bz_rf E 1), (2, bz_i l2)]) dUC_passDay_125 1 rfl rfl (by decide) rfl ?_
        show bz_J _ _ 128 _ _ _
        refine j_goto X (tgt := 12) dUC_passDay_128 (by decide) ?_
        exact j_sub [0, 2, 3, 4] rfl (ih _ _ hf)
def fUC_passDay (F : Nat) (M : bz_Mm) (a2 : Int) (a3 : Int) (a4 : Int) : Option (bz_Mm) :=
  cl_ (fUC_openDay F M a2 a3 a4) fun m1 =>
  cl1_ (UC_passDay_L12 F F a2 0 m1) fun m13 =>
  some m13
set_option maxHeartbeats 4000000 in
set_option maxRecDepth 20000 in
theorem cUC_passDay (E : bz_E) (F : Nat)  {M : bz_Mm} {a2 : Int} {a3 : Int} {a4 : Int} {x0 : bz_Mm} (hf : fUC_passDay F M a2 a3 a4 = some x0) : bz_Ct E yUC_passDay (.code yUC_passDay prog_5_method_7_code 7 none) 4 95 [bz_rf E 53, bz_rf E 1, bz_i a2, bz_i a3, bz_i a4] M (none) x0 := by
  refine bz_met (by decide +kernel) (Nat.le_of_ble_eq_true rfl) (fun K X => ?_)
  have X : bz_X K E prog_5_method_7_code 7 "UnitsWrong$Course" none 4 95 _ _ := X
  unfold fUC_passDay at hf
  show bz_J K 7 0 [(0, bz_rf E 53), (1, bz_rf E 1), (2, bz_i a2), (3, bz_i a3), (4, bz_i a4)] [] M
  refine j_aload_n X dUC_passDay_0 rfl 0 rfl ?_
  refine j_aload_n X dUC_passDay_1 rfl 1 rfl ?_
  refine j_iload_n X dUC_passDay_2 rfl 2 rfl ?_
  refine j_iload_n X dUC_passDay_3 rfl 3 rfl ?_
  refine j_iload X dUC_passDay_4 4 rfl ?_
  obtain ⟨m1, hz, hf⟩ := q_cl hf
  refine j_cv X (st := []) (cUC_openDay E F hz) gyUC_openDay gv_UC_openDay_53 rfl (by decide) (by decide) wd_807 rfl (Nat.le_of_ble_eq_true rfl) dUC_passDay_6 ?_
  clear hz
  refine j_iconst X dUC_passDay_9 ?_
  show bz_J _ _ 10 _ _ _
  refine j_istore X (lv' := [(5, bz_i 0), (0, bz_rf E 53), (1, bz_rf E 1), (2, bz_i a2), (3, bz_i a3), (4, bz_i a4)]) dUC_passDay_10 (by decide) rfl ?_
  obtain ⟨res14, hz14, hk14⟩ := q_l1 hf
  clear hf
  refine j_sub [0, 1, 2, 3] rfl ?_
  refine lUC_passDay_L12 E F X (fun m13 he => ?_) F 0 m1 hz14
  have hf := hk14 _ he
  cases hf
  exact j_vret X dUC_passDay_131 rfl rfl
def UC_walkTo_L34 (F : Nat) : Nat → Int → Int → Int → bz_Mm → Option (bz_Mm)
  | 0, _, _, _, _ => none
  | n + 1, l3, l2, l4, M =>
    if w32 l3 < w32 l4 then
    (some M)
    else
    (cl_ (fUC_passDay F M l4 l2 0) fun m2 =>
    UC_walkTo_L34 F n l3 l2 (l4 + 1) m2)
def UC_walkTo_L34a (F : Nat) : Nat → Int → Int → Int → bz_Mm → Option (bz_Mm)
  | 0, _, _, _, _ => none
  | n + 1, l3, l2, l4, M =>
    if w32 l3 < w32 l4 then
    (some M)
    else
    (cl_ (fUC_passDay F M l4 l2 0) fun m8 =>
    UC_walkTo_L34a F n l3 l2 (l4 + 1) m8)
theorem lUC_walkTo_L34 (E : bz_E) (F : Nat) {K : bz_K} {rv : Option Value} {M1 : bz_Mm} (X : bz_X K E prog_5_method_4_code 5 "UnitsWrong$Course" none 5 121 rv M1) {l3 : Int} {l2 : Int} {res : (bz_Mm)}
    (kx : ∀ (M : bz_Mm), some M = some res → bz_J K 5 55 [(0, bz_rf E 53), (1, bz_rf E 1), (2, bz_i l2)] [] M) :
    ∀ (n : Nat) (l4 : Int) (M : bz_Mm), UC_walkTo_L34 F n l3 l2 l4 M = some res → bz_J K 5 34 [(4, bz_i l4), (3, bz_i l3), (0, bz_rf E 53), (1, bz_rf E 1), (2, bz_i l2)] [] M := by
  intro n
  induction n with
  | zero => intro l4 M hf; cases hf
  | succ n ih =>
    intro l4 M hf
    rw [UC_walkTo_L34] at hf
    refine j_iload X dUC_walkTo_34 0 rfl ?_
    refine j_iload_n X dUC_walkTo_36 rfl 1 rfl ?_
    refine j_icmp_gt X (tgt := 55) rfl rfl dUC_walkTo_37 (by decide) hf (fun hf => ?_) (fun hf => ?_)
    · exact j_sub [2, 3, 4] rfl (kx _ hf)
    · refine j_aload_n X dUC_walkTo_40 rfl 2 rfl ?_
      refine j_aload_n X dUC_walkTo_41 rfl 3 rfl ?_
      refine j_iload X dUC_walkTo_42 0 rfl ?_
      refine j_iload_n X dUC_walkTo_44 rfl 4 rfl ?_
      refine j_iconst X dUC_walkTo_45 ?_
      obtain ⟨m2, hz, hf⟩ := q_cl hf
      refine j_cv X (st := []) (cUC_passDay E F hz) gyUC_passDay gv_UC_passDay_53 rfl (by decide) (by decide) wd_803 rfl (Nat.le_of_ble_eq_true rfl) dUC_walkTo_46 ?_
      clear hz
      refine j_iinc X (y := l4 + 1) (lv' := [(4, bz_i (l4 + 1)), (3, bz_i l3), (0, bz_rf E 53), (1, bz_rf E 1), (2, bz_i l2)]) dUC_walkTo_49 0 rfl rfl (by decide) rfl ?_
      show bz_J _ _ 52 _ _ _
      refine j_goto X (tgt := 34) dUC_walkTo_52 (by decide) ?_
      exact ih _ _ hf
theorem lUC_walkTo_L34a (E : bz_E) (F : Nat) {K : bz_K} {rv : Option Value} {M1 : bz_Mm} (X : bz_X K E prog_5_method_4_code 5 "UnitsWrong$Course" none 5 121 rv M1) {l3 : Int} {l2 : Int} {res : (bz_Mm)}
    (kx : ∀ (M : bz_Mm), some M = some res → bz_J K 5 55 [(0, bz_rf E 53), (1, bz_rf E 1), (2, bz_i l2)] [] M) :
    ∀ (n : Nat) (l4 : Int) (M : bz_Mm), UC_walkTo_L34a F n l3 l2 l4 M = some res → bz_J K 5 34 [(4, bz_i l4), (3, bz_i l3), (0, bz_rf E 53), (1, bz_rf E 1), (2, bz_i l2)] [] M := by
  intro n
  induction n with
  | zero => intro l4 M hf; cases hf
  | succ n ih =>
    intro l4 M hf
    rw [UC_walkTo_L34a] at hf
    refine j_iload X dUC_walkTo_34 0 rfl ?_
    refine j_iload_n X dUC_walkTo_36 rfl 1 rfl ?_
    refine j_icmp_gt X (tgt := 55) rfl rfl dUC_walkTo_37 (by decide) hf (fun hf => ?_) (fun hf => ?_)
    · exact j_sub [2, 3, 4] rfl (kx _ hf)
    · refine j_aload_n X dUC_walkTo_40 rfl 2 rfl ?_
      refine j_aload_n X dUC_walkTo_41 rfl 3 rfl ?_
      refine j_iload X dUC_walkTo_42 0 rfl ?_
      refine j_iload_n X dUC_walkTo_44 rfl 4 rfl ?_
      refine j_iconst X dUC_walkTo_45 ?_
      obtain ⟨m8, hz, hf⟩ := q_cl hf
      refine j_cv X (st := []) (cUC_passDay E F hz) gyUC_passDay gv_UC_passDay_53 rfl (by decide) (by decide) wd_803 rfl (Nat.le_of_ble_eq_true rfl) dUC_walkTo_46 ?_
      clear hz
      refine j_iinc X (y := l4 + 1) (lv' := [(4, bz_i (l4 + 1)), (3, bz_i l3), (0, bz_rf E 53), (1, bz_rf E 1), (2, bz_i l2)]) dUC_walkTo_49 0 rfl rfl (by decide) rfl ?_
      show bz_J _ _ 52 _ _ _
      refine j_goto X (tgt := 34) dUC_walkTo_52 (by decide) ?_
      exact ih _ _ hf
def fUC_walkTo (F : Nat) (M : bz_Mm) (a2 : Int) : Option (bz_Mm) :=
  if w32 (M 53 17) = w32 a2 then
  (if w32 (M 53 18) = w32 (M 1 17) then
  (some M)
  else
  (cl_ (fUC_start F M) fun m7 =>
  lt_ (fUS_lastOver m7 a2) fun l3 =>
  cl1_ (UC_walkTo_L34a F F l3 a2 0 m7) fun m9 =>
  wf_ m9 53 17 a2 fun m10 =>
  wf_ m10 53 18 (m10 1 17) fun m11 =>
  some m11))
  else
  (cl_ (fUC_start F M) fun m1 =>
  lt_ (fUS_lastOver m1 a2) fun l3 =>
  cl1_ (UC_walkTo_L34 F F l3 a2 0 m1) fun m3 =>
  wf_ m3 53 17 a2 fun m4 =>
  wf_ m4 53 18 (m4 1 17) fun m5 =>
  some m5)
set_option maxHeartbeats 4000000 in
set_option maxRecDepth 20000 in
theorem cUC_walkTo (E : bz_E) (F : Nat)  {M : bz_Mm} {a2 : Int} {x0 : bz_Mm} (hf : fUC_walkTo F M a2 = some x0) : bz_Ct E yUC_walkTo (.code yUC_walkTo prog_5_method_4_code 5 none) 5 121 [bz_rf E 53, bz_rf E 1, bz_i a2] M (none) x0 := by
  refine bz_met (by decide +kernel) (Nat.le_of_ble_eq_true rfl) (fun K X => ?_)
  have X : bz_X K E prog_5_method_4_code 5 "UnitsWrong$Course" none 5 121 _ _ := X
  unfold fUC_walkTo at hf
  show bz_J K 5 0 [(0, bz_rf E 53), (1, bz_rf E 1), (2, bz_i a2)] [] M
  refine j_aload_n X dUC_walkTo_0 rfl 0 rfl ?_
  refine j_geti X gf_UC_46_53 dUC_walkTo_1 ?_
  refine j_iload_n X dUC_walkTo_4 rfl 2 rfl ?_
  refine j_icmp_ne X (tgt := 20) rfl rfl dUC_walkTo_5 (by decide) hf (fun hf => ?_) (fun hf => ?_)
  · refine j_aload_n X dUC_walkTo_20 rfl 0 rfl ?_
    refine j_aload_n X dUC_walkTo_21 rfl 1 rfl ?_
    obtain ⟨m1, hz, hf⟩ := q_cl hf
    refine j_cv X (st := []) (cUC_start E F hz) gyUC_start gv_UC_start_53 rfl (by decide) (by decide) wd_790 rfl (Nat.le_of_ble_eq_true rfl) dUC_walkTo_22 ?_
    clear hz
    refine j_aload_n X dUC_walkTo_25 rfl 1 rfl ?_
    refine j_iload_n X dUC_walkTo_26 rfl 2 rfl ?_
    refine j_cv X (st := []) (cUS_lastOver E) gyUS_lastOver gv_US_lastOver_1 rfl (by decide) (by decide) wd_798 rfl (Nat.le_of_ble_eq_true rfl) dUC_walkTo_27 ?_
    refine j_lt (g := bz_i) hf (fun l3 hf => ?_)
    refine j_istore_n X (lv' := [(3, bz_i l3), (0, bz_rf E 53), (1, bz_rf E 1), (2, bz_i a2)]) dUC_walkTo_30 rfl (by decide) rfl ?_
    show bz_J _ _ 31 _ _ _
    refine j_iconst X dUC_walkTo_31 ?_
    refine j_istore X (lv' := [(4, bz_i 0), (3, bz_i l3), (0, bz_rf E 53), (1, bz_rf E 1), (2, bz_i a2)]) dUC_walkTo_32 (by decide) rfl ?_
    obtain ⟨res6, hz6, hk6⟩ := q_l1 hf
    clear hf
    refine lUC_walkTo_L34 E F X (fun m3 he => ?_) F 0 m1 hz6
    have hf := hk6 _ he
    refine j_aload_n X dUC_walkTo_55 rfl 0 rfl ?_
    refine j_iload_n X dUC_walkTo_56 rfl 2 rfl ?_
    refine j_puti X pf_UC_46_53 dUC_walkTo_57 hf (fun m4 hf => ?_)
    refine j_aload_n X dUC_walkTo_60 rfl 0 rfl ?_
    refine j_aload_n X dUC_walkTo_61 rfl 1 rfl ?_
    refine j_geti X gf_UC_70_1 dUC_walkTo_62 ?_
    refine j_puti X pf_UC_67_53 dUC_walkTo_65 hf (fun m5 hf => ?_)
    show bz_J _ _ 68 _ _ _
    cases hf
    exact j_vret X dUC_walkTo_68 rfl rfl
  · refine j_aload_n X dUC_walkTo_8 rfl 0 rfl ?_
    refine j_geti X gf_UC_67_53 dUC_walkTo_9 ?_
    refine j_aload_n X dUC_walkTo_12 rfl 1 rfl ?_
    refine j_geti X gf_UC_70_1 dUC_walkTo_13 ?_
    refine j_icmp_ne X (tgt := 20) rfl rfl dUC_walkTo_16 (by decide) hf (fun hf => ?_) (fun hf => ?_)
    · refine j_aload_n X dUC_walkTo_20 rfl 0 rfl ?_
      refine j_aload_n X dUC_walkTo_21 rfl 1 rfl ?_
      obtain ⟨m7, hz, hf⟩ := q_cl hf
      refine j_cv X (st := []) (cUC_start E F hz) gyUC_start gv_UC_start_53 rfl (by decide) (by decide) wd_790 rfl (Nat.le_of_ble_eq_true rfl) dUC_walkTo_22 ?_
      clear hz
      refine j_aload_n X dUC_walkTo_25 rfl 1 rfl ?_
      refine j_iload_n X dUC_walkTo_26 rfl 2 rfl ?_
      refine j_cv X (st := []) (cUS_lastOver E) gyUS_lastOver gv_US_lastOver_1 rfl (by decide) (by decide) wd_798 rfl (Nat.le_of_ble_eq_true rfl) dUC_walkTo_27 ?_
      refine j_lt (g := bz_i) hf (fun l3 hf => ?_)
      refine j_istore_n X (lv' := [(3, bz_i l3), (0, bz_rf E 53), (1, bz_rf E 1), (2, bz_i a2)]) dUC_walkTo_30 rfl (by decide) rfl ?_
      show bz_J _ _ 31 _ _ _
      refine j_iconst X dUC_walkTo_31 ?_
      refine j_istore X (lv' := [(4, bz_i 0), (3, bz_i l3), (0, bz_rf E 53), (1, bz_rf E 1), (2, bz_i a2)]) dUC_walkTo_32 (by decide) rfl ?_
      obtain ⟨res12, hz12, hk12⟩ := q_l1 hf
      clear hf
      refine lUC_walkTo_L34a E F X (fun m9 he => ?_) F 0 m7 hz12
      have hf := hk12 _ he
      refine j_aload_n X dUC_walkTo_55 rfl 0 rfl ?_
      refine j_iload_n X dUC_walkTo_56 rfl 2 rfl ?_
      refine j_puti X pf_UC_46_53 dUC_walkTo_57 hf (fun m10 hf => ?_)
      refine j_aload_n X dUC_walkTo_60 rfl 0 rfl ?_
      refine j_aload_n X dUC_walkTo_61 rfl 1 rfl ?_
      refine j_geti X gf_UC_70_1 dUC_walkTo_62 ?_
      refine j_puti X pf_UC_67_53 dUC_walkTo_65 hf (fun m11 hf => ?_)
      show bz_J _ _ 68 _ _ _
      cases hf
      exact j_vret X dUC_walkTo_68 rfl rfl
    · cases hf
      exact j_vret X dUC_walkTo_19 rfl rfl
def gJM_max0 (a0 : Int) (a1 : Int) : Option Int :=
  if w32 a0 < w32 a1 then
  (some a1)
  else
  (some a0)
def fJM_max0 (a0 : Int) (a1 : Int) : Int :=
  if w32 a0 < w32 a1 then
  (a1)
  else
  (a0)
theorem tJM_max0 (a0 : Int) (a1 : Int) : gJM_max0 a0 a1 = some (fJM_max0 a0 a1) := by
  unfold gJM_max0 fJM_max0
  (repeat' (first | rfl | split))
set_option maxHeartbeats 4000000 in
set_option maxRecDepth 20000 in
theorem cJM_max0 (E : bz_E) {M : bz_Mm} {a0 : Int} {a1 : Int} : bz_Ct E yJM_max0 (.code yJM_max0 prog_16_method_65_code 2 (some .int)) 0 0 [bz_i a0, bz_i a1] M (some (bz_i (fJM_max0 a0 a1))) M := by
  have hf := tJM_max0 a0 a1
  refine bz_metF (by decide +kernel) (Nat.le_of_ble_eq_true rfl) (fun K X => ?_)
  have X : bz_X K E prog_16_method_65_code 2 "java/lang/Math" (some .int) 0 0 _ _ := X
  unfold gJM_max0 at hf
  generalize fJM_max0 a0 a1 = rr at hf X
  show bz_J K 2 0 [(0, bz_i a0), (1, bz_i a1)] [] M
  refine j_iload_n X dJM_max0_0 rfl 0 rfl ?_
  refine j_iload_n X dJM_max0_1 rfl 1 rfl ?_
  refine j_icmp_lt X (tgt := 9) rfl rfl dJM_max0_2 (by decide) hf (fun hf => ?_) (fun hf => ?_)
  · refine j_iload_n X dJM_max0_9 rfl 1 rfl ?_
    cases hf
    exact j_iret X dJM_max0_10 rfl rfl
  · refine j_iload_n X dJM_max0_5 rfl 0 rfl ?_
    refine j_goto X (tgt := 10) dJM_max0_6 (by decide) ?_
    cases hf
    exact j_iret X dJM_max0_10 rfl rfl
def fUD_fill (F : Nat) (M : bz_Mm) (a1 : Int) : Option (bz_Mm) :=
  rd_ M 37 a1 200 fun x1 =>
  rd_ M 38 a1 200 fun x2 =>
  lt_ ((x1 * 4) + x2) fun l2 =>
  rd_ M 39 a1 200 fun x3 =>
  rd_ M 43 l2 96 fun x4 =>
  lt_ (fJM_max0 x3 (-x4)) fun l3 =>
  wa_ M 40 a1 200 l3 fun m5 =>
  rd_ m5 43 l2 96 fun x6 =>
  wa_ m5 43 l2 96 (x6 + l3) fun m7 =>
  rd_ m7 38 a1 200 fun x8 =>
  rd_ m7 44 x8 4 fun x9 =>
  wa_ m7 44 x8 4 (x9 + l3) fun m10 =>
  some m10
set_option maxHeartbeats 4000000 in
set_option maxRecDepth 20000 in
theorem cUD_fill (E : bz_E) (F : Nat)  {M : bz_Mm} {a1 : Int} {x0 : bz_Mm} (hf : fUD_fill F M a1 = some x0) : bz_Ct E yUD_fill (.code yUD_fill prog_6_method_3_code 4 none) 1 21 [bz_rf E 33, bz_i a1] M (none) x0 := by
  refine bz_met (by decide +kernel) (Nat.le_of_ble_eq_true rfl) (fun K X => ?_)
  have X : bz_X K E prog_6_method_3_code 4 "UnitsWrong$Deals" none 1 21 _ _ := X
  unfold fUD_fill at hf
  show bz_J K 4 0 [(0, bz_rf E 33), (1, bz_i a1)] [] M
  refine j_aload_n X dUD_fill_0 rfl 0 rfl ?_
  refine j_geta X gf_UD_20_33 dUD_fill_1 ?_
  refine j_iload_n X dUD_fill_4 rfl 1 rfl ?_
  refine j_iald X sh_37 dUD_fill_5 hf (fun x1 hf => ?_)
  refine j_iconst X dUD_fill_6 ?_
  refine j_imul X dUD_fill_7 ?_
  refine j_aload_n X dUD_fill_8 rfl 0 rfl ?_
  show bz_J _ _ 9 _ _ _
  refine j_geta X gf_UD_24_33 dUD_fill_9 ?_
  refine j_iload_n X dUD_fill_12 rfl 1 rfl ?_
  refine j_iald X sh_38 dUD_fill_13 hf (fun x2 hf => ?_)
  refine j_iadd X dUD_fill_14 ?_
  refine j_lt (g := bz_i) hf (fun l2 hf => ?_)
  refine j_istore_n X (lv' := [(2, bz_i l2), (0, bz_rf E 33), (1, bz_i a1)]) dUD_fill_15 rfl (by decide) rfl ?_
  refine j_aload_n X dUD_fill_16 rfl 1 rfl ?_
  refine j_geta X gf_UD_27_33 dUD_fill_17 ?_
  refine j_iload_n X dUD_fill_20 rfl 2 rfl ?_
  show bz_J _ _ 21 _ _ _
  refine j_iald X sh_39 dUD_fill_21 hf (fun x3 hf => ?_)
  refine j_aload_n X dUD_fill_22 rfl 1 rfl ?_
  refine j_geta X gf_UD_40_33 dUD_fill_23 ?_
  refine j_iload_n X dUD_fill_26 rfl 0 rfl ?_
  refine j_iald X sh_43 dUD_fill_27 hf (fun x4 hf => ?_)
  refine j_ineg X dUD_fill_28 ?_
  refine j_cs X (st := []) (cJM_max0 E) gyJM_max0 wd_896 rfl (by decide) (by decide) wd_895 rfl (Nat.le_of_ble_eq_true rfl) dUD_fill_29 ?_
  refine j_lt (g := bz_i) hf (fun l3 hf => ?_)
  refine j_istore_n X (lv' := [(3, bz_i l3), (2, bz_i l2), (0, bz_rf E 33), (1, bz_i a1)]) dUD_fill_32 rfl (by decide) rfl ?_
  show bz_J _ _ 33 _ _ _
  refine j_aload_n X dUD_fill_33 rfl 2 rfl ?_
  refine j_geta X gf_UD_30_33 dUD_fill_34 ?_
  refine j_iload_n X dUD_fill_37 rfl 3 rfl ?_
  refine j_iload_n X dUD_fill_38 rfl 0 rfl ?_
  refine j_iast X sh_40 dUD_fill_39 hf (fun m5 hf => ?_)
  refine j_aload_n X dUD_fill_40 rfl 2 rfl ?_
  refine j_geta X gf_UD_40_33 dUD_fill_41 ?_
  refine j_iload_n X dUD_fill_44 rfl 1 rfl ?_
  show bz_J _ _ 45 _ _ _
  refine j_dup2 X dUD_fill_45 rfl rfl ?_
  refine j_iald X sh_43 dUD_fill_46 hf (fun x6 hf => ?_)
  refine j_iload_n X dUD_fill_47 rfl 0 rfl ?_
  refine j_iadd X dUD_fill_48 ?_
  refine j_iast X sh_43 dUD_fill_49 hf (fun m7 hf => ?_)
  refine j_aload_n X dUD_fill_50 rfl 2 rfl ?_
  refine j_geta X gf_UD_43_33 dUD_fill_51 ?_
  refine j_aload_n X dUD_fill_54 rfl 2 rfl ?_
  show bz_J _ _ 55 _ _ _
  refine j_geta X gf_UD_24_33 dUD_fill_55 ?_
  refine j_iload_n X dUD_fill_58 rfl 3 rfl ?_
  refine j_iald X sh_38 dUD_fill_59 hf (fun x8 hf => ?_)
  refine j_dup2 X dUD_fill_60 rfl rfl ?_
  refine j_iald X sh_44 dUD_fill_61 hf (fun x9 hf => ?_)
  refine j_iload_n X dUD_fill_62 rfl 0 rfl ?_
  refine j_iadd X dUD_fill_63 ?_
  refine j_iast X sh_44 dUD_fill_64 hf (fun m10 hf => ?_)
  show bz_J _ _ 65 _ _ _
  cases hf
  exact j_vret X dUD_fill_65 rfl rfl
def UC_fillDeals_L5 (F : Nat) : Nat → Int → Int → bz_Mm → Option (bz_Mm)
  | 0, _, _, _ => none
  | n + 1, l2, l3, M =>
    if w32 l3 < w32 (M 53 16) then
    (rd_ M 36 l3 200 fun x1 =>
    rd_ M 38 x1 200 fun x2 =>
    if w32 x2 = w32 l2 then
    (cl_ (fUD_fill F M x1) fun m3 =>
    UC_fillDeals_L5 F n l2 (l3 + 1) m3)
    else
    (UC_fillDeals_L5 F n l2 (l3 + 1) M))
    else
    (some M)
theorem lUC_fillDeals_L5 (E : bz_E) (F : Nat) {K : bz_K} {rv : Option Value} {M1 : bz_Mm} (X : bz_X K E prog_5_method_20_code 5 "UnitsWrong$Course" none 2 44 rv M1) {l2 : Int} {res : (bz_Mm)}
    (kx : ∀ (M : bz_Mm), some M = some res → bz_J K 5 47 [] [] M) :
    ∀ (n : Nat) (l3 : Int) (M : bz_Mm), UC_fillDeals_L5 F n l2 l3 M = some res → bz_J K 5 5 [(3, bz_i l3), (0, bz_rf E 53), (1, bz_rf E 33), (2, bz_i l2)] [] M := by
  intro n
  induction n with
  | zero => intro l3 M hf; cases hf
  | succ n ih =>
    intro l3 M hf
    rw [UC_fillDeals_L5] at hf
    refine j_iload_n X dUC_fillDeals_5 rfl 0 rfl ?_
    refine j_aload_n X dUC_fillDeals_6 rfl 1 rfl ?_
    refine j_geti X gf_UC_160_53 dUC_fillDeals_7 ?_
    refine j_icmp_ge X (tgt := 47) rfl rfl dUC_fillDeals_10 (by decide) hf (fun hf => ?_) (fun hf => ?_)
    · exact j_sub [] rfl (kx _ hf)
    · refine j_aload_n X dUC_fillDeals_13 rfl 2 rfl ?_
      refine j_geta X gf_UC_193_33 dUC_fillDeals_14 ?_
      refine j_geta X gf_UC_215_34 dUC_fillDeals_17 ?_
      refine j_iload_n X dUC_fillDeals_20 rfl 0 rfl ?_
      refine j_iald X sh_36 dUC_fillDeals_21 hf (fun x1 hf => ?_)
      refine j_istore X (lv' := [(4, bz_i x1), (3, bz_i l3), (0, bz_rf E 53), (1, bz_rf E 33), (2, bz_i l2)]) dUC_fillDeals_22 (by decide) rfl ?_
      refine j_aload_n X dUC_fillDeals_24 rfl 3 rfl ?_
      show bz_J _ _ 25 _ _ _
      refine j_geta X gf_UC_295_33 dUC_fillDeals_25 ?_
      refine j_iload X dUC_fillDeals_28 0 rfl ?_
      refine j_iald X sh_38 dUC_fillDeals_30 hf (fun x2 hf => ?_)
      refine j_iload_n X dUC_fillDeals_31 rfl 4 rfl ?_
      refine j_icmp_ne X (tgt := 41) rfl rfl dUC_fillDeals_32 (by decide) hf (fun hf => ?_) (fun hf => ?_)
      · refine j_iinc X (y := l3 + 1) (lv' := [(3, bz_i (l3 + 1)), (4, bz_i x1), (0, bz_rf E 53), (1, bz_rf E 33), (2, bz_i l2)]) dUC_fillDeals_41 1 rfl rfl (by decide) rfl ?_
        refine j_goto X (tgt := 5) dUC_fillDeals_44 (by decide) ?_
        exact j_sub [0, 2, 3, 4] rfl (ih _ _ hf)
      · refine j_aload_n X dUC_fillDeals_35 rfl 3 rfl ?_
        refine j_iload X dUC_fillDeals_36 0 rfl ?_
        obtain ⟨m3, hz, hf⟩ := q_cl hf
        refine j_cv X (st := []) (cUD_fill E F hz) gyUD_fill gv_UD_fill_33 rfl (by decide) (by decide) wd_891 rfl (Nat.le_of_ble_eq_true rfl) dUC_fillDeals_38 ?_
        clear hz
        refine j_iinc X (y := l3 + 1) (lv' := [(3, bz_i (l3 + 1)), (4, bz_i x1), (0, bz_rf E 53), (1, bz_rf E 33), (2, bz_i l2)]) dUC_fillDeals_41 1 rfl rfl (by decide) rfl ?_
        refine j_goto X (tgt := 5) dUC_fillDeals_44 (by decide) ?_
        exact j_sub [0, 2, 3, 4] rfl (ih _ _ hf)
def fUC_fillDeals (F : Nat) (M : bz_Mm) (a2 : Int) : Option (bz_Mm) :=
  lt_ (M 53 15) fun l3 =>
  cl1_ (UC_fillDeals_L5 F F a2 l3 M) fun m4 =>
  some m4
set_option maxHeartbeats 4000000 in
set_option maxRecDepth 20000 in
theorem cUC_fillDeals (E : bz_E) (F : Nat)  {M : bz_Mm} {a2 : Int} {x0 : bz_Mm} (hf : fUC_fillDeals F M a2 = some x0) : bz_Ct E yUC_fillDeals (.code yUC_fillDeals prog_5_method_20_code 5 none) 2 44 [bz_rf E 53, bz_rf E 33, bz_i a2] M (none) x0 := by
  refine bz_met (by decide +kernel) (Nat.le_of_ble_eq_true rfl) (fun K X => ?_)
  have X : bz_X K E prog_5_method_20_code 5 "UnitsWrong$Course" none 2 44 _ _ := X
  unfold fUC_fillDeals at hf
  show bz_J K 5 0 [(0, bz_rf E 53), (1, bz_rf E 33), (2, bz_i a2)] [] M
  refine j_aload_n X dUC_fillDeals_0 rfl 0 rfl ?_
  refine j_geti X gf_UC_268_53 dUC_fillDeals_1 ?_
  refine j_lt (g := bz_i) hf (fun l3 hf => ?_)
  refine j_istore_n X (lv' := [(3, bz_i l3), (0, bz_rf E 53), (1, bz_rf E 33), (2, bz_i a2)]) dUC_fillDeals_4 rfl (by decide) rfl ?_
  obtain ⟨res5, hz5, hk5⟩ := q_l1 hf
  clear hf
  refine lUC_fillDeals_L5 E F X (fun m4 he => ?_) F l3 M hz5
  have hf := hk5 _ he
  cases hf
  exact j_vret X dUC_fillDeals_47 rfl rfl
def UC_assetsOf_48_L7 (F : Nat) : Nat → bz_Mm → Int → Int → Int → Int → Option (Int)
  | 0, _, _, _, _, _ => none
  | n + 1, M, l2, l3, l9, l7 =>
    if w32 l9 < 8 then
    (rd_ M 58 ((l2 * 8) + l9) 32 fun x1 =>
    if w32 x1 = 0 then
    (UC_assetsOf_48_L7 F n M l2 l3 (l9 + 1) l7)
    else
    (rd_ M 61 l9 8 fun x2 =>
    rd_ M 6 l9 8 fun x3 =>
    rd_ M 62 x3 3 fun x4 =>
    lt_ (l7 + ((w64 (((w32 x1) * (w32 x2)) * (w32 x4))).tdiv 1000)) fun l7 =>
    UC_assetsOf_48_L7 F n M l2 l3 (l9 + 1) l7))
    else
    (some l7)
def UC_assetsOf_48_L77 (F : Nat) : Nat → bz_Mm → Int → Int → Int → Int → Option (Int)
  | 0, _, _, _, _, _ => none
  | n + 1, M, l2, l3, l9, l7 =>
    if w32 l9 < w32 l2 then
    (rd_ M 59 ((l2 * 4) + l9) 16 fun x5 =>
    rd_ M 48 (fU_slot l9 l3) 1040 fun x6 =>
    lt_ (l7 + ((w64 ((w32 x5) * (w32 x6))).tdiv 100)) fun l7 =>
    UC_assetsOf_48_L77 F n M l2 l3 (l9 + 1) l7)
    else
    (some l7)
theorem lUC_assetsOf_48_L7 (E : bz_E) (F : Nat) {K : bz_K} {rv : Option Value} {M1 : bz_Mm} (X : bz_X K E prog_5_method_17_code 11 "UnitsWrong$Course" (some .long) 1 21 rv M1) {M : bz_Mm} {l2 : Int} {l3 : Int} {res : (Int)}
    (kx : ∀ (l7 : Int), some l7 = some res → bz_J K 11 74 [(7, bz_l l7), (0, bz_rf E 53), (2, bz_i l2), (3, bz_i l3), (6, bz_rf E 48)] [] M) :
    ∀ (n : Nat) (l9 : Int) (l7 : Int), UC_assetsOf_48_L7 F n M l2 l3 l9 l7 = some res → bz_J K 11 7 [(9, bz_i l9), (7, bz_l l7), (0, bz_rf E 53), (1, bz_rf E 1), (2, bz_i l2), (3, bz_i l3), (6, bz_rf E 48)] [] M := by
  intro n
  induction n with
  | zero => intro l9 l7 hf; cases hf
  | succ n ih =>
    intro l9 l7 hf
    rw [UC_assetsOf_48_L7] at hf
    refine j_iload X dUC_assetsOf_7 0 rfl ?_
    refine j_bipush X dUC_assetsOf_9 rfl ?_
    refine j_icmp_ge X (tgt := 74) rfl (w32_lit rfl) dUC_assetsOf_11 (by decide) hf (fun hf => ?_) (fun hf => ?_)
    · exact j_sub [1, 2, 4, 5, 6] rfl (kx _ hf)
    · refine j_aload_n X dUC_assetsOf_14 rfl 2 rfl ?_
      refine j_geta X gf_UC_25_53 dUC_assetsOf_15 ?_
      refine j_iload_n X dUC_assetsOf_18 rfl 4 rfl ?_
      refine j_bipush X dUC_assetsOf_19 rfl ?_
      refine j_imul X dUC_assetsOf_21 ?_
      refine j_iload X dUC_assetsOf_22 0 rfl ?_
      refine j_iadd X dUC_assetsOf_24 ?_
      show bz_J _ _ 25 _ _ _
      refine j_iald X sh_58 dUC_assetsOf_25 hf (fun x1 hf => ?_)
      refine j_istore X (lv' := [(10, bz_i x1), (9, bz_i l9), (7, bz_l l7), (0, bz_rf E 53), (1, bz_rf E 1), (2, bz_i l2), (3, bz_i l3), (6, bz_rf E 48)]) dUC_assetsOf_26 (by decide) rfl ?_
      refine j_iload X dUC_assetsOf_28 0 rfl ?_
      refine j_if_eq X (tgt := 68) rfl dUC_assetsOf_30 (by decide) hf (fun hf => ?_) (fun hf => ?_)
      · refine j_iinc X (y := l9 + 1) (lv' := [(9, bz_i (l9 + 1)), (10, bz_i x1), (7, bz_l l7), (0, bz_rf E 53), (1, bz_rf E 1), (2, bz_i l2), (3, bz_i l3), (6, bz_rf E 48)]) dUC_assetsOf_68 1 rfl rfl (by decide) rfl ?_
        refine j_goto X (tgt := 7) dUC_assetsOf_71 (by decide) ?_
        exact j_sub [0, 2, 3, 4, 5, 6, 7] rfl (ih _ _ hf)
      · refine j_lload X dUC_assetsOf_33 2 rfl ?_
        refine j_iload X dUC_assetsOf_35 0 rfl ?_
        refine j_i2l X rfl dUC_assetsOf_37 ?_
        refine j_aload_n X dUC_assetsOf_38 rfl 3 rfl ?_
        refine j_geta X gf_UC_34_53 dUC_assetsOf_39 ?_
        refine j_iload X dUC_assetsOf_42 1 rfl ?_
        refine j_iald X sh_61 dUC_assetsOf_44 hf (fun x2 hf => ?_)
        show bz_J _ _ 45 _ _ _
        refine j_i2l X rfl dUC_assetsOf_45 ?_
        refine j_lmul X dUC_assetsOf_46 ?_
        refine j_aload_n X dUC_assetsOf_47 rfl 3 rfl ?_
        refine j_geta X gf_UC_37_53 dUC_assetsOf_48 ?_
        refine j_aload_n X dUC_assetsOf_51 rfl 4 rfl ?_
        refine j_geta X gf_UC_240_1 dUC_assetsOf_52 ?_
        refine j_iload X dUC_assetsOf_55 1 rfl ?_
        refine j_iald X sh_6 dUC_assetsOf_57 hf (fun x3 hf => ?_)
        show bz_J _ _ 58 _ _ _
        refine j_iald X sh_62 dUC_assetsOf_58 hf (fun x4 hf => ?_)
        refine j_i2l X rfl dUC_assetsOf_59 ?_
        refine j_lmul X dUC_assetsOf_60 ?_
        refine j_ldc2 X (v := 1000) wd_827 dUC_assetsOf_61 ?_
        refine j_ldl X (w64_lit rfl) (by decide) dUC_assetsOf_64 ?_
        refine j_ladd X dUC_assetsOf_65 ?_
        refine j_lt (g := bz_l) hf (fun l7 hf => ?_)
        refine j_lstore X (lv' := [(7, bz_l l7), (10, bz_i x1), (9, bz_i l9), (0, bz_rf E 53), (1, bz_rf E 1), (2, bz_i l2), (3, bz_i l3), (6, bz_rf E 48)]) dUC_assetsOf_66 (by decide) rfl ?_
        refine j_iinc X (y := l9 + 1) (lv' := [(9, bz_i (l9 + 1)), (7, bz_l l7), (10, bz_i x1), (0, bz_rf E 53), (1, bz_rf E 1), (2, bz_i l2), (3, bz_i l3), (6, bz_rf E 48)]) dUC_assetsOf_68 2 rfl rfl (by decide) rfl ?_
        show bz_J _ _ 71 _ _ _
        refine j_goto X (tgt := 7) dUC_assetsOf_71 (by decide) ?_
        exact j_sub [0, 1, 3, 4, 5, 6, 7] rfl (ih _ _ hf)
theorem lUC_assetsOf_48_L77 (E : bz_E) (F : Nat) {K : bz_K} {rv : Option Value} {M1 : bz_Mm} (X : bz_X K E prog_5_method_17_code 11 "UnitsWrong$Course" (some .long) 1 21 rv M1) {M : bz_Mm} {l2 : Int} {l3 : Int} {res : (Int)}
    (kx : ∀ (l7 : Int), some l7 = some res → bz_J K 11 121 [(7, bz_l l7)] [] M) :
    ∀ (n : Nat) (l9 : Int) (l7 : Int), UC_assetsOf_48_L77 F n M l2 l3 l9 l7 = some res → bz_J K 11 77 [(9, bz_i l9), (7, bz_l l7), (0, bz_rf E 53), (2, bz_i l2), (3, bz_i l3), (6, bz_rf E 48)] [] M := by
  intro n
  induction n with
  | zero => intro l9 l7 hf; cases hf
  | succ n ih =>
    intro l9 l7 hf
    rw [UC_assetsOf_48_L77] at hf
    refine j_iload X dUC_assetsOf_77 0 rfl ?_
    refine j_iload_n X dUC_assetsOf_79 rfl 3 rfl ?_
    refine j_icmp_ge X (tgt := 121) rfl rfl dUC_assetsOf_80 (by decide) hf (fun hf => ?_) (fun hf => ?_)
    · exact j_sub [1] rfl (kx _ hf)
    · refine j_lload X dUC_assetsOf_83 1 rfl ?_
      refine j_aload_n X dUC_assetsOf_85 rfl 2 rfl ?_
      refine j_geta X gf_UC_28_53 dUC_assetsOf_86 ?_
      refine j_iload_n X dUC_assetsOf_89 rfl 3 rfl ?_
      refine j_iconst X dUC_assetsOf_90 ?_
      refine j_imul X dUC_assetsOf_91 ?_
      refine j_iload X dUC_assetsOf_92 0 rfl ?_
      show bz_J _ _ 94 _ _ _
      refine j_iadd X dUC_assetsOf_94 ?_
      refine j_iald X sh_59 dUC_assetsOf_95 hf (fun x5 hf => ?_)
      refine j_i2l X rfl dUC_assetsOf_96 ?_
      refine j_aload X dUC_assetsOf_97 5 rfl ?_
      refine j_iload X dUC_assetsOf_99 0 rfl ?_
      refine j_iload_n X dUC_assetsOf_101 rfl 4 rfl ?_
      refine j_cn X (st := [bz_rf E 48, bz_l (w32 x5), bz_l l7]) (cU_slot E) gyU_slot wd_853 rfl (by decide) (by decide) nl_852 rfl (Nat.le_of_ble_eq_true rfl) dUC_assetsOf_102 ?_
      refine j_iald X sh_48 dUC_assetsOf_105 hf (fun x6 hf => ?_)
      show bz_J _ _ 106 _ _ _
      refine j_i2l X rfl dUC_assetsOf_106 ?_
      refine j_lmul X dUC_assetsOf_107 ?_
      refine j_ldc2 X (v := 100) wd_863 dUC_assetsOf_108 ?_
      refine j_ldl X (w64_lit rfl) (by decide) dUC_assetsOf_111 ?_
      refine j_ladd X dUC_assetsOf_112 ?_
      refine j_lt (g := bz_l) hf (fun l7 hf => ?_)
      refine j_lstore X (lv' := [(7, bz_l l7), (9, bz_i l9), (0, bz_rf E 53), (2, bz_i l2), (3, bz_i l3), (6, bz_rf E 48)]) dUC_assetsOf_113 (by decide) rfl ?_
      refine j_iinc X (y := l9 + 1) (lv' := [(9, bz_i (l9 + 1)), (7, bz_l l7), (0, bz_rf E 53), (2, bz_i l2), (3, bz_i l3), (6, bz_rf E 48)]) dUC_assetsOf_115 1 rfl rfl (by decide) rfl ?_
      refine j_goto X (tgt := 77) dUC_assetsOf_118 (by decide) ?_
      exact ih _ _ hf
def fUC_assetsOf_48 (F : Nat) (M : bz_Mm) (a2 : Int) (a3 : Int) (a4 : Int) : Option (Int) :=
  cl1_ (UC_assetsOf_48_L7 F F M a2 a3 0 a4) fun l7 =>
  cl1_ (UC_assetsOf_48_L77 F F M a2 a3 0 l7) fun l7 =>
  some l7
set_option maxHeartbeats 4000000 in
set_option maxRecDepth 20000 in
theorem cUC_assetsOf_48 (E : bz_E) (F : Nat)  {M : bz_Mm} {a2 : Int} {a3 : Int} {a4 : Int} {x0 : Int} (hf : fUC_assetsOf_48 F M a2 a3 a4 = some x0) : bz_Ct E yUC_assetsOf (.code yUC_assetsOf prog_5_method_17_code 11 (some .long)) 1 21 [bz_rf E 53, bz_rf E 1, bz_i a2, bz_i a3, bz_l a4, bz_rf E 48] M (some (bz_l x0)) M := by
  refine bz_met (by decide +kernel) (Nat.le_of_ble_eq_true rfl) (fun K X => ?_)
  have X : bz_X K E prog_5_method_17_code 11 "UnitsWrong$Course" (some .long) 1 21 _ _ := X
  unfold fUC_assetsOf_48 at hf
  show bz_J K 11 0 [(0, bz_rf E 53), (1, bz_rf E 1), (2, bz_i a2), (3, bz_i a3), (4, bz_l a4), (6, bz_rf E 48)] [] M
  refine j_lload X dUC_assetsOf_0 4 rfl ?_
  refine j_lstore X (lv' := [(7, bz_l a4), (0, bz_rf E 53), (1, bz_rf E 1), (2, bz_i a2), (3, bz_i a3), (4, bz_l a4), (6, bz_rf E 48)]) dUC_assetsOf_2 (by decide) rfl ?_
  refine j_iconst X dUC_assetsOf_4 ?_
  refine j_istore X (lv' := [(9, bz_i 0), (7, bz_l a4), (0, bz_rf E 53), (1, bz_rf E 1), (2, bz_i a2), (3, bz_i a3), (4, bz_l a4), (6, bz_rf E 48)]) dUC_assetsOf_5 (by decide) rfl ?_
  obtain ⟨res8, hz8, hk8⟩ := q_l1 hf
  clear hf
  refine j_sub [0, 1, 2, 3, 4, 5, 7] rfl ?_
  refine lUC_assetsOf_48_L7 E F X (fun l7 he => ?_) F 0 a4 hz8
  have hf := hk8 _ he
  refine j_iconst X dUC_assetsOf_74 ?_
  refine j_istore X (lv' := [(9, bz_i 0), (7, bz_l l7), (0, bz_rf E 53), (2, bz_i a2), (3, bz_i a3), (6, bz_rf E 48)]) dUC_assetsOf_75 (by decide) rfl ?_
  obtain ⟨res7, hz7, hk7⟩ := q_l1 hf
  clear hf
  refine lUC_assetsOf_48_L77 E F X (fun l7 he => ?_) F 0 l7 hz7
  have hf := hk7 _ he
  refine j_lload X dUC_assetsOf_121 0 rfl ?_
  cases hf
  exact j_lret X dUC_assetsOf_123 rfl rfl
def fUC_makePrice_54_48_49 (F : Nat) (M : bz_Mm) (a2 : Int) (a3 : Int) : Option (bz_Mm) :=
  rd_ M 54 a2 4 fun x1 =>
  cl_ (fUC_assetsOf_48 F M a2 a3 x1) fun x2 =>
  cl_ (fUL_value F M a2 a3 0) fun x3 =>
  lt_ ((w64 ((fJM_max1 0 x2) * (w32 x3))).tdiv 1000000) fun l9 =>
  rd_ M 60 a2 4 fun x4 =>
  cl1_ (if 0 < w32 x4 then
  (rd_ M 60 a2 4 fun x7 =>
  dv_ ((x2 - l9) * 100) (w32 x7) fun x8 =>
  some (x8))
  else
  (some (10000))) fun v6 =>
  lt_ (fJM_max1 0 (fJM_min1 10000000 v6)) fun l11 =>
  cl_ (fUC_flowOf F M a2) fun x9 =>
  cl_ (fUL_value F M a2 a3 2) fun x10 =>
  rd_ M 60 a2 4 fun x11 =>
  cl1_ (if w64 ((w32 x10) * (w32 x11)) < w64 (10000 * (fJM_abs1 x9)) then
  (cl_ (fUL_value F M a2 a3 1) fun x13 =>
  cl1_ (if w64 x9 < 0 then
  (some (10000 - x13))
  else
  (some (10000 + x13))) fun v15 =>
  lt_ (fJM_min1 10000000 ((w64 (l11 * (w32 v15))).tdiv 10000)) fun l11 =>
  some (l11))
  else
  (some (l11))) fun l11 =>
  wa_ M 49 (fU_slot a2 a3) 1040 l9 fun m16 =>
  wa_ m16 48 (fU_slot a2 a3) 1040 l11 fun m17 =>
  some m17
set_option maxHeartbeats 4000000 in
set_option maxRecDepth 20000 in
theorem cUC_makePrice_54_48_49 (E : bz_E) (F : Nat)  {M : bz_Mm} {a2 : Int} {a3 : Int} {x0 : bz_Mm} (hf : fUC_makePrice_54_48_49 F M a2 a3 = some x0) : bz_Ct E yUC_makePrice (.code yUC_makePrice prog_5_method_18_code 16 none) 2 51 [bz_rf E 53, bz_rf E 1, bz_i a2, bz_i a3, bz_rf E 54, bz_rf E 48, bz_rf E 49] M (none) x0 := by
  refine bz_met (by decide +kernel) (Nat.le_of_ble_eq_true rfl) (fun K X => ?_)
  have X : bz_X K E prog_5_method_18_code 16 "UnitsWrong$Course" none 2 51 _ _ := X
  unfold fUC_makePrice_54_48_49 at hf
  show bz_J K 16 0 [(0, bz_rf E 53), (1, bz_rf E 1), (2, bz_i a2), (3, bz_i a3), (4, bz_rf E 54), (5, bz_rf E 48), (6, bz_rf E 49)] [] M
  refine j_aload_n X dUC_makePrice_0 rfl 0 rfl ?_
  refine j_aload_n X dUC_makePrice_1 rfl 1 rfl ?_
  refine j_iload_n X dUC_makePrice_2 rfl 2 rfl ?_
  refine j_iload_n X dUC_makePrice_3 rfl 3 rfl ?_
  refine j_aload X dUC_makePrice_4 4 rfl ?_
  refine j_iload_n X dUC_makePrice_6 rfl 2 rfl ?_
  refine j_lald X sh_54 dUC_makePrice_7 hf (fun x1 hf => ?_)
  show bz_J _ _ 8 _ _ _
  refine j_aload X dUC_makePrice_8 5 rfl ?_
  obtain ⟨x2, hzx2, hf⟩ := q_cl hf
  refine j_cv X (st := []) (cUC_assetsOf_48 E F hzx2) gyUC_assetsOf gv_UC_assetsOf_53 rfl (by decide) (by decide) wd_859 rfl (Nat.le_of_ble_eq_true rfl) dUC_makePrice_10 ?_
  refine j_lstore X (lv' := [(7, bz_l x2), (0, bz_rf E 53), (1, bz_rf E 1), (2, bz_i a2), (3, bz_i a3), (4, bz_rf E 54), (5, bz_rf E 48), (6, bz_rf E 49)]) dUC_makePrice_13 (by decide) rfl ?_
  refine j_lconst X (v := 0) dUC_makePrice_15 rfl ?_
  refine j_lload X dUC_makePrice_16 0 rfl ?_
  refine j_cs X (st := []) (cJM_max1 E) gyJM_max1 wd_837 rfl (by decide) (by decide) wd_836 rfl (Nat.le_of_ble_eq_true rfl) dUC_makePrice_18 ?_
  refine j_aload_n X dUC_makePrice_21 rfl 2 rfl ?_
  refine j_geta X gf_UC_277_1 dUC_makePrice_22 ?_
  show bz_J _ _ 25 _ _ _
  refine j_iload_n X dUC_makePrice_25 rfl 3 rfl ?_
  refine j_iload_n X dUC_makePrice_26 rfl 4 rfl ?_
  refine j_iconst X dUC_makePrice_27 ?_
  obtain ⟨x3, hzx3, hf⟩ := q_cl hf
  refine j_cv X (st := [bz_l (fJM_max1 0 x2)]) (cUL_value E F hzx3) gyUL_value gv_UL_value_45 rfl (by decide) (by decide) wd_864 rfl (Nat.le_of_ble_eq_true rfl) dUC_makePrice_28 ?_
  refine j_i2l X rfl dUC_makePrice_31 ?_
  refine j_lmul X dUC_makePrice_32 ?_
  refine j_ldc2 X (v := 1000000) wd_832 dUC_makePrice_33 ?_
  refine j_ldl X (w64_lit rfl) (by decide) dUC_makePrice_36 ?_
  show bz_J _ _ 37 _ _ _
  refine j_lt (g := bz_l) hf (fun l9 hf => ?_)
  refine j_lstore X (lv' := [(9, bz_l l9), (7, bz_l x2), (0, bz_rf E 53), (1, bz_rf E 1), (2, bz_i a2), (3, bz_i a3), (4, bz_rf E 54), (5, bz_rf E 48), (6, bz_rf E 49)]) dUC_makePrice_37 (by decide) rfl ?_
  refine j_aload_n X dUC_makePrice_39 rfl 2 rfl ?_
  refine j_geta X gf_UC_31_53 dUC_makePrice_40 ?_
  refine j_iload_n X dUC_makePrice_43 rfl 4 rfl ?_
  refine j_iald X sh_60 dUC_makePrice_44 hf (fun x4 hf => ?_)
  obtain ⟨resJ5, hf0, hkJ5⟩ := q_l1 hf
  have J5 : ∀ (v6 : Int), some v6 = some resJ5 → bz_J K 16 71 [(9, bz_l l9), (0, bz_rf E 53), (1, bz_rf E 1), (2, bz_i a2), (3, bz_i a3), (5, bz_rf E 48), (6, bz_rf E 49)] [bz_l v6] M := by
    intro v6 he
    have hf := hkJ5 _ he
    refine j_lstore X (lv' := [(11, bz_l v6), (9, bz_l l9), (0, bz_rf E 53), (1, bz_rf E 1), (2, bz_i a2), (3, bz_i a3), (5, bz_rf E 48), (6, bz_rf E 49)]) dUC_makePrice_71 (by decide) rfl ?_
    refine j_lconst X (v := 0) dUC_makePrice_73 rfl ?_
    refine j_ldc2 X (v := 10000000) wd_866 dUC_makePrice_74 ?_
    refine j_lload X dUC_makePrice_77 0 rfl ?_
    refine j_cs X (st := [bz_l 0]) (cJM_min1 E) gyJM_min1 wd_834 rfl (by decide) (by decide) wd_833 rfl (Nat.le_of_ble_eq_true rfl) dUC_makePrice_79 ?_
    refine j_cs X (st := []) (cJM_max1 E) gyJM_max1 wd_837 rfl (by decide) (by decide) wd_836 rfl (Nat.le_of_ble_eq_true rfl) dUC_makePrice_82 ?_
    refine j_lt (g := bz_l) hf (fun l11 hf => ?_)
    refine j_lstore X (lv' := [(11, bz_l l11), (9, bz_l l9), (0, bz_rf E 53), (1, bz_rf E 1), (2, bz_i a2), (3, bz_i a3), (5, bz_rf E 48), (6, bz_rf E 49)]) dUC_makePrice_85 (by decide) rfl ?_
    show bz_J _ _ 87 _ _ _
    refine j_aload_n X dUC_makePrice_87 rfl 2 rfl ?_
    refine j_aload_n X dUC_makePrice_88 rfl 3 rfl ?_
    refine j_geta X gf_UC_105_1 dUC_makePrice_89 ?_
    refine j_iload_n X dUC_makePrice_92 rfl 4 rfl ?_
    obtain ⟨x9, hzx9, hf⟩ := q_cl hf
    refine j_cv X (st := []) (cUC_flowOf E F hzx9) gyUC_flowOf gv_UC_flowOf_53 rfl (by decide) (by decide) wd_867 rfl (Nat.le_of_ble_eq_true rfl) dUC_makePrice_93 ?_
    refine j_lstore X (lv' := [(13, bz_l x9), (11, bz_l l11), (9, bz_l l9), (0, bz_rf E 53), (1, bz_rf E 1), (2, bz_i a2), (3, bz_i a3), (5, bz_rf E 48), (6, bz_rf E 49)]) dUC_makePrice_96 (by decide) rfl ?_
    refine j_ldc2 X (v := 10000) wd_865 dUC_makePrice_98 ?_
    refine j_lload X dUC_makePrice_101 0 rfl ?_
    show bz_J _ _ 103 _ _ _
    refine j_cs X (st := [bz_l 10000]) (cJM_abs1 E) gyJM_abs1 wd_872 rfl (by decide) (by decide) wd_871 rfl (Nat.le_of_ble_eq_true rfl) dUC_makePrice_103 ?_
    refine j_lmul X dUC_makePrice_106 ?_
    refine j_aload_n X dUC_makePrice_107 rfl 4 rfl ?_
    refine j_geta X gf_UC_277_1 dUC_makePrice_108 ?_
    refine j_iload_n X dUC_makePrice_111 rfl 5 rfl ?_
    refine j_iload_n X dUC_makePrice_112 rfl 6 rfl ?_
    refine j_iconst X dUC_makePrice_113 ?_
    obtain ⟨x10, hzx10, hf⟩ := q_cl hf
    refine j_cv X (st := [bz_l (10000 * (fJM_abs1 x9))]) (cUL_value E F hzx10) gyUL_value gv_UL_value_45 rfl (by decide) (by decide) wd_864 rfl (Nat.le_of_ble_eq_true rfl) dUC_makePrice_114 ?_
    show bz_J _ _ 117 _ _ _
    refine j_i2l X rfl dUC_makePrice_117 ?_
    refine j_aload_n X dUC_makePrice_118 rfl 3 rfl ?_
    refine j_geta X gf_UC_31_53 dUC_makePrice_119 ?_
    refine j_iload_n X dUC_makePrice_122 rfl 5 rfl ?_
    refine j_iald X sh_60 dUC_makePrice_123 hf (fun x11 hf => ?_)
    refine j_i2l X rfl dUC_makePrice_124 ?_
    refine j_lmul X dUC_makePrice_125 ?_
    obtain ⟨resJ12, hf0, hkJ12⟩ := q_l1 hf
    have J12 : ∀ (l11 : Int), some l11 = some resJ12 → bz_J K 16 180 [(11, bz_l l11), (9, bz_l l9), (2, bz_i a2), (3, bz_i a3), (5, bz_rf E 48), (6, bz_rf E 49)] [] M := by
      intro l11 he
      have hf := hkJ12 _ he
      refine j_aload X dUC_makePrice_180 5 rfl ?_
      refine j_iload_n X dUC_makePrice_182 rfl 2 rfl ?_
      refine j_iload_n X dUC_makePrice_183 rfl 3 rfl ?_
      refine j_cn X (st := [bz_rf E 49]) (cU_slot E) gyU_slot wd_853 rfl (by decide) (by decide) nl_852 rfl (Nat.le_of_ble_eq_true rfl) dUC_makePrice_184 ?_
      refine j_lload X dUC_makePrice_187 1 rfl ?_
      refine j_last X sh_49 dUC_makePrice_189 hf (fun m16 hf => ?_)
      refine j_aload X dUC_makePrice_190 4 rfl ?_
      show bz_J _ _ 192 _ _ _
      refine j_iload_n X dUC_makePrice_192 rfl 2 rfl ?_
      refine j_iload_n X dUC_makePrice_193 rfl 3 rfl ?_
      refine j_cn X (st := [bz_rf E 48]) (cU_slot E) gyU_slot wd_853 rfl (by decide) (by decide) nl_852 rfl (Nat.le_of_ble_eq_true rfl) dUC_makePrice_194 ?_
      refine j_lload X dUC_makePrice_197 0 rfl ?_
      refine j_l2i X dUC_makePrice_199 ?_
      refine j_iast X sh_48 dUC_makePrice_200 hf (fun m17 hf => ?_)
      cases hf
      exact j_vret X dUC_makePrice_201 rfl rfl
    clear hf
    have hf := hf0
    clear hf0
    refine j_lcmp_le X (tgt := 180) rfl rfl dUC_makePrice_126 dUC_makePrice_127 (by decide) hf (fun hf => ?_) (fun hf => ?_)
    · exact j_sub [1, 2, 5, 6, 7, 8] rfl (J12 _ hf)
    · refine j_aload_n X dUC_makePrice_130 rfl 4 rfl ?_
      refine j_geta X gf_UC_277_1 dUC_makePrice_131 ?_
      refine j_iload_n X dUC_makePrice_134 rfl 5 rfl ?_
      refine j_iload_n X dUC_makePrice_135 rfl 6 rfl ?_
      refine j_iconst X dUC_makePrice_136 ?_
      obtain ⟨x13, hzx13, hf⟩ := q_cl hf
      refine j_cv X (st := []) (cUL_value E F hzx13) gyUL_value gv_UL_value_45 rfl (by decide) (by decide) wd_864 rfl (Nat.le_of_ble_eq_true rfl) dUC_makePrice_137 ?_
      refine j_istore X (lv' := [(15, bz_i x13), (13, bz_l x9), (11, bz_l l11), (9, bz_l l9), (0, bz_rf E 53), (1, bz_rf E 1), (2, bz_i a2), (3, bz_i a3), (5, bz_rf E 48), (6, bz_rf E 49)]) dUC_makePrice_140 (by decide) rfl ?_
      show bz_J _ _ 142 _ _ _
      refine j_ldc2 X (v := 10000000) wd_866 dUC_makePrice_142 ?_
      refine j_lload X dUC_makePrice_145 2 rfl ?_
      refine j_lload X dUC_makePrice_147 1 rfl ?_
      refine j_lconst X (v := 0) dUC_makePrice_149 rfl ?_
      obtain ⟨resJ14, hf0, hkJ14⟩ := q_l1 hf
      have J14 : ∀ (v15 : Int), some v15 = some resJ14 → bz_J K 16 169 [(9, bz_l l9), (2, bz_i a2), (3, bz_i a3), (5, bz_rf E 48), (6, bz_rf E 49)] [bz_i v15, bz_l l11, bz_l 10000000] M := by
        intro v15 he
        have hf := hkJ14 _ he
        refine j_i2l X rfl dUC_makePrice_169 ?_
        refine j_lmul X dUC_makePrice_170 ?_
        refine j_ldc2 X (v := 10000) wd_865 dUC_makePrice_171 ?_
        refine j_ldl X (w64_lit rfl) (by decide) dUC_makePrice_174 ?_
        refine j_cs X (st := []) (cJM_min1 E) gyJM_min1 wd_834 rfl (by decide) (by decide) wd_833 rfl (Nat.le_of_ble_eq_true rfl) dUC_makePrice_175 ?_
        refine j_lt (g := bz_l) hf (fun l11 hf => ?_)
        refine j_lstore X (lv' := [(11, bz_l l11), (9, bz_l l9), (2, bz_i a2), (3, bz_i a3), (5, bz_rf E 48), (6, bz_rf E 49)]) dUC_makePrice_178 (by decide) rfl ?_
        exact J12 _ hf
      clear hf
      have hf := hf0
      clear hf0
      refine j_lcmp_ge X (tgt := 163) rfl (w64_lit rfl) dUC_makePrice_150 dUC_makePrice_151 (by decide) hf (fun hf => ?_) (fun hf => ?_)
      · refine j_sipush X dUC_makePrice_163 rfl ?_
        refine j_iload X dUC_makePrice_166 0 rfl ?_
        refine j_iadd X dUC_makePrice_168 ?_
        exact j_sub [3, 6, 7, 8, 9] rfl (J14 _ hf)
      · refine j_sipush X dUC_makePrice_154 rfl ?_
        refine j_iload X dUC_makePrice_157 0 rfl ?_
        refine j_isub X dUC_makePrice_159 ?_
        refine j_goto X (tgt := 169) dUC_makePrice_160 (by decide) ?_
        exact j_sub [3, 6, 7, 8, 9] rfl (J14 _ hf)
  clear hf
  have hf := hf0
  clear hf0
  refine j_if_le X (tgt := 68) rfl dUC_makePrice_45 (by decide) hf (fun hf => ?_) (fun hf => ?_)
  · refine j_ldc2 X (v := 10000) wd_865 dUC_makePrice_68 ?_
    exact j_sub [0, 2, 3, 4, 5, 7, 8] rfl (J5 _ hf)
  · refine j_lload X dUC_makePrice_48 1 rfl ?_
    refine j_lload X dUC_makePrice_50 0 rfl ?_
    refine j_lsub X dUC_makePrice_52 ?_
    refine j_ldc2 X (v := 100) wd_863 dUC_makePrice_53 ?_
    refine j_lmul X dUC_makePrice_56 ?_
    refine j_aload_n X dUC_makePrice_57 rfl 2 rfl ?_
    refine j_geta X gf_UC_31_53 dUC_makePrice_58 ?_
    show bz_J _ _ 61 _ _ _
    refine j_iload_n X dUC_makePrice_61 rfl 4 rfl ?_
    refine j_iald X sh_60 dUC_makePrice_62 hf (fun x7 hf => ?_)
    refine j_i2l X rfl dUC_makePrice_63 ?_
    refine j_ldiv X dUC_makePrice_64 hf (fun x8 hf => ?_)
    refine j_goto X (tgt := 71) dUC_makePrice_65 (by decide) ?_
    exact j_sub [0, 2, 3, 4, 5, 7, 8] rfl (J5 _ hf)
