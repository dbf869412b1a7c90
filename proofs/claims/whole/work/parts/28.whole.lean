def wh_st (F : Nat) (Inv : Nat → bz_Mm → Prop) : Prop := wq_0 F Inv ∧ wq_1 F Inv ∧ wq_2 F Inv ∧ wq_3 F Inv ∧ wq_4 F Inv ∧ wq_5 F Inv ∧ wq_6 F Inv ∧ wq_7 F Inv ∧ wq_8 F Inv ∧ wq_9 F Inv ∧ wq_10 F Inv ∧ wq_11 F Inv ∧ wq_12 F Inv ∧ wq_13 F Inv ∧ wq_14 F Inv ∧ wq_15 F Inv ∧ wq_16 F Inv ∧ wq_17 F Inv ∧ wq_18 F Inv ∧ wq_19 F Inv ∧ wq_20 F Inv ∧ wq_21 F Inv ∧ wq_22 F Inv ∧ wq_23 F Inv ∧ wq_24 F Inv ∧ wq_25 F Inv ∧ wq_26 F Inv ∧ wq_27 F Inv ∧ wq_28 F Inv ∧ wq_29 F Inv ∧ wq_30 F Inv ∧ wq_31 F Inv ∧ wq_32 F Inv ∧ wq_33 F Inv ∧ wq_34 F Inv ∧ wq_35 F Inv ∧ wq_36 F Inv ∧ wq_37 F Inv ∧ wq_38 F Inv ∧ wq_39 F Inv ∧ ∀ (n : Nat) (M : bz_Mm), n < 512 → Inv n M → Inv (n + 1) M
theorem lj_and (x : Int32) : ∃ k : Nat, k < 64 ∧ (x &&& Int32.ofInt 63).toInt = (k : Int) := by
  have h1 : (x &&& Int32.ofInt 63).toBitVec.toNat < 64 := by
    rw [Int32.toBitVec_and, BitVec.toNat_and]
    exact Nat.lt_of_le_of_lt Nat.and_le_right (by decide)
  refine ⟨_, h1, ?_⟩
  show (x &&& Int32.ofInt 63).toBitVec.toInt = _
  rw [BitVec.toInt_eq_toNat_of_lt (by omega)]
theorem lj_sub {L : Nat} (h : L ≤ 3072) : (Int32.ofNat L - Int32.ofInt 6).toInt = (L : Int) - 6 := by
  have e1 : (Int32.ofNat L).toInt = (L : Int) := nI_toInt (n := L) (by omega)
  have e2 : (Int32.ofInt 6).toInt = 6 := by decide
  rw [Int32.toInt_sub, e1, e2, Int.bmod_eq_of_le] <;> omega
section LL
variable {K : bz_K} {E : bz_E} {b L : Nat} {xs : Nat → Int32} {i n : Nat} {M : bz_Mm} {F : Nat} {Inv : Nat → bz_Mm → Prop}
theorem lj_next (X : lj_X K E b L xs) (k : lj_J K 18 (lj_lv E b (6 * (n + 1))) [] M) : lj_J K 1548 (lj_lv E b (6 * n)) [] M := by
  obtain ⟨⟨l, ad, cA, D, A⟩, p, e, R, s, m, args, below, meth, c, Q⟩ := K
  obtain ⟨rfl, hx, hb, hml, hown, hts, hSf, rfl, hX, hbl, hbA, hL, y1, y2, y3, y4, y5⟩ := X
  intro ls H locs hl hP hS
  refine lv_iinc (v := nI (6 * (n + 1))) (lv' := lj_lv (l, ad, cA, D, A) b (6 * (n + 1))) hx hb dL_1548 hl (k := 0) rfl ?_ (by decide) rfl (fun ls hl => ?_)
  · have : Int32.ofInt 6 = nI 6 := by decide
    rw [this, nI_add]; rfl
  · exact lv_goto (tgt := 18) hx hb dL_1551 (by decide) (k ls H locs hl hP hS)
set_option maxHeartbeats 4000000 in
theorem lj_body (X : lj_X K E b L xs) (hw : wh_st F Inv) (hM : Inv n M) (kk : 6 * n + 6 ≤ L → ∀ M, Inv (n + 1) M → lj_J K 18 (lj_lv E b (6 * (n + 1))) [] M) (hn : 6 * n ≤ 4000) : lj_J K 18 (lj_lv E b (6 * n)) [] M := by
  have X0 := X
  obtain ⟨w0, w1, w2, w3, w4, w5, w6, w7, w8, w9, w10, w11, w12, w13, w14, w15, w16, w17, w18, w19, w20, w21, w22, w23, w24, w25, w26, w27, w28, w29, w30, w31, w32, w33, w34, w35, w36, w37, w38, w39, wd⟩ := hw
  obtain ⟨⟨l, ad, cA, D, A⟩, p, e, R, s, m, args, below, meth, c, Q⟩ := K
  obtain ⟨rfl, hx, hb, hml, hown, hts, hSf, rfl, hX, hbl, hbA, hL, y1, y2, y3, y4, y5⟩ := X
  intro ls H locs hl hP hS
  refine lv_iload_n hx hb dL_18 rfl (lv_at hl 0 rfl) ?_
  refine lv_aload_n hx hb dL_19 rfl (lv_at hl 3 rfl) ?_
  refine va_slen hx hb hX hbl hbA hS dL_20 ?_
  refine lv_bipush (v := Int32.ofInt 6) hx hb dL_21 (by decide) ?_
  refine lv_isub hx hb dL_23 ?_
  refine lv_icmp_gt (tgt := 1554) hx hb dL_24 (by decide) (fun hc => ?_) (fun hc => ?_)
  · refine lv_iconst (v := 1) hx hb dL_1554 (by decide) ?_
    subst y3; subst y4; subst y5
    refine va_forget (fun q hq => hS.2.2 q hq) ?_
    exact lw_ret hx hb y1 y2 dL_1555
  · have hle : 6 * n + 6 ≤ L := by
      rw [Int32.lt_iff_toInt_lt, lj_sub hL, nI_toInt (by omega)] at hc
      omega
    have hn5 : n < 512 := by omega
    have kk2 : ∀ M, Inv (n + 1) M → lj_J ((l, ad, cA, D, A), p, e, _, s, m, args, below, meth, c, Q) 1548 (lj_lv (l, ad, cA, D, A) b (6 * n)) [] M := fun M hI => lj_next X0 (kk hle M hI)
    refine lv_aload_n hx hb dL_27 rfl (lv_at hl 3 rfl) ?_
    refine lv_iload_n hx hb dL_28 rfl (lv_at hl 0 rfl) ?_
    refine va_sld hx hb hX hbl hbA hS (nI_in (by omega) (by omega)) dL_29 ?_
    rw [nI_clamp (by omega)]
    refine lv_bipush (v := Int32.ofInt 63) hx hb dL_30 (by decide) ?_
    refine lv_iand hx hb dL_32 ?_
    obtain ⟨k, hk, hv⟩ := lj_and (xs (6 * n))
    by_cases h40 : k < 40
    · match k, h40, hv with
      | 0, _, hv => exact lv_tableIn (off := 175) (tgt := 208) hx hb dL_33 (by rw [hv]; decide) (by rw [hv]; decide) (by rw [hv]; rfl) (by decide) (lo_0 X0 hle hn5 w0 hM kk2 ls H locs hl hP hS)
      | 1, _, hv => exact lv_tableIn (off := 208) (tgt := 241) hx hb dL_33 (by rw [hv]; decide) (by rw [hv]; decide) (by rw [hv]; rfl) (by decide) (lo_1 X0 hle hn5 w1 hM kk2 ls H locs hl hP hS)
      | 2, _, hv => exact lv_tableIn (off := 231) (tgt := 264) hx hb dL_33 (by rw [hv]; decide) (by rw [hv]; decide) (by rw [hv]; rfl) (by decide) (lo_2 X0 hle hn5 w2 hM kk2 ls H locs hl hP hS)
      | 3, _, hv => exact lv_tableIn (off := 254) (tgt := 287) hx hb dL_33 (by rw [hv]; decide) (by rw [hv]; decide) (by rw [hv]; rfl) (by decide) (lo_3 X0 hle hn5 w3 hM kk2 ls H locs hl hP hS)
      | 4, _, hv => exact lv_tableIn (off := 277) (tgt := 310) hx hb dL_33 (by rw [hv]; decide) (by rw [hv]; decide) (by rw [hv]; rfl) (by decide) (lo_4 X0 hle hn5 w4 hM kk2 ls H locs hl hP hS)
      | 5, _, hv => exact lv_tableIn (off := 300) (tgt := 333) hx hb dL_33 (by rw [hv]; decide) (by rw [hv]; decide) (by rw [hv]; rfl) (by decide) (lo_5 X0 hle hn5 w5 hM kk2 ls H locs hl hP hS)
      | 6, _, hv => exact lv_tableIn (off := 353) (tgt := 386) hx hb dL_33 (by rw [hv]; decide) (by rw [hv]; decide) (by rw [hv]; rfl) (by decide) (lo_6 X0 hle hn5 w6 hM kk2 ls H locs hl hP hS)
      | 7, _, hv => exact lv_tableIn (off := 406) (tgt := 439) hx hb dL_33 (by rw [hv]; decide) (by rw [hv]; decide) (by rw [hv]; rfl) (by decide) (lo_7 X0 hle hn5 w7 hM kk2 ls H locs hl hP hS)
      | 8, _, hv => exact lv_tableIn (off := 459) (tgt := 492) hx hb dL_33 (by rw [hv]; decide) (by rw [hv]; decide) (by rw [hv]; rfl) (by decide) (lo_8 X0 hle hn5 w8 hM kk2 ls H locs hl hP hS)
      | 9, _, hv => exact lv_tableIn (off := 522) (tgt := 555) hx hb dL_33 (by rw [hv]; decide) (by rw [hv]; decide) (by rw [hv]; rfl) (by decide) (lo_9 X0 hle hn5 w9 hM kk2 ls H locs hl hP hS)
      | 10, _, hv => exact lv_tableIn (off := 575) (tgt := 608) hx hb dL_33 (by rw [hv]; decide) (by rw [hv]; decide) (by rw [hv]; rfl) (by decide) (lo_10 X0 hle hn5 w10 hM kk2 ls H locs hl hP hS)
      | 11, _, hv => exact lv_tableIn (off := 638) (tgt := 671) hx hb dL_33 (by rw [hv]; decide) (by rw [hv]; decide) (by rw [hv]; rfl) (by decide) (lo_11 X0 hle hn5 w11 hM kk2 ls H locs hl hP hS)
      | 12, _, hv => exact lv_tableIn (off := 661) (tgt := 694) hx hb dL_33 (by rw [hv]; decide) (by rw [hv]; decide) (by rw [hv]; rfl) (by decide) (lo_12 X0 hle hn5 w12 hM kk2 ls H locs hl hP hS)
      | 13, _, hv => exact lv_tableIn (off := 674) (tgt := 707) hx hb dL_33 (by rw [hv]; decide) (by rw [hv]; decide) (by rw [hv]; rfl) (by decide) (lo_13 X0 hle hn5 w13 hM kk2 ls H locs hl hP hS)
      | 14, _, hv => exact lv_tableIn (off := 687) (tgt := 720) hx hb dL_33 (by rw [hv]; decide) (by rw [hv]; decide) (by rw [hv]; rfl) (by decide) (lo_14 X0 hle hn5 w14 hM kk2 ls H locs hl hP hS)
      | 15, _, hv => exact lv_tableIn (off := 730) (tgt := 763) hx hb dL_33 (by rw [hv]; decide) (by rw [hv]; decide) (by rw [hv]; rfl) (by decide) (lo_15 X0 hle hn5 w15 hM kk2 ls H locs hl hP hS)
      | 16, _, hv => exact lv_tableIn (off := 753) (tgt := 786) hx hb dL_33 (by rw [hv]; decide) (by rw [hv]; decide) (by rw [hv]; rfl) (by decide) (lo_16 X0 hle hn5 w16 hM kk2 ls H locs hl hP hS)
      | 17, _, hv => exact lv_tableIn (off := 786) (tgt := 819) hx hb dL_33 (by rw [hv]; decide) (by rw [hv]; decide) (by rw [hv]; rfl) (by decide) (lo_17 X0 hle hn5 w17 hM kk2 ls H locs hl hP hS)
      | 18, _, hv => exact lv_tableIn (off := 829) (tgt := 862) hx hb dL_33 (by rw [hv]; decide) (by rw [hv]; decide) (by rw [hv]; rfl) (by decide) (lo_18 X0 hle hn5 w18 hM kk2 ls H locs hl hP hS)
      | 19, _, hv => exact lv_tableIn (off := 872) (tgt := 905) hx hb dL_33 (by rw [hv]; decide) (by rw [hv]; decide) (by rw [hv]; rfl) (by decide) (lo_19 X0 hle hn5 w19 hM kk2 ls H locs hl hP hS)
      | 20, _, hv => exact lv_tableIn (off := 915) (tgt := 948) hx hb dL_33 (by rw [hv]; decide) (by rw [hv]; decide) (by rw [hv]; rfl) (by decide) (lo_20 X0 hle hn5 w20 hM kk2 ls H locs hl hP hS)
      | 21, _, hv => exact lv_tableIn (off := 938) (tgt := 971) hx hb dL_33 (by rw [hv]; decide) (by rw [hv]; decide) (by rw [hv]; rfl) (by decide) (lo_21 X0 hle hn5 w21 hM kk2 ls H locs hl hP hS)
      | 22, _, hv => exact lv_tableIn (off := 971) (tgt := 1004) hx hb dL_33 (by rw [hv]; decide) (by rw [hv]; decide) (by rw [hv]; rfl) (by decide) (lo_22 X0 hle hn5 w22 hM kk2 ls H locs hl hP hS)
      | 23, _, hv => exact lv_tableIn (off := 1024) (tgt := 1057) hx hb dL_33 (by rw [hv]; decide) (by rw [hv]; decide) (by rw [hv]; rfl) (by decide) (lo_23 X0 hle hn5 w23 hM kk2 ls H locs hl hP hS)
      | 24, _, hv => exact lv_tableIn (off := 1057) (tgt := 1090) hx hb dL_33 (by rw [hv]; decide) (by rw [hv]; decide) (by rw [hv]; rfl) (by decide) (lo_24 X0 hle hn5 w24 hM kk2 ls H locs hl hP hS)
      | 25, _, hv => exact lv_tableIn (off := 1090) (tgt := 1123) hx hb dL_33 (by rw [hv]; decide) (by rw [hv]; decide) (by rw [hv]; rfl) (by decide) (lo_25 X0 hle hn5 w25 hM kk2 ls H locs hl hP hS)
      | 26, _, hv => exact lv_tableIn (off := 1123) (tgt := 1156) hx hb dL_33 (by rw [hv]; decide) (by rw [hv]; decide) (by rw [hv]; rfl) (by decide) (lo_26 X0 hle hn5 w26 hM kk2 ls H locs hl hP hS)
      | 27, _, hv => exact lv_tableIn (off := 1146) (tgt := 1179) hx hb dL_33 (by rw [hv]; decide) (by rw [hv]; decide) (by rw [hv]; rfl) (by decide) (lo_27 X0 hle hn5 w27 hM kk2 ls H locs hl hP hS)
      | 28, _, hv => exact lv_tableIn (off := 1169) (tgt := 1202) hx hb dL_33 (by rw [hv]; decide) (by rw [hv]; decide) (by rw [hv]; rfl) (by decide) (lo_28 X0 hle hn5 w28 hM kk2 ls H locs hl hP hS)
      | 29, _, hv => exact lv_tableIn (off := 1192) (tgt := 1225) hx hb dL_33 (by rw [hv]; decide) (by rw [hv]; decide) (by rw [hv]; rfl) (by decide) (lo_29 X0 hle hn5 w29 hM kk2 ls H locs hl hP hS)
      | 30, _, hv => exact lv_tableIn (off := 1235) (tgt := 1268) hx hb dL_33 (by rw [hv]; decide) (by rw [hv]; decide) (by rw [hv]; rfl) (by decide) (lo_30 X0 hle hn5 w30 hM kk2 ls H locs hl hP hS)
      | 31, _, hv => exact lv_tableIn (off := 1288) (tgt := 1321) hx hb dL_33 (by rw [hv]; decide) (by rw [hv]; decide) (by rw [hv]; rfl) (by decide) (lo_31 X0 hle hn5 w31 hM kk2 ls H locs hl hP hS)
      | 32, _, hv => exact lv_tableIn (off := 1301) (tgt := 1334) hx hb dL_33 (by rw [hv]; decide) (by rw [hv]; decide) (by rw [hv]; rfl) (by decide) (lo_32 X0 hle hn5 w32 hM kk2 ls H locs hl hP hS)
      | 33, _, hv => exact lv_tableIn (off := 1314) (tgt := 1347) hx hb dL_33 (by rw [hv]; decide) (by rw [hv]; decide) (by rw [hv]; rfl) (by decide) (lo_33 X0 hle hn5 w33 hM kk2 ls H locs hl hP hS)
      | 34, _, hv => exact lv_tableIn (off := 1327) (tgt := 1360) hx hb dL_33 (by rw [hv]; decide) (by rw [hv]; decide) (by rw [hv]; rfl) (by decide) (lo_34 X0 hle hn5 w34 hM kk2 ls H locs hl hP hS)
      | 35, _, hv => exact lv_tableIn (off := 1360) (tgt := 1393) hx hb dL_33 (by rw [hv]; decide) (by rw [hv]; decide) (by rw [hv]; rfl) (by decide) (lo_35 X0 hle hn5 w35 hM kk2 ls H locs hl hP hS)
      | 36, _, hv => exact lv_tableIn (off := 1393) (tgt := 1426) hx hb dL_33 (by rw [hv]; decide) (by rw [hv]; decide) (by rw [hv]; rfl) (by decide) (lo_36 X0 hle hn5 w36 hM kk2 ls H locs hl hP hS)
      | 37, _, hv => exact lv_tableIn (off := 1426) (tgt := 1459) hx hb dL_33 (by rw [hv]; decide) (by rw [hv]; decide) (by rw [hv]; rfl) (by decide) (lo_37 X0 hle hn5 w37 hM kk2 ls H locs hl hP hS)
      | 38, _, hv => exact lv_tableIn (off := 1449) (tgt := 1482) hx hb dL_33 (by rw [hv]; decide) (by rw [hv]; decide) (by rw [hv]; rfl) (by decide) (lo_38 X0 hle hn5 w38 hM kk2 ls H locs hl hP hS)
      | 39, _, hv => exact lv_tableIn (off := 1492) (tgt := 1525) hx hb dL_33 (by rw [hv]; decide) (by rw [hv]; decide) (by rw [hv]; rfl) (by decide) (lo_39 X0 hle hn5 w39 hM kk2 ls H locs hl hP hS)
      | k + 40, h40, _ => exact absurd h40 (by omega)
    · exact lv_tableOut (tgt := 1548) hx hb dL_33 (Or.inr (by rw [hv]; omega)) (by decide) (kk2 M (wd n M hn5 hM) ls H locs hl hP hS)
theorem lj_loop (X : lj_X K E b L xs) (hw : wh_st F Inv) : ∀ (r n : Nat) (M : bz_Mm), L ≤ 6 * n + 6 * r → 6 * n ≤ L + 6 → Inv n M → lj_J K 18 (lj_lv E b (6 * n)) [] M := by
  have hL : L ≤ 3072 := by
    obtain ⟨⟨l, ad, cA, D, A⟩, p, e, R, s, m, args, below, meth, c, Q⟩ := K
    exact X.2.2.2.2.2.2.2.2.2.2.2.1
  intro r
  induction r with
  | zero => intro n M h1 h2 hM; exact lj_body X hw hM (fun h => absurd h (by omega)) (by omega)
  | succ r ih => intro n M h1 h2 hM; exact lj_body X hw hM (fun h M hI => ih (n + 1) M (by omega) (by omega) hI) (by omega)
end LL
section BW
variable {K : bz_K} {E : bz_E} {b0 nL pc fr lo mc ms ce sl : Nat} {cc : ByteArray} {own : String} {S : List bz_Sh} {M : bz_Mm} {lv lv' : List (Nat × Value)} {st : List Value}
theorem n_astoreL (X : bn_X K E b0 cc nL own fr lo mc ms) {q : Fin 4} {i x : Nat} (hd : decode cc pc = .ok (.astore_n q, 1)) (hi : (q : Nat) = i) (hn : i < nL) (hl' : (i, Value.ref x) :: lv.filter (fun q => !(q.1 == i) && !(q.1 + 1 == i && q.2.category == 2)) = lv') (k : bn_J K b0 nL (pc + 1) ce sl lv' st S M) : bn_J K b0 nL pc ce sl lv (.ref x :: st) S M := by
  obtain ⟨⟨l, ad, cA, D, A⟩, p, e, R, s, m, args, below, meth, c, Q⟩ := K
  obtain ⟨rfl, hx, hb, hml, hown, hts, hSf, rfl⟩ := X
  intro ls H locs hl hz hP hS
  exact lv_astore_n hx hb hd hi hl hn hl' (fun ls hl => k ls H locs hl hz hP hS)
theorem n_istoreL (X : bn_X K E b0 cc nL own fr lo mc ms) {q : Fin 4} {i : Nat} {x : Int32} (hd : decode cc pc = .ok (.istore_n q, 1)) (hi : (q : Nat) = i) (hn : i < nL) (hl' : (i, Value.int x) :: lv.filter (fun q => !(q.1 == i) && !(q.1 + 1 == i && q.2.category == 2)) = lv') (k : bn_J K b0 nL (pc + 1) ce sl lv' st S M) : bn_J K b0 nL pc ce sl lv (.int x :: st) S M := by
  obtain ⟨⟨l, ad, cA, D, A⟩, p, e, R, s, m, args, below, meth, c, Q⟩ := K
  obtain ⟨rfl, hx, hb, hml, hown, hts, hSf, rfl⟩ := X
  intro ls H locs hl hz hP hS
  exact lv_istore_n hx hb hd hi hl hn hl' (fun ls hl => k ls H locs hl hz hP hS)
end BW
def bn_no5 : bz_Sh → Bool
  | .inl _ => true
  | .inr (_, fs) => fs.all (fun kt => kt.1 != 5)
theorem st_no5 : ∀ sh ∈ bz_shl, bn_no5 sh = true := by decide +kernel
def sh_eq : bz_Sh → bz_Sh → Bool
  | .inl a, .inl b => a.1 == b.1 && a.2.1 == b.2.1 && a.2.2 == b.2.2
  | .inr a, .inr b => a.1 == b.1 && a.2 == b.2
  | _, _ => false
theorem sh_eq_t {a b : bz_Sh} (h : sh_eq a b = true) : a = b := by
  obtain ⟨e, n, q⟩ | ⟨ci, fs⟩ := a <;> obtain ⟨e2, n2, q2⟩ | ⟨ci2, fs2⟩ := b <;> simp [sh_eq] at h ⊢
  · exact ⟨h.1.1, h.1.2, h.2⟩
  · exact h
def sh_o : Option bz_Sh → Option bz_Sh → Bool
  | some a, some b => sh_eq a b
  | _, _ => false
theorem st_sb : ∀ k, k < 235 → sh_o (nS_282[bn_pos k]?) (bz_shl[k]?) = true := by decide +kernel
theorem st_sh (k : Nat) (hk : k < 235) : nS_282[bn_pos k]? = bz_shl[k]? := by
  have h := st_sb k hk
  cases h1 : nS_282[bn_pos k]? with
  | none => rw [h1] at h; cases h
  | some a =>
    cases h2 : bz_shl[k]? with
    | none => rw [h1, h2] at h; cases h
    | some b => rw [h1, h2] at h; rw [sh_eq_t h]
theorem st_ip : ∀ k, k < 235 → bn_id (bn_pos k) = k := by decide +kernel
theorem bn_same {ad : Nat → Nat} {cA : Nat → ClassId} {sh : bz_Sh} {m : Nat → Int} (h : bn_no5 sh = true) : bn_ent ad cA sh m = bz_ent ad cA sh m := by
  obtain ⟨e, n, b⟩ | ⟨ci, fs⟩ := sh
  · rfl
  · show Sum.inr (ci, _) = Sum.inr (ci, _)
    congr 2
    apply List.ext_getElem?
    intro j
    rw [List.getElem?_mapIdx, List.getElem?_mapIdx]
    cases hj : fs[j]? with
    | none => rfl
    | some kt =>
      have h5 : kt.1 ≠ 5 := by
        have := List.all_eq_true.mp h kt (List.mem_of_getElem? hj)
        simpa using this
      simp [bn_val, h5]
theorem st_turn {ad : Nat → Nat} {cA : Nat → ClassId} {D : va_G} {b0 : Nat} {M : bz_Mm} {H : Heap} (hAd : ∀ i, i < 235 → ad i = b0 + bn_pos i) (hP : va_P D bz_cls (bn_ws ad cA b0 nS_282 M) H) : va_P D bz_cls (bz_ws ad cA M) H := by
  intro k q hq
  cases hs : bz_shl[k]? with
  | none =>
    unfold bz_ws at hq
    rw [List.getElem?_mapIdx, hs] at hq
    cases hq
  | some sh =>
    have hk : k < 235 := by have := (List.getElem?_eq_some_iff.mp hs).1; rw [st_len] at this; exact this
    have h2 := hP _ _ (bn_get ((st_sh k hk).trans hs))
    rw [st_ip k hk, ← hAd k hk, bn_same (st_no5 sh (List.mem_of_getElem? hs))] at h2
    rw [bz_get hs] at hq
    rw [← Option.some.inj hq]
    exact h2
set_option maxHeartbeats 4000000 in
set_option maxRecDepth 100000 in
theorem whole_of {F : Nat} {Inv : Nat → bz_Mm → Prop} (hw : wh_st F Inv) (hI : Inv 0 mM_15) {p : Program} {e : Env} {s : State} {m : MethodId} {below : List Frame} {meth : Method} {c : Code} (l : Launch) {b L : Nat} {xs : Nat → Int32} (hL : L ≤ 3072) (C0 : lw_At p s m meth c b L xs) : W p l e room_1 s m #[Value.ref b] below meth c s.heap [] 0 0 (lw_Z below #[Value.ref b] s) (entryFrame m ([Value.ref b] : List Value).toArray 4) := by
  obtain ⟨hx, hb, hr, hml, hown, hts, hX, hbl, hlocks, hgv⟩ := C0
  obtain ⟨ad, cA, D, hn, hz, hAd⟩ := st_all hts hgv
  have hl := lv_entry ([.ref b]) (n := 4) (Nat.le_of_ble_eq_true rfl)
  rw [lg_entry_eq]
  generalize (lg_sl ([.ref b]) ++ List.replicate (4 - (lg_sl ([.ref b])).length) Slot.unset).toArray = ls at hl ⊢
  have hl : lv_has ls 4 [(0, .ref b)] := hl
  have X : bn_X ((l, ad, cA, D, fun q => s.heap.size ≤ q), p, e, room_1, s, m, #[Value.ref b], below, meth, c, lw_Z below #[Value.ref b] s) (l, ad, cA, D, fun q => s.heap.size ≤ q) s.heap.size code 4 "UnitsWrongLaw" 14 568 600000 7302250 := ⟨rfl, hx, hb, hml, hown, st_T hts, hn, rfl⟩
  have Z : lj_X ((l, ad, cA, D, fun q => s.heap.size ≤ q), p, e, room_1, s, m, #[Value.ref b], below, meth, c, lw_Z below #[Value.ref b] s) (l, ad, cA, D, fun q => s.heap.size ≤ q) b L xs := ⟨rfl, hx, hb, hml, hown, st_T hts, hz, rfl, hX, hbl, Nat.not_le.mpr hbl, hL, hr, hlocks, rfl, rfl, rfl⟩
  have hj := lj_loop Z hw (L + 1) 0 mM_15 (by omega) (by omega) hI
  generalize hK : ((l, ad, cA, D, fun q => s.heap.size ≤ q), p, e, room_1, s, m, #[Value.ref b], below, meth, c, lw_Z below #[Value.ref b] s) = K at X Z hj
  have main : bn_J K s.heap.size 4 0 0 0 [(0, .ref b)] [] nS_0 mM_0 := by
    refine n_newO X (ci := 11) (fs := [(5, 0), (5, 0), (5, 0), (5, 0), (5, 0), (5, 0)]) (L := 0) (by decide +kernel) ri_11 ry_11 rk_11 (bz_in 22 (by decide +kernel) rfl) (bz_in 23 (by decide +kernel) rfl) (bz_in 1 (by decide +kernel) rfl) rfl (by decide +kernel) (fun _ => rfl) (by decide) (by decide) dL_0 ?_
    show bn_J K s.heap.size 4 3 1 6 [(0, .ref b)] [.ref (s.heap.size + 0)] nS_1 mM_0
    refine n_dup X dL_3 rfl ?_
    refine n_ci X (kU_init_0 _ s.heap.size hAd) gkU_init rfl (bz_in 25 (by decide +kernel) rfl) rfl (by decide) (by decide) (bz_in 24 (by decide +kernel) rfl) rfl (Nat.le_of_ble_eq_true rfl) (by decide) (by decide) dL_4 ?_
    show bn_J K s.heap.size 4 7 81 12816 [(0, .ref b)] [.ref (s.heap.size + 0)] nS_161 mM_3
    refine n_astoreL (lv' := [(1, .ref (s.heap.size + 0)), (0, .ref b)]) X dL_7 rfl (by decide) rfl ?_
    refine n_newO X (ci := 12) (fs := [(0, 0), (5, 0), (0, 0), (5, 0), (5, 0), (5, 0), (5, 0), (5, 0), (5, 0), (5, 0), (5, 0), (5, 0), (0, 0), (0, 0), (5, 0), (5, 0), (5, 0), (5, 0), (5, 0), (0, 0), (0, 0), (5, 0), (5, 0), (5, 0), (5, 0), (5, 0), (5, 0), (0, 0), (5, 0), (5, 0), (5, 0), (5, 0), (5, 0), (5, 0), (5, 0), (0, 0), (5, 0), (0, 0), (0, 0), (0, 0), (0, 0), (5, 0), (5, 0), (0, 0), (5, 0), (5, 0), (5, 0), (5, 0), (5, 0), (5, 0), (5, 0), (5, 0), (5, 0), (5, 0), (5, 0), (5, 0), (5, 0), (5, 0), (5, 0), (5, 0), (5, 0), (0, 0), (5, 0), (5, 0), (5, 0), (5, 0), (5, 0), (5, 0), (5, 0), (0, 0), (0, 0), (0, 0), (5, 0), (5, 0), (0, 0), (5, 0), (5, 0), (5, 0), (0, 0)]) (L := 81) (by decide +kernel) ri_12 ry_12 rk_12 (bz_in 1148 (by decide +kernel) rfl) (bz_in 1149 (by decide +kernel) rfl) (bz_in 14 (by decide +kernel) rfl) rfl (by decide +kernel) (fun _ => rfl) (by decide) (by decide) dL_8 ?_
    show bn_J K s.heap.size 4 11 82 12895 [(1, .ref (s.heap.size + 0)), (0, .ref b)] [.ref (s.heap.size + 81)] nS_162 mM_3
    refine n_dup X dL_11 rfl ?_
    refine n_ci X (kM_init_81 _ s.heap.size hAd) gkM_init rfl (bz_in 1151 (by decide +kernel) rfl) rfl (by decide) (by decide) (bz_in 1150 (by decide +kernel) rfl) rfl (Nat.le_of_ble_eq_true rfl) (by decide) (by decide) dL_12 ?_
    show bn_J K s.heap.size 4 15 235 32494 [(1, .ref (s.heap.size + 0)), (0, .ref b)] [.ref (s.heap.size + 81)] nS_282 mM_15
    refine n_astoreL (lv' := [(2, .ref (s.heap.size + 81)), (1, .ref (s.heap.size + 0)), (0, .ref b)]) X dL_15 rfl (by decide) rfl ?_
    refine n_iconst X dL_16 ?_
    refine n_istoreL (lv' := [(3, .int (nI (6 * 0))), (2, .ref (s.heap.size + 81)), (1, .ref (s.heap.size + 0)), (0, .ref b)]) X dL_17 rfl (by decide) rfl ?_
    subst hK
    intro ls H locs hl hz1 hP hS
    refine W.widen (k := 600000) (n := 7302250) (by decide) (by decide) ?_
    refine hj ls H locs ?_ (st_turn hAd hP) hS
    have e0 : ad 0 = s.heap.size + 0 := hAd 0 (by decide)
    have e1 : ad 81 = s.heap.size + 81 := hAd 81 (by decide)
    show lv_has ls 4 [(3, .int (nI (6 * 0))), (2, .ref (ad 81)), (1, .ref (ad 0)), (0, .ref b)]
    rw [e0, e1]
    exact hl
  subst hK
  exact main ls s.heap [] hl rfl (fun k q h => by cases h) va_S.rf
