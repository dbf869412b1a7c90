theorem gkUB_init : bz_Gy yUB_init prog_3_method_1_code 2 none 1 := ⟨bz_in 46 (by decide +kernel) rfl, bz_in 4 (by decide +kernel) rfl, ⟨by decide +kernel, by decide +kernel⟩, by decide +kernel⟩
theorem gkUTe_init : bz_Gy yUTe_init prog_10_method_1_code 2 none 1 := ⟨bz_in 40 (by decide +kernel) rfl, bz_in 3 (by decide +kernel) rfl, ⟨by decide +kernel, by decide +kernel⟩, by decide +kernel⟩
theorem gkUTr_init : bz_Gy yUTr_init prog_12_method_1_code 1 none 0 := ⟨bz_in 103 (by decide +kernel) rfl, bz_in 5 (by decide +kernel) rfl, ⟨by decide +kernel, by decide +kernel⟩, by decide +kernel⟩
theorem gkUD_init : bz_Gy yUD_init prog_6_method_1_code 1 none 0 := ⟨bz_in 139 (by decide +kernel) rfl, bz_in 6 (by decide +kernel) rfl, ⟨by decide +kernel, by decide +kernel⟩, by decide +kernel⟩
theorem gkUL_init : bz_Gy yUL_init prog_7_method_1_code 1 none 0 := ⟨bz_in 195 (by decide +kernel) rfl, bz_in 7 (by decide +kernel) rfl, ⟨by decide +kernel, by decide +kernel⟩, by decide +kernel⟩
theorem gkUS_init : bz_Gy yUS_init prog_9_method_1_code 1 none 0 := ⟨bz_in 34 (by decide +kernel) rfl, bz_in 2 (by decide +kernel) rfl, ⟨by decide +kernel, by decide +kernel⟩, by decide +kernel⟩
theorem gkUX_init : bz_Gy yUX_init prog_11_method_1_code 1 none 0 := ⟨bz_in 303 (by decide +kernel) rfl, bz_in 9 (by decide +kernel) rfl, ⟨by decide +kernel, by decide +kernel⟩, by decide +kernel⟩
theorem gkUC_init : bz_Gy yUC_init prog_5_method_1_code 1 none 0 := ⟨bz_in 336 (by decide +kernel) rfl, bz_in 10 (by decide +kernel) rfl, ⟨by decide +kernel, by decide +kernel⟩, by decide +kernel⟩
theorem gkUQ_init : bz_Gy yUQ_init prog_4_method_1_code 1 none 0 := ⟨bz_in 407 (by decide +kernel) rfl, bz_in 11 (by decide +kernel) rfl, ⟨by decide +kernel, by decide +kernel⟩, by decide +kernel⟩
theorem gkUG_init : bz_Gy yUG_init prog_8_method_1_code 1 none 0 := ⟨bz_in 432 (by decide +kernel) rfl, bz_in 12 (by decide +kernel) rfl, ⟨by decide +kernel, by decide +kernel⟩, by decide +kernel⟩
theorem gkUA_init : bz_Gy yUA_init prog_2_method_1_code 1 none 0 := ⟨bz_in 470 (by decide +kernel) rfl, bz_in 13 (by decide +kernel) rfl, ⟨by decide +kernel, by decide +kernel⟩, by decide +kernel⟩
theorem gkU_init : bz_Gy yU_init prog_1_method_1_code 1 none 0 := ⟨bz_in 26 (by decide +kernel) rfl, bz_in 1 (by decide +kernel) rfl, ⟨by decide +kernel, by decide +kernel⟩, by decide +kernel⟩
theorem wk_minit : (Jvm.Cond.code ({ cls := "UnitsWrongModel", name := "<init>", desc := "()V" } : Jvm.MethodName) prog_14_method_1_code (1 : Nat) (Option.none : Option Jvm.ClassFile.FieldType)) ∈ bz_T := List.mem_append_right _ (List.mem_filter.mpr ⟨List.mem_append_right _ (List.mem_append_right _ (List.mem_append_right _ (List.mem_append_right _ (List.mem_append_left _ (List.mem_of_getElem? (l := tables_1_5) (i := 192) rfl))))), rfl⟩)
theorem gkM_init : bz_Gy yM_init prog_14_method_1_code 1 none 0 := ⟨wk_minit, bz_in 14 (by decide +kernel) rfl, ⟨by decide +kernel, by decide +kernel⟩, by decide +kernel⟩
theorem n_geta {K : bz_K} {E : bz_E} {b0 nL pc fr lo mc ms ce sl : Nat} {cc : ByteArray} {own : String} {S : List bz_Sh} {M : bz_Mm} {lv : List (Nat × Value)} {st : List Value} (X : bn_X K E b0 cc nL own fr lo mc ms) {ci kf : Nat} {C : String} {T : u_T} {N i a t v : Nat} {fs : List (Nat × Nat)} (hin : ∀ w ∈ u_ws C T N, w ∈ bz_T) (hc9 : bz_cls[ci]? = some (C, T, N)) (hs9 : S[a]? = some (.inr (ci, fs))) (hk9 : kf < N) (hlk : Cond.fieldLink own i (T kf).1 (T kf).2.1 (T kf).2.2.1 ∈ bz_T) (hf : fs[kf]? = some (4, t)) (hv : E.2.1 t = v) (hd : decode cc pc = .ok (.getfield i, 3))
    (k : bn_J K b0 nL (pc + 3) ce sl lv (.ref v :: st) S M) : bn_J K b0 nL pc ce sl lv (.ref (b0 + a) :: st) S M := by
  obtain ⟨⟨l, ad, cA, D, A⟩, p, e, R, s, m, args, below, meth, c, Q⟩ := K
  obtain ⟨rfl, hx, hb, hml, hown, hts, hSf, rfl⟩ := X
  intro ls H locs hl hz hP hS
  refine va_get hx hb hts hin hown hSf.1 hP a (bn_get hs9) hc9 kf hk9 (hts _ hlk) (fun _ h => h) (v := .ref v) ?_ hd (k ls H locs hl hz hP hS)
  rw [List.getElem?_mapIdx, hf]
  have : ad t = v := hv
  simp [bn_val, bz_val, this]
