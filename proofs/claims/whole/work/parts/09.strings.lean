def yJS_coder : MethodName := ⟨"java/lang/String", "coder", "()B"⟩
def yJS_length : MethodName := ⟨"java/lang/String", "length", "()I"⟩
def yJS_isLatin1 : MethodName := ⟨"java/lang/String", "isLatin1", "()Z"⟩
def yJS_charAt : MethodName := ⟨"java/lang/String", "charAt", "(I)C"⟩
def yJS_checkIndex : MethodName := ⟨"java/lang/String", "checkIndex", "(II)V"⟩
def yJL_charAt : MethodName := ⟨"java/lang/StringLatin1", "charAt", "([BI)C"⟩
def yJP_checkIndex : MethodName := ⟨"jdk/internal/util/Preconditions", "checkIndex", "(IILjava/util/function/BiFunction;)I"⟩
theorem dJS_coder_0 : decode prog_17_method_152_code 0 = .ok (.getstatic 38, 3) := by decide +kernel
theorem dJS_coder_3 : decode prog_17_method_152_code 3 = .ok (.ifCond .eq 10, 3) := by decide +kernel
theorem dJS_coder_6 : decode prog_17_method_152_code 6 = .ok (.aload_n 0, 1) := by decide +kernel
theorem dJS_coder_7 : decode prog_17_method_152_code 7 = .ok (.getfield 15, 3) := by decide +kernel
theorem dJS_coder_10 : decode prog_17_method_152_code 10 = .ok (.goto 4, 3) := by decide +kernel
theorem dJS_coder_13 : decode prog_17_method_152_code 13 = .ok (.iconst 1, 1) := by decide +kernel
theorem dJS_coder_14 : decode prog_17_method_152_code 14 = .ok (.ireturn, 1) := by decide +kernel
theorem dJS_length_0 : decode prog_17_method_54_code 0 = .ok (.aload_n 0, 1) := by decide +kernel
theorem dJS_length_1 : decode prog_17_method_54_code 1 = .ok (.getfield 9, 3) := by decide +kernel
theorem dJS_length_4 : decode prog_17_method_54_code 4 = .ok (.arraylength, 1) := by decide +kernel
theorem dJS_length_5 : decode prog_17_method_54_code 5 = .ok (.aload_n 0, 1) := by decide +kernel
theorem dJS_length_6 : decode prog_17_method_54_code 6 = .ok (.invokevirtual 335, 3) := by decide +kernel
theorem dJS_length_9 : decode prog_17_method_54_code 9 = .ok (.ishr, 1) := by decide +kernel
theorem dJS_length_10 : decode prog_17_method_54_code 10 = .ok (.ireturn, 1) := by decide +kernel
theorem dJS_isLatin1_0 : decode prog_17_method_154_code 0 = .ok (.getstatic 38, 3) := by decide +kernel
theorem dJS_isLatin1_3 : decode prog_17_method_154_code 3 = .ok (.ifCond .eq 14, 3) := by decide +kernel
theorem dJS_isLatin1_6 : decode prog_17_method_154_code 6 = .ok (.aload_n 0, 1) := by decide +kernel
theorem dJS_isLatin1_7 : decode prog_17_method_154_code 7 = .ok (.getfield 15, 3) := by decide +kernel
theorem dJS_isLatin1_10 : decode prog_17_method_154_code 10 = .ok (.ifCond .ne 7, 3) := by decide +kernel
theorem dJS_isLatin1_13 : decode prog_17_method_154_code 13 = .ok (.iconst 1, 1) := by decide +kernel
theorem dJS_isLatin1_14 : decode prog_17_method_154_code 14 = .ok (.goto 4, 3) := by decide +kernel
theorem dJS_isLatin1_17 : decode prog_17_method_154_code 17 = .ok (.iconst 0, 1) := by decide +kernel
theorem dJS_isLatin1_18 : decode prog_17_method_154_code 18 = .ok (.ireturn, 1) := by decide +kernel
theorem dJS_charAt_0 : decode prog_17_method_56_code 0 = .ok (.aload_n 0, 1) := by decide +kernel
theorem dJS_charAt_1 : decode prog_17_method_56_code 1 = .ok (.invokevirtual 492, 3) := by decide +kernel
theorem dJS_charAt_4 : decode prog_17_method_56_code 4 = .ok (.ifCond .eq 12, 3) := by decide +kernel
theorem dJS_charAt_7 : decode prog_17_method_56_code 7 = .ok (.aload_n 0, 1) := by decide +kernel
theorem dJS_charAt_8 : decode prog_17_method_56_code 8 = .ok (.getfield 9, 3) := by decide +kernel
theorem dJS_charAt_11 : decode prog_17_method_56_code 11 = .ok (.iload_n 1, 1) := by decide +kernel
theorem dJS_charAt_12 : decode prog_17_method_56_code 12 = .ok (.invokestatic 495, 3) := by decide +kernel
theorem dJS_charAt_15 : decode prog_17_method_56_code 15 = .ok (.ireturn, 1) := by decide +kernel
theorem dJS_charAt_16 : decode prog_17_method_56_code 16 = .ok (.aload_n 0, 1) := by decide +kernel
theorem dJS_charAt_17 : decode prog_17_method_56_code 17 = .ok (.getfield 9, 3) := by decide +kernel
theorem dJS_charAt_20 : decode prog_17_method_56_code 20 = .ok (.iload_n 1, 1) := by decide +kernel
theorem dJS_charAt_21 : decode prog_17_method_56_code 21 = .ok (.invokestatic 498, 3) := by decide +kernel
theorem dJS_charAt_24 : decode prog_17_method_56_code 24 = .ok (.ireturn, 1) := by decide +kernel
theorem dJS_checkIndex_0 : decode prog_17_method_155_code 0 = .ok (.iload_n 0, 1) := by decide +kernel
theorem dJS_checkIndex_1 : decode prog_17_method_155_code 1 = .ok (.iload_n 1, 1) := by decide +kernel
theorem dJS_checkIndex_2 : decode prog_17_method_155_code 2 = .ok (.getstatic 1053, 3) := by decide +kernel
theorem dJS_checkIndex_5 : decode prog_17_method_155_code 5 = .ok (.invokestatic 1059, 3) := by decide +kernel
theorem dJS_checkIndex_8 : decode prog_17_method_155_code 8 = .ok (.pop, 1) := by decide +kernel
theorem dJS_checkIndex_9 : decode prog_17_method_155_code 9 = .ok (.return_, 1) := by decide +kernel
theorem dJL_charAt_0 : decode prog_18_method_2_code 0 = .ok (.iload_n 1, 1) := by decide +kernel
theorem dJL_charAt_1 : decode prog_18_method_2_code 1 = .ok (.aload_n 0, 1) := by decide +kernel
theorem dJL_charAt_2 : decode prog_18_method_2_code 2 = .ok (.arraylength, 1) := by decide +kernel
theorem dJL_charAt_3 : decode prog_18_method_2_code 3 = .ok (.invokestatic 9, 3) := by decide +kernel
theorem dJL_charAt_6 : decode prog_18_method_2_code 6 = .ok (.aload_n 0, 1) := by decide +kernel
theorem dJL_charAt_7 : decode prog_18_method_2_code 7 = .ok (.iload_n 1, 1) := by decide +kernel
theorem dJL_charAt_8 : decode prog_18_method_2_code 8 = .ok (.baload, 1) := by decide +kernel
theorem dJL_charAt_9 : decode prog_18_method_2_code 9 = .ok (.sipush 255, 3) := by decide +kernel
theorem dJL_charAt_12 : decode prog_18_method_2_code 12 = .ok (.iand, 1) := by decide +kernel
theorem dJL_charAt_13 : decode prog_18_method_2_code 13 = .ok (.i2c, 1) := by decide +kernel
theorem dJL_charAt_14 : decode prog_18_method_2_code 14 = .ok (.ireturn, 1) := by decide +kernel
theorem dJP_checkIndex_0 : decode prog_22_method_11_code 0 = .ok (.iload_n 0, 1) := by decide +kernel
theorem dJP_checkIndex_1 : decode prog_22_method_11_code 1 = .ok (.ifCond .lt 8, 3) := by decide +kernel
theorem dJP_checkIndex_4 : decode prog_22_method_11_code 4 = .ok (.iload_n 0, 1) := by decide +kernel
theorem dJP_checkIndex_5 : decode prog_22_method_11_code 5 = .ok (.iload_n 1, 1) := by decide +kernel
theorem dJP_checkIndex_6 : decode prog_22_method_11_code 6 = .ok (.if_icmp .lt 10, 3) := by decide +kernel
theorem dJP_checkIndex_9 : decode prog_22_method_11_code 9 = .ok (.aload_n 2, 1) := by decide +kernel
theorem dJP_checkIndex_10 : decode prog_22_method_11_code 10 = .ok (.iload_n 0, 1) := by decide +kernel
theorem dJP_checkIndex_11 : decode prog_22_method_11_code 11 = .ok (.iload_n 1, 1) := by decide +kernel
theorem dJP_checkIndex_12 : decode prog_22_method_11_code 12 = .ok (.invokestatic 95, 3) := by decide +kernel
theorem dJP_checkIndex_15 : decode prog_22_method_11_code 15 = .ok (.athrow, 1) := by decide +kernel
theorem dJP_checkIndex_16 : decode prog_22_method_11_code 16 = .ok (.iload_n 0, 1) := by decide +kernel
theorem dJP_checkIndex_17 : decode prog_22_method_11_code 17 = .ok (.ireturn, 1) := by decide +kernel
theorem ws_16 : (Jvm.Cond.initialized "java/lang/String") ∈ bz_T := bz_in 16 (by decide +kernel) rfl
theorem ws_17 : (Jvm.Cond.initialized "java/lang/StringLatin1") ∈ bz_T := bz_in 17 (by decide +kernel) rfl
theorem ws_18 : (Jvm.Cond.initialized "jdk/internal/util/Preconditions") ∈ bz_T := bz_in 18 (by decide +kernel) rfl
theorem ws_673 : (Jvm.Cond.instanceMethod ({ cls := "java/lang/String", name := "length", desc := "()I" } : Jvm.MethodName)) ∈ bz_T := bz_in 673 (by decide +kernel) rfl
theorem ws_674 : (Jvm.Cond.selects "java/lang/String" ({ cls := "java/lang/String", name := "length", desc := "()I" } : Jvm.MethodName) ({ cls := "java/lang/String", name := "length", desc := "()I" } : Jvm.MethodName)) ∈ bz_T := bz_in 674 (by decide +kernel) rfl
theorem ws_675 : (Jvm.Cond.code ({ cls := "java/lang/String", name := "length", desc := "()I" } : Jvm.MethodName) prog_17_method_54_code (1 : Nat) (Option.some Jvm.ClassFile.FieldType.int)) ∈ bz_T := bz_in 675 (by decide +kernel) rfl
theorem ws_676 : (Jvm.Cond.methodLink "java/lang/String" (335 : Nat) ({ cls := "java/lang/String", name := "coder", desc := "()B" } : Jvm.MethodName)) ∈ bz_T := bz_in 676 (by decide +kernel) rfl
theorem ws_677 : (Jvm.Cond.instanceMethod ({ cls := "java/lang/String", name := "coder", desc := "()B" } : Jvm.MethodName)) ∈ bz_T := bz_in 677 (by decide +kernel) rfl
theorem ws_678 : (Jvm.Cond.selects "java/lang/String" ({ cls := "java/lang/String", name := "coder", desc := "()B" } : Jvm.MethodName) ({ cls := "java/lang/String", name := "coder", desc := "()B" } : Jvm.MethodName)) ∈ bz_T := bz_in 678 (by decide +kernel) rfl
theorem ws_679 : (Jvm.Cond.code ({ cls := "java/lang/String", name := "coder", desc := "()B" } : Jvm.MethodName) prog_17_method_152_code (1 : Nat) (Option.some Jvm.ClassFile.FieldType.byte)) ∈ bz_T := bz_in 679 (by decide +kernel) rfl
theorem ws_683 : (Jvm.Cond.instanceMethod ({ cls := "java/lang/String", name := "charAt", desc := "(I)C" } : Jvm.MethodName)) ∈ bz_T := bz_in 683 (by decide +kernel) rfl
theorem ws_684 : (Jvm.Cond.selects "java/lang/String" ({ cls := "java/lang/String", name := "charAt", desc := "(I)C" } : Jvm.MethodName) ({ cls := "java/lang/String", name := "charAt", desc := "(I)C" } : Jvm.MethodName)) ∈ bz_T := bz_in 684 (by decide +kernel) rfl
theorem ws_685 : (Jvm.Cond.code ({ cls := "java/lang/String", name := "charAt", desc := "(I)C" } : Jvm.MethodName) prog_17_method_56_code (2 : Nat) (Option.some Jvm.ClassFile.FieldType.char)) ∈ bz_T := bz_in 685 (by decide +kernel) rfl
theorem ws_686 : (Jvm.Cond.methodLink "java/lang/String" (492 : Nat) ({ cls := "java/lang/String", name := "isLatin1", desc := "()Z" } : Jvm.MethodName)) ∈ bz_T := bz_in 686 (by decide +kernel) rfl
theorem ws_687 : (Jvm.Cond.instanceMethod ({ cls := "java/lang/String", name := "isLatin1", desc := "()Z" } : Jvm.MethodName)) ∈ bz_T := bz_in 687 (by decide +kernel) rfl
theorem ws_688 : (Jvm.Cond.selects "java/lang/String" ({ cls := "java/lang/String", name := "isLatin1", desc := "()Z" } : Jvm.MethodName) ({ cls := "java/lang/String", name := "isLatin1", desc := "()Z" } : Jvm.MethodName)) ∈ bz_T := bz_in 688 (by decide +kernel) rfl
theorem ws_689 : (Jvm.Cond.code ({ cls := "java/lang/String", name := "isLatin1", desc := "()Z" } : Jvm.MethodName) prog_17_method_154_code (1 : Nat) (Option.some Jvm.ClassFile.FieldType.boolean)) ∈ bz_T := bz_in 689 (by decide +kernel) rfl
theorem ws_690 : (Jvm.Cond.methodLink "java/lang/String" (495 : Nat) ({ cls := "java/lang/StringLatin1", name := "charAt", desc := "([BI)C" } : Jvm.MethodName)) ∈ bz_T := bz_in 690 (by decide +kernel) rfl
theorem ws_691 : (Jvm.Cond.static ({ cls := "java/lang/StringLatin1", name := "charAt", desc := "([BI)C" } : Jvm.MethodName)) ∈ bz_T := bz_in 691 (by decide +kernel) rfl
theorem ws_692 : (Jvm.Cond.code ({ cls := "java/lang/StringLatin1", name := "charAt", desc := "([BI)C" } : Jvm.MethodName) prog_18_method_2_code (2 : Nat) (Option.some Jvm.ClassFile.FieldType.char)) ∈ bz_T := bz_in 692 (by decide +kernel) rfl
theorem ws_693 : (Jvm.Cond.methodLink "java/lang/StringLatin1" (9 : Nat) ({ cls := "java/lang/String", name := "checkIndex", desc := "(II)V" } : Jvm.MethodName)) ∈ bz_T := bz_in 693 (by decide +kernel) rfl
theorem ws_694 : (Jvm.Cond.static ({ cls := "java/lang/String", name := "checkIndex", desc := "(II)V" } : Jvm.MethodName)) ∈ bz_T := bz_in 694 (by decide +kernel) rfl
theorem ws_695 : (Jvm.Cond.code ({ cls := "java/lang/String", name := "checkIndex", desc := "(II)V" } : Jvm.MethodName) prog_17_method_155_code (2 : Nat) (Option.none : Option Jvm.ClassFile.FieldType)) ∈ bz_T := bz_in 695 (by decide +kernel) rfl
theorem ws_698 : (Jvm.Cond.methodLink "java/lang/String" (1059 : Nat) ({ cls := "jdk/internal/util/Preconditions", name := "checkIndex", desc := "(IILjava/util/function/BiFunction;)I" } : Jvm.MethodName)) ∈ bz_T := bz_in 698 (by decide +kernel) rfl
theorem ws_699 : (Jvm.Cond.static ({ cls := "jdk/internal/util/Preconditions", name := "checkIndex", desc := "(IILjava/util/function/BiFunction;)I" } : Jvm.MethodName)) ∈ bz_T := bz_in 699 (by decide +kernel) rfl
theorem ws_700 : (Jvm.Cond.code ({ cls := "jdk/internal/util/Preconditions", name := "checkIndex", desc := "(IILjava/util/function/BiFunction;)I" } : Jvm.MethodName) prog_22_method_11_code (3 : Nat) (Option.some Jvm.ClassFile.FieldType.int)) ∈ bz_T := bz_in 700 (by decide +kernel) rfl
theorem ws_val : (Jvm.Cond.fieldLink "java/lang/String" (9 : Nat) "java/lang/String" "value" "[B") ∈ bz_T := bz_in 1857 (by decide +kernel) rfl
theorem ws_cod : (Jvm.Cond.fieldLink "java/lang/String" (15 : Nat) "java/lang/String" "coder" "B") ∈ bz_T := bz_in 1858 (by decide +kernel) rfl
theorem ws_cmp : (Jvm.Cond.fieldLink "java/lang/String" (38 : Nat) "java/lang/String" "COMPACT_STRINGS" "Z") ∈ bz_T := bz_in 680 (by decide +kernel) rfl
theorem ws_fmt : (Jvm.Cond.fieldLink "java/lang/String" (1053 : Nat) "jdk/internal/util/Preconditions" "SIOOBE_FORMATTER" "Ljava/util/function/BiFunction;") ∈ bz_T := bz_in 696 (by decide +kernel) rfl
section BW
variable {ty : FieldType} {K : bz_K} {E : bz_E} {cc : ByteArray} {nL pc : Nat} {own : String} {ret : Option FieldType} {fr lo : Nat} {rv : Option Value} {M1 M M2 : bz_Mm} {lv lv' : List (Nat × Value)} {st stk : List Value} {ρ : Type} {r : ρ}
theorem j_ldcS (X : bz_X K E cc nL own ret fr lo rv M1) {i w : Nat} {tx : String} (hm : (own, i, tx, w) ∈ bz_rs) (hd : decode cc pc = .ok (.ldc i, 2)) (k : bz_J K nL (pc + 2) lv (bz_rf E (900 + w) :: st) M) : bz_J K nL pc lv st M := by
  obtain ⟨⟨l, ad, cA, D, A⟩, p, e, R, s, m, args, below, meth, c, Q⟩ := K
  obtain ⟨rfl, hx, hb, hml, hret, hlk, hown, hts, hSf, rfl, hQ⟩ := X
  intro ls H locs hl hP hS
  exact va_ldcS hx hb hown (hSf.2.2.2.2.1 _ hm) hd (k ls H locs hl hP hS)
theorem ldcw_row {p : Program} {l : Launch} {e : Env} {R : Room} {s : State} {m : MethodId} {args : Array Value} {below : List Frame} {meth : Method} {c : Code} {T : State} {locs : List Loc} {cells slots : Nat} (X : Stand p l e R s m args below meth c T locs cells slots) (hexec : p.tables.exec = Jvm.exec) {own tx : String} {index : Nat} {a : Addr} (hown : s.vm.findClass own = some m.cls)
    (hZ : vk_R own index tx a s) {g : JFrame} (hg : g.method = m) (hdg : decode c.code g.pc = .ok (.ldc_w index, 3)) :
    ∀ target, Steps p.tables e below (T.setTop { g with pc := g.pc + 3, stack := .ref a :: g.stack }) target → Steps p.tables e below (T.setTop g) target := by
  obtain ⟨k, cf, i, a2, hk, hcf, hcp, -, hr, hev⟩ := Cond.stringRef_spec hown hZ.1
  have hea : a2 = a := by
    have h := hev.symm.trans hZ.2
    simpa using h
  subst hea
  obtain ⟨k1, hk1, he⟩ := X.warmed.alike.2.2 _ _ hk
  have hr1 : k1.resolved[index]? = some (some (.string a2)) := by
    rcases X.warmed.entry hk hk1 index with h | ⟨h, -⟩
    · rw [h]; exact hr
    · rw [hr] at h; cases h
  intro target hrest
  subst hg
  jvm_step X.here [hexec, hdg, ldc_w.wp_string (e := e) (s := T) (f := g) X.here.top hk1 (by rw [he]; exact hcf) hcp hr1]
  exact hrest
theorem j_ldcwS (X : bz_X K E cc nL own ret fr lo rv M1) {i w : Nat} {tx : String} (hm : (own, i, tx, w) ∈ bz_rs) (hd : decode cc pc = .ok (.ldc_w i, 3)) (k : bz_J K nL (pc + 3) lv (bz_rf E (900 + w) :: st) M) : bz_J K nL pc lv st M := by
  obtain ⟨⟨l, ad, cA, D, A⟩, p, e, R, s, m, args, below, meth, c, Q⟩ := K
  obtain ⟨rfl, hx, hb, hml, hret, hlk, hown, hts, hSf, rfl, hQ⟩ := X
  intro ls H locs hl hP hS T hT Xs
  obtain ⟨t, a1, b1⟩ := k ls H locs hl hP hS T hT Xs
  exact ⟨t, ldcw_row Xs hx hown (hSf.2.2.2.2.1 _ hm) (g := F0 m pc ls st) rfl (by rw [hb]; exact hd) t a1, b1⟩
theorem j_sval (X : bz_X K E cc nL "java/lang/String" ret fr lo rv M1) {w : Nat} (hw : w < 18) (hd : decode cc pc = .ok (.getfield 9, 3)) (k : bz_J K nL (pc + 3) lv (bz_rf E (950 + w) :: st) M) : bz_J K nL pc lv (bz_rf E (900 + w) :: st) M := by
  obtain ⟨⟨l, ad, cA, D, A⟩, p, e, R, s, m, args, below, meth, c, Q⟩ := K
  obtain ⟨rfl, hx, hb, hml, hret, hlk, hown, hts, hSf, rfl, hQ⟩ := X
  intro ls H locs hl hP hS
  exact vk_getf hx hb (hSf.2.2.2.1 w hw).2.2.1 hS hown (hts _ ws_val) (fun _ h => h) hd (k ls H locs hl hP hS)
theorem j_scod (X : bz_X K E cc nL "java/lang/String" ret fr lo rv M1) {w : Nat} (hw : w < 18) (hd : decode cc pc = .ok (.getfield 15, 3)) (k : bz_J K nL (pc + 3) lv (bz_i 0 :: st) M) : bz_J K nL pc lv (bz_rf E (900 + w) :: st) M := by
  obtain ⟨⟨l, ad, cA, D, A⟩, p, e, R, s, m, args, below, meth, c, Q⟩ := K
  obtain ⟨rfl, hx, hb, hml, hret, hlk, hown, hts, hSf, rfl, hQ⟩ := X
  intro ls H locs hl hP hS
  exact vk_getf hx hb (hSf.2.2.2.1 w hw).2.1 hS hown (hts _ ws_cod) (fun _ h => h) hd (k ls H locs hl hP hS)
theorem j_scmp (X : bz_X K E cc nL "java/lang/String" ret fr lo rv M1) (hd : decode cc pc = .ok (.getstatic 38, 3)) (k : bz_J K nL (pc + 3) lv (bz_i 1 :: st) M) : bz_J K nL pc lv st M := by
  obtain ⟨⟨l, ad, cA, D, A⟩, p, e, R, s, m, args, below, meth, c, Q⟩ := K
  obtain ⟨rfl, hx, hb, hml, hret, hlk, hown, hts, hSf, rfl, hQ⟩ := X
  intro ls H locs hl hP hS
  exact va_gets hx hb hSf.2.2.2.2.2.2.2.1 hS hown (hts _ ws_cmp) (fun _ h => h) hd (k ls H locs hl hP hS)
theorem j_sfmt (X : bz_X K E cc nL "java/lang/String" ret fr lo rv M1) (hd : decode cc pc = .ok (.getstatic 1053, 3)) (k : ∀ v : Value, v.category = 1 → bz_J K nL (pc + 3) lv (v :: st) M) : bz_J K nL pc lv st M := by
  obtain ⟨⟨l, ad, cA, D, A⟩, p, e, R, s, m, args, below, meth, c, Q⟩ := K
  obtain ⟨rfl, hx, hb, hml, hret, hlk, hown, hts, hSf, rfl, hQ⟩ := X
  intro ls H locs hl hP hS
  obtain ⟨v, hv, hZ⟩ := hSf.2.2.2.2.2.2.2.2
  exact va_gets hx hb hZ hS hown (hts _ ws_fmt) (fun _ h => h) hd (k v hv ls H locs hl hP hS)
def sn_ (w : Nat) : Nat := (bz_str.getD w []).length
theorem j_slen (X : bz_X K E cc nL own ret fr lo rv M1) {w : Nat} (hw : w < 18) (hd : decode cc pc = .ok (.arraylength, 1)) (k : bz_J K nL (pc + 1) lv (bz_i (sn_ w) :: st) M) : bz_J K nL pc lv (bz_rf E (950 + w) :: st) M := by
  obtain ⟨⟨l, ad, cA, D, A⟩, p, e, R, s, m, args, below, meth, c, Q⟩ := K
  obtain ⟨rfl, hx, hb, hml, hret, hlk, hown, hts, hSf, rfl, hQ⟩ := X
  intro ls H locs hl hP hS
  exact va_tlen hx hb (hSf.2.2.2.1 w hw).2.2.2 hS (v := Int32.ofInt (sn_ w)) (by show Int32.ofNat _ = Int32.ofInt (Int.ofNat _); rfl) hd (k ls H locs hl hP hS)
def sb0_ (w : Nat) (j : Int) : Int := ((bz_str.getD w []).getD (w32 j).toNat 0).toInt
theorem j_sbal (X : bz_X K E cc nL own ret fr lo rv M1) {w : Nat} {j : Int} (hw : w < 18) (hj : 0 ≤ w32 j ∧ w32 j < (sn_ w : Nat)) (hd : decode cc pc = .ok (.baload, 1)) (k : bz_J K nL (pc + 1) lv (bz_i (sb0_ w j) :: st) M) : bz_J K nL pc lv (bz_i j :: bz_rf E (950 + w) :: st) M := by
  obtain ⟨⟨l, ad, cA, D, A⟩, p, e, R, s, m, args, below, meth, c, Q⟩ := K
  obtain ⟨rfl, hx, hb, hml, hret, hlk, hown, hts, hSf, rfl, hQ⟩ := X
  intro ls H locs hl hP hS
  exact va_tb hx hb (hSf.2.2.2.1 w hw).2.2.2 hS (bz_vp hj) (v := bz_i (sb0_ w j)) (by rw [bz_cl]; show Value.int _ = Value.int (Int32.ofInt (Int32.toInt _)); rw [Int32.ofInt_toInt]) hd (k ls H locs hl hP hS)
def i2c_ (x : Int) : Int := ((Int32.ofInt x).toUInt32 % 65536).toInt32.toInt
theorem j_i2c (X : bz_X K E cc nL own ret fr lo rv M1) {x : Int} (hd : decode cc pc = .ok (.i2c, 1)) (k : bz_J K nL (pc + 1) lv (bz_i (i2c_ x) :: st) M) : bz_J K nL pc lv (bz_i x :: st) M := by
  obtain ⟨⟨l, ad, cA, D, A⟩, p, e, R, s, m, args, below, meth, c, Q⟩ := K
  obtain ⟨rfl, hx, hb, hml, hret, hlk, hown, hts, hSf, rfl, hQ⟩ := X
  intro ls H locs hl hP hS
  exact lv_i2c hx hb hd (v := Int32.ofInt (i2c_ x)) (by unfold i2c_; rw [Int32.ofInt_toInt]) (k ls H locs hl hP hS)
theorem i2c_nar (x : Int) : narrow .char (bz_i (i2c_ x)) = bz_i (i2c_ x) := by
  unfold i2c_; rw [bz_i, Int32.ofInt_toInt]; exact pk_nc _
theorem j_cw (X : bz_X K E cc nL own ret fr lo rv M1) {y : MethodName} {bytes : ByteArray} {maxL : Nat} {ret2 : Option FieldType} {fr2 lo2 i w n : Nat} {As : List Value} {rv2 : Option Value}
    (hw : w < 18) (hM : bz_Ct E y (.code y bytes maxL ret2) fr2 lo2 (bz_rf E (900 + w) :: As) M rv2 M2) (hy : bz_Gy y bytes maxL ret2 n) (hv : y.cls = "java/lang/String" ∧ Cond.instanceMethod y ∈ bz_T ∧ Cond.selects y.cls y y ∈ bz_T) (hn : As.length = n) (hfr : fr2 + 1 ≤ fr) (hlo : 8 + (maxL + 11) + lo2 ≤ lo) (hlink : Cond.methodLink own i y ∈ bz_T)
    (hstk : As.reverse ++ bz_rf E (900 + w) :: st = stk) (hst : (st.map fun v => v.category).sum ≤ 8) (hd : decode cc pc = .ok (.invokevirtual i, 3))
    (k : bz_J K nL (pc + 3) lv (rv2.toList ++ st) M2) : bz_J K nL pc lv stk M := by
  subst hn
  obtain ⟨a1, a2, a3, a4⟩ := hy
  exact j_callW X hw hM ⟨a1, a2, a3, a4, hfr, hlo⟩ hv.1 hlink hv.2.1 hv.2.2 hstk hst hd k
end BW
theorem gyJS_coder : bz_Gy yJS_coder prog_17_method_152_code 1 (some .byte) 0 := ⟨ws_679, ws_16, ⟨by decide +kernel, by decide +kernel⟩, by decide +kernel⟩
theorem gyJS_length : bz_Gy yJS_length prog_17_method_54_code 1 (some .int) 0 := ⟨ws_675, ws_16, ⟨by decide +kernel, by decide +kernel⟩, by decide +kernel⟩
theorem gyJS_isLatin1 : bz_Gy yJS_isLatin1 prog_17_method_154_code 1 (some .boolean) 0 := ⟨ws_689, ws_16, ⟨by decide +kernel, by decide +kernel⟩, by decide +kernel⟩
theorem gyJS_charAt : bz_Gy yJS_charAt prog_17_method_56_code 2 (some .char) 1 := ⟨ws_685, ws_16, ⟨by decide +kernel, by decide +kernel⟩, by decide +kernel⟩
theorem gyJS_checkIndex : bz_Gy yJS_checkIndex prog_17_method_155_code 2 none 2 := ⟨ws_695, ws_16, ⟨by decide +kernel, by decide +kernel⟩, by decide +kernel⟩
theorem gyJL_charAt : bz_Gy yJL_charAt prog_18_method_2_code 2 (some .char) 2 := ⟨ws_692, ws_17, ⟨by decide +kernel, by decide +kernel⟩, by decide +kernel⟩
theorem gyJP_checkIndex : bz_Gy yJP_checkIndex prog_22_method_11_code 3 (some .int) 3 := ⟨ws_700, ws_18, ⟨by decide +kernel, by decide +kernel⟩, by decide +kernel⟩
theorem gvJS_coder : yJS_coder.cls = "java/lang/String" ∧ Cond.instanceMethod yJS_coder ∈ bz_T ∧ Cond.selects yJS_coder.cls yJS_coder yJS_coder ∈ bz_T := ⟨rfl, ws_677, ws_678⟩
theorem gvJS_length : yJS_length.cls = "java/lang/String" ∧ Cond.instanceMethod yJS_length ∈ bz_T ∧ Cond.selects yJS_length.cls yJS_length yJS_length ∈ bz_T := ⟨rfl, ws_673, ws_674⟩
theorem gvJS_isLatin1 : yJS_isLatin1.cls = "java/lang/String" ∧ Cond.instanceMethod yJS_isLatin1 ∈ bz_T ∧ Cond.selects yJS_isLatin1.cls yJS_isLatin1 yJS_isLatin1 ∈ bz_T := ⟨rfl, ws_687, ws_688⟩
theorem gvJS_charAt : yJS_charAt.cls = "java/lang/String" ∧ Cond.instanceMethod yJS_charAt ∈ bz_T ∧ Cond.selects yJS_charAt.cls yJS_charAt yJS_charAt ∈ bz_T := ⟨rfl, ws_683, ws_684⟩
set_option maxRecDepth 20000 in
theorem cJS_coder (E : bz_E) {M : bz_Mm} {w0 : Nat} (hw0 : w0 < 18) : bz_Ct E yJS_coder (.code yJS_coder prog_17_method_152_code 1 (some .byte)) 0 0 [bz_rf E (900 + w0)] M (some (bz_i 0)) M := by
  refine bz_metF (by decide +kernel) (Nat.le_of_ble_eq_true rfl) (fun K X => ?_)
  have X : bz_X K E prog_17_method_152_code 1 "java/lang/String" (some .byte) 0 0 _ _ := X
  show bz_J K 1 0 [(0, bz_rf E (900 + w0))] [] M
  refine j_scmp X dJS_coder_0 ?_
  refine j_if_eq X (ρ := Unit) (r := ()) (a := none) (b := some ()) (tgt := 13) (w32_lit rfl) dJS_coder_3 (by decide) rfl (fun h => by cases h) (fun _ => ?_)
  refine j_aload_n X dJS_coder_6 rfl 0 rfl ?_
  refine j_scod X hw0 dJS_coder_7 ?_
  refine j_goto X (tgt := 14) dJS_coder_10 (by decide) ?_
  exact j_zret X (by decide +kernel) dJS_coder_14 rfl rfl
def fJS_length (w0 : Nat) : Int := sr_ (sn_ w0) 0
set_option maxRecDepth 20000 in
theorem cJS_length (E : bz_E) {M : bz_Mm} {w0 : Nat} (hw0 : w0 < 18) : bz_Ct E yJS_length (.code yJS_length prog_17_method_54_code 1 (some .int)) 1 20 [bz_rf E (900 + w0)] M (some (bz_i (fJS_length w0))) M := by
  refine bz_metF (by decide +kernel) (Nat.le_of_ble_eq_true rfl) (fun K X => ?_)
  have X : bz_X K E prog_17_method_54_code 1 "java/lang/String" (some .int) 1 20 _ _ := X
  show bz_J K 1 0 [(0, bz_rf E (900 + w0))] [] M
  refine j_aload_n X dJS_length_0 rfl 0 rfl ?_
  refine j_sval X hw0 dJS_length_1 ?_
  refine j_slen X hw0 dJS_length_4 ?_
  refine j_aload_n X dJS_length_5 rfl 0 rfl ?_
  refine j_cw X hw0 (st := [bz_i (sn_ w0)]) (cJS_coder E hw0) gyJS_coder gvJS_coder rfl (by decide) (by decide) ws_676 rfl (Nat.le_of_ble_eq_true rfl) dJS_length_6 ?_
  refine j_ishr X dJS_length_9 ?_
  exact j_iret X dJS_length_10 rfl rfl
set_option maxRecDepth 20000 in
theorem cJS_isLatin1 (E : bz_E) {M : bz_Mm} {w0 : Nat} (hw0 : w0 < 18) : bz_Ct E yJS_isLatin1 (.code yJS_isLatin1 prog_17_method_154_code 1 (some .boolean)) 0 0 [bz_rf E (900 + w0)] M (some (bz_i 1)) M := by
  refine bz_metF (by decide +kernel) (Nat.le_of_ble_eq_true rfl) (fun K X => ?_)
  have X : bz_X K E prog_17_method_154_code 1 "java/lang/String" (some .boolean) 0 0 _ _ := X
  show bz_J K 1 0 [(0, bz_rf E (900 + w0))] [] M
  refine j_scmp X dJS_isLatin1_0 ?_
  refine j_if_eq X (ρ := Unit) (r := ()) (a := none) (b := some ()) (tgt := 17) (w32_lit rfl) dJS_isLatin1_3 (by decide) rfl (fun h => by cases h) (fun _ => ?_)
  refine j_aload_n X dJS_isLatin1_6 rfl 0 rfl ?_
  refine j_scod X hw0 dJS_isLatin1_7 ?_
  refine j_if_ne X (ρ := Unit) (r := ()) (a := some ()) (b := none) (tgt := 17) (w32_lit rfl) dJS_isLatin1_10 (by decide) rfl (fun h => by cases h) (fun _ => ?_)
  refine j_iconst X dJS_isLatin1_13 ?_
  refine j_goto X (tgt := 18) dJS_isLatin1_14 (by decide) ?_
  exact j_zret X (by decide +kernel) dJS_isLatin1_18 rfl rfl
set_option maxRecDepth 20000 in
theorem cJP_checkIndex (E : bz_E) {M : bz_Mm} {a0 a1 : Int} {v : Value} (hv : v.category = 1) (h : 0 ≤ w32 a0 ∧ w32 a0 < w32 a1) : bz_Ct E yJP_checkIndex (.code yJP_checkIndex prog_22_method_11_code 3 (some .int)) 0 0 [bz_i a0, bz_i a1, v] M (some (bz_i a0)) M := by
  refine bz_metF (by decide +kernel) ?_ (fun K X => ?_)
  · show (lg_sl [bz_i a0, bz_i a1, v]).length ≤ 3
    cases v <;> first | exact Nat.le_of_ble_eq_true rfl | (simp [Value.category] at hv)
  have X : bz_X K E prog_22_method_11_code 3 "jdk/internal/util/Preconditions" (some .int) 0 0 _ _ := X
  have e : lv_args 0 [bz_i a0, bz_i a1, v] = [(0, bz_i a0), (1, bz_i a1), (2, v)] := by simp [lv_args, Value.category]
  rw [e]
  refine j_iload_n X dJP_checkIndex_0 rfl 0 rfl ?_
  refine j_if_lt X (ρ := Unit) (r := ()) (a := none) (b := some ()) (tgt := 9) rfl dJP_checkIndex_1 (by decide) (if_neg (by omega)) (fun h => by cases h) (fun _ => ?_)
  refine j_iload_n X dJP_checkIndex_4 rfl 0 rfl ?_
  refine j_iload_n X dJP_checkIndex_5 rfl 1 rfl ?_
  refine j_icmp_lt X (ρ := Unit) (r := ()) (a := some ()) (b := none) (tgt := 16) rfl rfl dJP_checkIndex_6 (by decide) (if_pos h.2) (fun _ => ?_) (fun h => by cases h)
  refine j_iload_n X dJP_checkIndex_16 rfl 0 rfl ?_
  exact j_iret X dJP_checkIndex_17 rfl rfl
set_option maxRecDepth 20000 in
theorem cJS_checkIndex (E : bz_E) {M : bz_Mm} {a0 a1 : Int} (h : 0 ≤ w32 a0 ∧ w32 a0 < w32 a1) : bz_Ct E yJS_checkIndex (.code yJS_checkIndex prog_17_method_155_code 2 none) 1 22 [bz_i a0, bz_i a1] M (none) M := by
  refine bz_metF (by decide +kernel) (Nat.le_of_ble_eq_true rfl) (fun K X => ?_)
  have X : bz_X K E prog_17_method_155_code 2 "java/lang/String" none 1 22 _ _ := X
  show bz_J K 2 0 [(0, bz_i a0), (1, bz_i a1)] [] M
  refine j_iload_n X dJS_checkIndex_0 rfl 0 rfl ?_
  refine j_iload_n X dJS_checkIndex_1 rfl 1 rfl ?_
  refine j_sfmt X dJS_checkIndex_2 (fun v hv => ?_)
  refine j_cs X (st := []) (cJP_checkIndex E hv h) gyJP_checkIndex ws_699 rfl (by decide) (by decide) ws_698 rfl (Nat.le_of_ble_eq_true rfl) dJS_checkIndex_5 ?_
  refine j_pop X dJS_checkIndex_8 rfl ?_
  exact j_vret X dJS_checkIndex_9 rfl rfl
def ch_ (w : Nat) (j : Int) : Int := i2c_ (ia_ (sb0_ w j) 255)
set_option maxRecDepth 20000 in
theorem cJL_charAt (E : bz_E) {M : bz_Mm} {w0 : Nat} {a1 : Int} (hw0 : w0 < 18) (h : 0 ≤ w32 a1 ∧ w32 a1 < (sn_ w0 : Nat)) : bz_Ct E yJL_charAt (.code yJL_charAt prog_18_method_2_code 2 (some .char)) 2 43 [bz_rf E (950 + w0), bz_i a1] M (some (bz_i (ch_ w0 a1))) M := by
  have hn : w32 (sn_ w0 : Int) = (sn_ w0 : Int) := by
    have h2 : ∀ w, w < 18 → sn_ w < 100 := by decide +kernel
    have := h2 w0 hw0
    exact w32_id (by omega) (by omega)
  refine bz_metF (by decide +kernel) (Nat.le_of_ble_eq_true rfl) (fun K X => ?_)
  have X : bz_X K E prog_18_method_2_code 2 "java/lang/StringLatin1" (some .char) 2 43 _ _ := X
  show bz_J K 2 0 [(0, bz_rf E (950 + w0)), (1, bz_i a1)] [] M
  refine j_iload_n X dJL_charAt_0 rfl 1 rfl ?_
  refine j_aload_n X dJL_charAt_1 rfl 0 rfl ?_
  refine j_slen X hw0 dJL_charAt_2 ?_
  refine j_cs X (st := []) (cJS_checkIndex E (by rw [hn]; exact h)) gyJS_checkIndex ws_694 rfl (by decide) (by decide) ws_693 rfl (Nat.le_of_ble_eq_true rfl) dJL_charAt_3 ?_
  refine j_aload_n X dJL_charAt_6 rfl 0 rfl ?_
  refine j_iload_n X dJL_charAt_7 rfl 1 rfl ?_
  refine j_sbal X hw0 h dJL_charAt_8 ?_
  refine j_sipush X dJL_charAt_9 rfl ?_
  refine j_iand X dJL_charAt_12 ?_
  refine j_i2c X dJL_charAt_13 ?_
  exact j_zret X (i2c_nar _) dJL_charAt_14 rfl rfl
def fJS_charAt (F : Nat) (M : bz_Mm) (w0 : Nat) (a1 : Int) : Option Int := if 0 ≤ w32 a1 ∧ w32 a1 < (sn_ w0 : Nat) then some (ch_ w0 a1) else none
set_option maxRecDepth 20000 in
theorem cJS_charAt (E : bz_E) (F : Nat) {M : bz_Mm} {w0 : Nat} {a1 x0 : Int} (hw0 : w0 < 18) (hf : fJS_charAt F M w0 a1 = some x0) : bz_Ct E yJS_charAt (.code yJS_charAt prog_17_method_56_code 2 (some .char)) 3 64 [bz_rf E (900 + w0), bz_i a1] M (some (bz_i x0)) M := by
  obtain ⟨h, hf⟩ := q_in hf
  cases hf
  refine bz_metF (by decide +kernel) (Nat.le_of_ble_eq_true rfl) (fun K X => ?_)
  have X : bz_X K E prog_17_method_56_code 2 "java/lang/String" (some .char) 3 64 _ _ := X
  show bz_J K 2 0 [(0, bz_rf E (900 + w0)), (1, bz_i a1)] [] M
  refine j_aload_n X dJS_charAt_0 rfl 0 rfl ?_
  refine j_cw X hw0 (st := []) (cJS_isLatin1 E hw0) gyJS_isLatin1 gvJS_isLatin1 rfl (by decide) (by decide) ws_686 rfl (Nat.le_of_ble_eq_true rfl) dJS_charAt_1 ?_
  refine j_if_eq X (ρ := Unit) (r := ()) (a := none) (b := some ()) (tgt := 16) (w32_lit rfl) dJS_charAt_4 (by decide) rfl (fun h => by cases h) (fun _ => ?_)
  refine j_aload_n X dJS_charAt_7 rfl 0 rfl ?_
  refine j_sval X hw0 dJS_charAt_8 ?_
  refine j_iload_n X dJS_charAt_11 rfl 1 rfl ?_
  refine j_cs X (st := []) (cJL_charAt E hw0 h) gyJL_charAt ws_691 rfl (by decide) (by decide) ws_690 rfl (Nat.le_of_ble_eq_true rfl) dJS_charAt_12 ?_
  exact j_zret X (i2c_nar _) dJS_charAt_15 rfl rfl
