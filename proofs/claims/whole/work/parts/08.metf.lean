theorem bz_metF {E : bz_E} {y : MethodName} {cc : ByteArray} {maxL : Nat} {ret : Option FieldType} {fr lo : Nat} {av : List Value} {M : bz_Mm} {rv : Option Value} {M1 : bz_Mm} (hy : plainFor y = true) (hn : (lg_sl av).length ≤ maxL)
    (h : ∀ K : bz_K, bz_X K E cc maxL y.cls ret fr lo rv M1 → bz_J K maxL 0 (lv_args 0 av) [] M) : bz_Ct E y (.code y cc maxL ret) fr lo av M rv M1 := by
  obtain ⟨l, ad, cA, D, A⟩ := E
  refine va_MetF (cc := cc) (maxL := maxL) (ret := ret) hy rfl ?_
  intro p e s m args below meth c s₁ B hml hv
  obtain ⟨rfl, hP, hSf⟩ := hv
  have hts0 := atoms_spec (ws := .code y cc maxL ret :: bz_T) B.pre
  have hl := lv_entry av (n := maxL) hn
  rw [lg_entry_eq]
  generalize (lg_sl av ++ List.replicate (maxL - (lg_sl av).length) Slot.unset).toArray = ls at hl ⊢
  refine h ((l, ad, cA, D, A), p, e, bz_rm fr lo, s, m, av.toArray, below, meth, c, MQ below (bz_Qc ad cA D A rv M1) av.toArray s 0 0 A) ⟨rfl, B.exec, B.bytes, hml, B.returns, B.notSynchronized, findClass_of_methodNamed B.named, fun w hw => hts0 w (List.mem_cons_of_mem _ hw), hSf, rfl, rfl⟩ ls s.heap [] hl hP va_S.rf
