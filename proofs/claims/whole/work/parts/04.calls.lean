section BC
variable {K : bz_K} {E : bz_E} {cc : ByteArray} {nL pc : Nat} {own : String} {ret : Option FieldType} {fr lo : Nat} {rv : Option Value} {M1 M M2 : bz_Mm} {lv lv' : List (Nat × Value)} {st stk : List Value} {ρ : Type} {r : ρ}
theorem bz_goodT : ∀ w ∈ bz_T, w ∈ bz_T ∧ ((w.onTables && w.keeps) = true ∨ ∃ ty, w = .arrayClass ty) := by
  intro w hw
  refine ⟨hw, ?_⟩
  rcases List.mem_append.mp hw with h | h
  · obtain ⟨q, -, rfl⟩ := List.mem_map.mp h
    exact Or.inl rfl
  · exact good_of_word (List.mem_filter.mp h).2
theorem bz_blind {ad : Nat → Nat} {cA : Nat → ClassId} {D : va_G} {A : Nat → Prop} {av : List Value} {M : bz_Mm} : FrameBlind (bz_Pc ad cA D A av M) := by
  intro a U g mk h
  obtain ⟨h1, h2, h3, h4, h5, h6⟩ := h
  refine ⟨h1, h2, h3.moved (Vm.Alike.refl U.vm), h4, fun w hw => ?_, ?_⟩
  · have hz := h5 w hw
    have h7 : bz_isN w = true := (List.mem_filter.mp hw).2
    cases w <;> first | exact va_Nw.same rfl (rfl : U.vm = (U.calling g mk a).vm) hz | (simp [bz_isN] at h7)
  · obtain ⟨q1, q2, q3, q4, q5, v, q6, q7⟩ := h6
    have hv := Vm.Alike.refl U.vm
    refine ⟨fun i hi => ?_, fun q hq => vk_R.same rfl (q2 q hq), q3.moved hv, q4.moved hv, q5.moved hv, v, q6, q7.moved hv⟩
    obtain ⟨a1, a2, a3, a4⟩ := q1 i hi
    exact ⟨a1.moved hv, a2.moved hv, a3.moved hv, a4.moved hv⟩
theorem bz_ran {l : Launch} {ad : Nat → Nat} {cA : Nat → ClassId} {D : va_G} {A : Nat → Prop} {p : Program} {e : Env} {R : Room} {s : State} {m : MethodId} {args : Array Value} {below : List Frame} {meth : Method} {c : Code} {H : Heap} {locs : List Loc} {Q : State → Prop} {ls : Array Slot} {a : Array Value} {rv : Option Value} {stk st : List Value}
    (hr : va_Run p l e R s m args below meth c H locs 0 0 0 0 (F0 m pc ls stk) st (bz_Qc ad cA D A rv M2 a) A) (hS : va_S A s.heap H locs)
    (kk : ∀ (H1 : Heap) (locs1 : List Loc), va_P D bz_cls (bz_ws ad cA M2) H1 → va_S A s.heap H1 locs1 → W p l e R s m args below meth c H1 locs1 0 0 Q (F0 m (pc + 3) ls (rv.toList ++ st))) : W p l e R s m args below meth c H locs 0 0 Q (F0 m pc ls stk) := by
  intro T hT X
  obtain ⟨v, st₀, t, T', L, h0, X', hL, e1, e2, ⟨hv, hp, hz, hk⟩, go⟩ := hr T hT X
  cases hv
  rw [h0] at hz hk
  obtain ⟨t2, a1, b1⟩ := kk T'.heap (locs ++ L) (by rw [e1]; exact hp)
    ⟨Nat.le_trans hS.1 (by rw [e1]; exact hz), fun q h1 h2 => by rw [e1, hk q (Nat.lt_of_lt_of_le h1 hS.1) h2]; exact hS.2.1 q h1 h2, fun q hq => by
      rcases List.mem_append.mp hq with h | h
      · exact hS.2.2 q h
      · exact hL q h⟩ T' rfl X'
  exact ⟨t2, go t2 a1, b1⟩
/-- what a call site must show of its callee: all decided by program -/
def bz_Cs (y : MethodName) (bytes : ByteArray) (maxL : Nat) (ret2 : Option FieldType) (n fr lo fr2 lo2 : Nat) : Prop := .code y bytes maxL ret2 ∈ bz_T ∧ (Cond.initialized y.cls) ∈ bz_T ∧ (y.cls ≠ "java/lang/invoke/MethodHandle" ∧ y.cls ≠ "java/lang/invoke/VarHandle") ∧ (parseMethodDescriptor y.desc).map (fun d => d.parameters.length) = some n ∧ fr2 + 1 ≤ fr ∧ 8 + (maxL + 11) + lo2 ≤ lo
theorem j_callV (X : bz_X K E cc nL own ret fr lo rv M1) {y : MethodName} {bytes : ByteArray} {maxL : Nat} {ret2 : Option FieldType} {fr2 lo2 i a ci N : Nat} {T : u_T} {fs : List (Nat × Nat)} {As : List Value} {rv2 : Option Value}
    (hM : bz_Ct E y (.code y bytes maxL ret2) fr2 lo2 (bz_rf E a :: As) M rv2 M2) (hC : bz_Cs y bytes maxL ret2 As.length fr lo fr2 lo2) (hlink : Cond.methodLink own i y ∈ bz_T) (hinst : Cond.instanceMethod y ∈ bz_T) (hsel : Cond.selects y.cls y y ∈ bz_T) (hc : bz_cls[ci]? = some (y.cls, T, N)) (hs : bz_shl[a]? = some (.inr (ci, fs)))
    (hstk : As.reverse ++ bz_rf E a :: st = stk) (hst : (st.map fun v => v.category).sum ≤ 8) (hd : decode cc pc = .ok (.invokevirtual i, 3))
    (k : bz_J K nL (pc + 3) lv (rv2.toList ++ st) M2) : bz_J K nL pc lv stk M := by
  obtain ⟨⟨l, ad, cA, D, A⟩, p, e, R, s, m, args, below, meth, c, Q⟩ := K
  obtain ⟨rfl, hx, hb, hml, hret, hlk, hown, hts, hSf, rfl, hQ⟩ := X
  intro ls H locs hl hP hS
  subst hstk
  obtain ⟨c1, c2, c3, c4, c5, c6⟩ := hC
  have hrecv : ∃ cell : Cell, H[ad a]? = some cell ∧ cell.vm.isStatics = false ∧ s.vm.findClass y.cls = some cell.cls := va_recv hSf.1 hP (ci := ci) (q0 := a) hc (bz_get hs)
  refine bz_ran (M2 := M2) (rv := rv2) (va_runV (C := y.cls) ⟨hx, hb, hml, hown, hts⟩ hM ⟨⟨rfl, rfl, c5, c6, ?_, List.mem_cons_self, hts _ c1, hts _ c2, c3, ?_, hts _ hlink⟩, hts _ hinst, hts _ hsel⟩ ⟨bz_blind, hrecv, fun U hU hW => ⟨rfl, by rw [hU]; exact hP, hSf.go hW hS hU⟩⟩ rfl rfl hl.1 rfl (lv_room hst) hd ⟨Nat.le_refl _, Nat.le_refl _⟩) hS (fun H1 locs1 hP1 hS1 => k ls H1 locs1 hl hP1 hS1)
  · intro w hw a' U hW
    rcases List.mem_cons.mp hw with h | h
    · rw [h]; exact pay_in hts bz_goodT _ c1 a' U hW
    · exact pay_in hts bz_goodT _ h a' U hW
  · intro sig h
    rw [h] at c4
    exact (Option.some.inj c4).symm
theorem j_callS (X : bz_X K E cc nL own ret fr lo rv M1) {y : MethodName} {bytes : ByteArray} {maxL : Nat} {ret2 : Option FieldType} {fr2 lo2 i : Nat} {As : List Value} {rv2 : Option Value}
    (hM : bz_Ct E y (.code y bytes maxL ret2) fr2 lo2 As M rv2 M2) (hC : bz_Cs y bytes maxL ret2 As.length fr lo fr2 lo2) (hlink : Cond.methodLink own i y ∈ bz_T) (hstat : Cond.static y ∈ bz_T)
    (hstk : As.reverse ++ st = stk) (hst : (st.map fun v => v.category).sum ≤ 8) (hd : decode cc pc = .ok (.invokestatic i, 3))
    (k : bz_J K nL (pc + 3) lv (rv2.toList ++ st) M2) : bz_J K nL pc lv stk M := by
  obtain ⟨⟨l, ad, cA, D, A⟩, p, e, R, s, m, args, below, meth, c, Q⟩ := K
  obtain ⟨rfl, hx, hb, hml, hret, hlk, hown, hts, hSf, rfl, hQ⟩ := X
  intro ls H locs hl hP hS
  subst hstk
  obtain ⟨c1, c2, c3, c4, c5, c6⟩ := hC
  refine bz_ran (M2 := M2) (rv := rv2) (va_runS ⟨hx, hb, hml, hown, hts⟩ hM ⟨⟨rfl, rfl, c5, c6, ?_, List.mem_cons_self, hts _ c1, hts _ c2, c3, ?_, hts _ hlink⟩, hts _ hstat⟩ ⟨bz_blind, fun U hU hW => ⟨rfl, by rw [hU]; exact hP, hSf.go hW hS hU⟩⟩ rfl rfl hl.1 rfl (lv_room hst) hd ⟨Nat.le_refl _, Nat.le_refl _⟩) hS (fun H1 locs1 hP1 hS1 => k ls H1 locs1 hl hP1 hS1)
  · intro w hw a' U hW
    rcases List.mem_cons.mp hw with h | h
    · rw [h]; exact pay_in hts bz_goodT _ c1 a' U hW
    · exact pay_in hts bz_goodT _ h a' U hW
  · intro sig h
    rw [h] at c4
    exact (Option.some.inj c4).symm
theorem j_callN (X : bz_X K E cc nL own ret fr lo rv M1) {y : MethodName} {bytes : ByteArray} {maxL : Nat} {ret2 : Option FieldType} {fr2 lo2 i : Nat} {host : String} {As : List Value} {rv2 : Option Value}
    (hM : bz_Ct E y (.code y bytes maxL ret2) fr2 lo2 As M rv2 M2) (hC : bz_Cs y bytes maxL ret2 As.length fr lo fr2 lo2) (hlink : Cond.methodLinkNest own i y host ∈ bz_NL) (hstat : Cond.static y ∈ bz_T)
    (hstk : As.reverse ++ st = stk) (hst : (st.map fun v => v.category).sum ≤ 8) (hd : decode cc pc = .ok (.invokestatic i, 3))
    (k : bz_J K nL (pc + 3) lv (rv2.toList ++ st) M2) : bz_J K nL pc lv stk M := by
  obtain ⟨⟨l, ad, cA, D, A⟩, p, e, R, s, m, args, below, meth, c, Q⟩ := K
  obtain ⟨rfl, hx, hb, hml, hret, hlk, hown, hts, hSf, rfl, hQ⟩ := X
  intro ls H locs hl hP hS
  subst hstk
  obtain ⟨c1, c2, c3, c4, c5, c6⟩ := hC
  refine bz_ran (M2 := M2) (rv := rv2) (va_runSN (host := host) ⟨hx, hb, hml, hown, hts⟩ hM ⟨⟨⟨rfl, rfl, c5, c6, ?_, List.mem_cons_self⟩, hts _ c1, hts _ c2, c3, ?_, va_Nw.use rfl (hSf.2.2.1 _ hlink)⟩, hts _ hstat, trivial⟩ ⟨bz_blind, fun U hU hW => ⟨rfl, by rw [hU]; exact hP, hSf.go hW hS hU⟩⟩ rfl rfl hl.1 rfl (lv_room hst) hd ⟨Nat.le_refl _, Nat.le_refl _⟩) hS (fun H1 locs1 hP1 hS1 => k ls H1 locs1 hl hP1 hS1)
  · intro w hw a' U hW
    rcases List.mem_cons.mp hw with h | h
    · rw [h]; exact pay_in hts bz_goodT _ c1 a' U hW
    · exact pay_in hts bz_goodT _ h a' U hW
  · intro sig h
    rw [h] at c4
    exact (Option.some.inj c4).symm
theorem j_callW (X : bz_X K E cc nL own ret fr lo rv M1) {y : MethodName} {bytes : ByteArray} {maxL : Nat} {ret2 : Option FieldType} {fr2 lo2 i w : Nat} {As : List Value} {rv2 : Option Value}
    (hw : w < 18) (hM : bz_Ct E y (.code y bytes maxL ret2) fr2 lo2 (bz_rf E (900 + w) :: As) M rv2 M2) (hC : bz_Cs y bytes maxL ret2 As.length fr lo fr2 lo2) (hy : y.cls = "java/lang/String") (hlink : Cond.methodLink own i y ∈ bz_T) (hinst : Cond.instanceMethod y ∈ bz_T) (hsel : Cond.selects y.cls y y ∈ bz_T)
    (hstk : As.reverse ++ bz_rf E (900 + w) :: st = stk) (hst : (st.map fun v => v.category).sum ≤ 8) (hd : decode cc pc = .ok (.invokevirtual i, 3))
    (k : bz_J K nL (pc + 3) lv (rv2.toList ++ st) M2) : bz_J K nL pc lv stk M := by
  obtain ⟨⟨l, ad, cA, D, A⟩, p, e, R, s, m, args, below, meth, c, Q⟩ := K
  obtain ⟨rfl, hx, hb, hml, hret, hlk, hown, hts, hSf, rfl, hQ⟩ := X
  intro ls H locs hl hP hS
  subst hstk
  obtain ⟨c1, c2, c3, c4, c5, c6⟩ := hC
  have hrecv : ∃ cell : Cell, H[ad (900 + w)]? = some cell ∧ cell.vm.isStatics = false ∧ s.vm.findClass y.cls = some cell.cls := by
    obtain ⟨cell, h1, h2, h3, -⟩ := (hSf.2.2.2.1 w hw).1.kept hS.2.1
    exact ⟨cell, h1, h2, by rw [hy]; exact h3⟩
  refine bz_ran (M2 := M2) (rv := rv2) (va_runV (C := y.cls) ⟨hx, hb, hml, hown, hts⟩ hM ⟨⟨rfl, rfl, c5, c6, ?_, List.mem_cons_self, hts _ c1, hts _ c2, c3, ?_, hts _ hlink⟩, hts _ hinst, hts _ hsel⟩ ⟨bz_blind, hrecv, fun U hU hW => ⟨rfl, by rw [hU]; exact hP, hSf.go hW hS hU⟩⟩ rfl rfl hl.1 rfl (lv_room hst) hd ⟨Nat.le_refl _, Nat.le_refl _⟩) hS (fun H1 locs1 hP1 hS1 => k ls H1 locs1 hl hP1 hS1)
  · intro w hw a' U hW
    rcases List.mem_cons.mp hw with h | h
    · rw [h]; exact pay_in hts bz_goodT _ c1 a' U hW
    · exact pay_in hts bz_goodT _ h a' U hW
  · intro sig h
    rw [h] at c4
    exact (Option.some.inj c4).symm
theorem bz_setF {ad : Nat → Nat} {cA : Nat → ClassId} {M : bz_Mm} {a : Nat} {s : bz_Sh} (h : bz_shl[a]? = some s) (f : Nat → Int) : (bz_ws ad cA M).set a (ad a, bz_ent ad cA s f) = bz_ws ad cA (fun b => if b = a then f else M b) := by
  apply List.ext_getElem?
  intro i
  by_cases hi : i = a
  · subst hi
    have hl : i < (bz_ws ad cA M).length := (List.getElem?_eq_some_iff.mp (bz_get h)).1
    rw [List.getElem?_set_self hl, bz_get h]
    simp
  · rw [List.getElem?_set_ne (fun q => hi q.symm)]
    unfold bz_ws
    rw [List.getElem?_mapIdx, List.getElem?_mapIdx]
    simp [hi]
/-- the first n of one row into another -/
def cp_ {α : Type} (M : bz_Mm) (a b n : Nat) (k : bz_Mm → Option α) : Option α := k (fun q => if q = b then (fun j => if j < n then M a j else M b j) else M q)
theorem j_copyl (X : bz_X K E cc nL own ret fr lo rv M1) {a b i na nb n : Nat} {z z1 z2 : Int} {g : bz_Mm → Option ρ} (ha : bz_shl[a]? = some (.inl (1, na, 0))) (hb0 : bz_shl[b]? = some (.inl (1, nb, 0))) (hz : Int32.ofInt z = nI n) (hz1 : z1 = 0) (hz2 : z2 = 0) (hn : n < 2 ^ 31) (hna : n ≤ na) (hnb : n ≤ nb)
    (hlink : Cond.methodLink own i arraycopyName ∈ bz_T) (hnat : Cond.native arraycopyName ∈ bz_T) (hstat : Cond.static arraycopyName ∈ bz_T) (hini : Cond.initialized "java/lang/System" ∈ bz_T) (hfr : 1 ≤ fr) (hlo : 26 ≤ lo) (hst : (st.map fun v => v.category).sum ≤ 8) (hd : decode cc pc = .ok (.invokestatic i, 3)) (hf : cp_ M a b n g = some r)
    (kk : ∀ M, g M = some r → bz_J K nL (pc + 3) lv st M) : bz_J K nL pc lv (bz_i z :: bz_i z2 :: bz_rf E b :: bz_i z1 :: bz_rf E a :: st) M := by
  obtain ⟨⟨l, ad, cA, D, A⟩, p, e, R, s, m, args, below, meth, c, Q⟩ := K
  obtain ⟨rfl, hx, hb, hml, hret, hlk, hown, hts, hSf, rfl, hQ⟩ := X
  intro ls H locs hl hP hS
  subst hz1; subst hz2
  have e0 : (Int32.ofInt 0).toNatClampNeg = 0 := by decide
  have en : (nI n).toNatClampNeg = n := nI_clamp hn
  show W p l e _ s m args below meth c H locs 0 0 Q (F0 m pc ls (.int (Int32.ofInt z) :: _))
  rw [hz]
  refine va_copyl hx hb (hml.trans hl.1.symm) hown (hts _ hlink) (hts _ hnat) (hts _ hstat) (hts _ hini) hSf.1 hP (hSf.2.1.D cA M) hS a b 1 1 (ty := .long) (bz_get ha) (bz_get hb0) rfl rfl rfl (by decide) (by decide) (nI_pos hn) (by rw [e0, en]; omega) (by rw [e0, en]; omega) (fun _ _ => rfl) hfr ?_ hd (fun H1 locs1 hP1 _ hS1 => ?_)
  · show _ + (nativeFrameWords "java/lang/System" "arraycopy" 5 + 11) ≤ lo
    have : nativeFrameWords "java/lang/System" "arraycopy" 5 = 7 := by decide +kernel
    omega
  · refine kk _ hf ls H1 locs1 hl ?_ hS1
    rw [← bz_setF hb0]
    rw [e0, en] at hP1
    have : va_cpy (fun j => Int64.ofInt (M a j)) (fun j => Int64.ofInt (M b j)) 0 0 n = fun j => Int64.ofInt (if j < n then M a j else M b j) := by
      funext j
      unfold va_cpy
      by_cases hj : j < n
      · rw [if_pos ⟨Nat.zero_le j, by omega⟩, if_pos hj]; simp
      · rw [if_neg (by omega), if_neg hj]
    rw [this] at hP1
    exact hP1
end BC
