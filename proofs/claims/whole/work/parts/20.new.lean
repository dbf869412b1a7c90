/-! making: cells come one behind another from b0 on; position i is the cell of id bn_id i -/
def bn_id (p : Nat) : Nat := if 112 ≤ p ∧ p < 154 then (if (p - 112) % 6 = 0 then 112 + (p - 112) / 6 else 119 + 5 * ((p - 112) / 6) + ((p - 112) % 6 - 1)) else p
def bn_pos (i : Nat) : Nat := if 112 ≤ i ∧ i < 119 then 112 + 6 * (i - 112) else if 119 ≤ i ∧ i < 154 then 113 + 6 * ((i - 119) / 5) + (i - 119) % 5 else i
def bn_val (ad : Nat → Nat) (kt : Nat × Nat) (x : Int) : Value := if kt.1 = 5 then .null else bz_val ad kt x
def bn_ent (ad : Nat → Nat) (cA : Nat → ClassId) (s : bz_Sh) (m : Nat → Int) : va_E := match s with
  | .inl (e, n, b) => .inl (cA e, n, bz_arr ad e b m)
  | .inr (ci, fs) => .inr (ci, fs.mapIdx (fun j kt => bn_val ad kt (m j)))
def bn_ws (ad : Nat → Nat) (cA : Nat → ClassId) (b0 : Nat) (S : List bz_Sh) (M : bz_Mm) : va_W := S.mapIdx (fun i s => (b0 + i, bn_ent ad cA s (M (bn_id i))))
theorem bn_get {ad : Nat → Nat} {cA : Nat → ClassId} {b0 : Nat} {S : List bz_Sh} {M : bz_Mm} {a : Nat} {s : bz_Sh} (h : S[a]? = some s) : (bn_ws ad cA b0 S M)[a]? = some (b0 + a, bn_ent ad cA s (M (bn_id a))) := by
  unfold bn_ws; rw [List.getElem?_mapIdx, h]; rfl
theorem bn_len {ad : Nat → Nat} {cA : Nat → ClassId} {b0 : Nat} {S : List bz_Sh} {M : bz_Mm} : (bn_ws ad cA b0 S M).length = S.length := by unfold bn_ws; rw [List.length_mapIdx]
theorem bn_D {ad : Nat → Nat} {cA : Nat → ClassId} {b0 : Nat} {S : List bz_Sh} {M : bz_Mm} {A : Nat → Prop} (hA : ∀ q, b0 ≤ q → A q) : va_D A (bn_ws ad cA b0 S M) := by
  have key : ∀ k q, (bn_ws ad cA b0 S M)[k]? = some q → q.1 = b0 + k := by
    intro k q hk
    unfold bn_ws at hk
    rw [List.getElem?_mapIdx] at hk
    cases hs : S[k]? with
    | none => rw [hs] at hk; cases hk
    | some s => rw [hs] at hk; rw [← Option.some.inj hk]
  refine ⟨fun i j p q hp hq e => ?_, fun k q hk => ?_⟩
  · have := key i p hp
    have := key j q hq
    omega
  · rw [key k q hk]; exact hA _ (Nat.le_add_right _ _)
theorem bn_app {ad : Nat → Nat} {cA : Nat → ClassId} {b0 : Nat} {S : List bz_Sh} {M : bz_Mm} (s : bz_Sh) : bn_ws ad cA b0 (S ++ [s]) M = bn_ws ad cA b0 S M ++ [(b0 + S.length, bn_ent ad cA s (M (bn_id S.length)))] := by
  unfold bn_ws; rw [List.mapIdx_append]; simp
theorem bn_setS {ad : Nat → Nat} {cA : Nat → ClassId} {b0 : Nat} {S : List bz_Sh} {M : bz_Mm} {a : Nat} (s : bz_Sh) : (bn_ws ad cA b0 S M).set a (b0 + a, bn_ent ad cA s (M (bn_id a))) = bn_ws ad cA b0 (S.set a s) M := by
  apply List.ext_getElem?
  intro i
  unfold bn_ws
  rw [List.getElem?_mapIdx]
  by_cases hi : i = a
  · subst hi
    by_cases hl : i < S.length
    · rw [List.getElem?_set_self (by rw [List.length_mapIdx]; exact hl), List.getElem?_set_self hl]; rfl
    · rw [List.getElem?_eq_none (by rw [List.length_set, List.length_mapIdx]; omega), List.getElem?_eq_none (by rw [List.length_set]; omega)]; rfl
  · rw [List.getElem?_set_ne (fun q => hi q.symm), List.getElem?_set_ne (fun q => hi q.symm), List.getElem?_mapIdx]
theorem bn_idi : ∀ i, i < 300 → ∀ j, j < 300 → bn_id i = bn_id j → i = j := by decide +kernel
theorem bn_setM {ad : Nat → Nat} {cA : Nat → ClassId} {b0 : Nat} {S : List bz_Sh} {M : bz_Mm} {a : Nat} {s : bz_Sh} (h : S[a]? = some s) (hl : S.length ≤ 300) (j : Nat) (v : Int) : (bn_ws ad cA b0 S M).set a (b0 + a, bn_ent ad cA s (ud (M (bn_id a)) j v)) = bn_ws ad cA b0 S (st_ M (bn_id a) j v) := by
  have ha : a < S.length := (List.getElem?_eq_some_iff.mp h).1
  apply List.ext_getElem?
  intro i
  unfold bn_ws
  rw [List.getElem?_mapIdx]
  by_cases hi : i = a
  · subst hi
    rw [List.getElem?_set_self (by rw [List.length_mapIdx]; exact ha), h]
    simp [st_]
  · rw [List.getElem?_set_ne (fun q => hi q.symm), List.getElem?_mapIdx]
    cases hs : S[i]? with
    | none => rfl
    | some s2 =>
      have hi2 : i < S.length := (List.getElem?_eq_some_iff.mp hs).1
      have hne : bn_id i ≠ bn_id a := fun e => hi (bn_idi i (by omega) a (by omega) e)
      simp [st_, hne]
def bn_ao : List FieldType := [.array .int, .array .long, .array (.array .int), .object "java/lang/String"]
theorem bn_aog {ty : FieldType} {a b : Array Value} {s U : State} (hal : s.vm.Alike U.vm) (h : (Cond.arrayOver ty).before a s = true) : (Cond.arrayOver ty).before b U = true := by
  rw [← Cond.arrayOver_setVmC hal ty] at h
  exact h
/-- what holds of every state while cells are made -/
def bn_Sf (ad : Nat → Nat) (cA : Nat → ClassId) (D : va_G) (A : Nat → Prop) (b0 : Nat) (U : State) : Prop := va_K D bz_cls (bz_tys cA) U ∧ (∀ q, b0 ≤ q → A q) ∧ (∀ w ∈ bz_NL, va_Nw w U) ∧ bz_Es ad A U U.heap ∧ b0 ≤ U.heap.size ∧ ∀ ty ∈ bn_ao, (Cond.arrayOver ty).before #[] U = true
theorem bn_Sf.go {ad : Nat → Nat} {cA : Nat → ClassId} {D : va_G} {A : Nat → Prop} {b0 : Nat} {s U : State} {H : Heap} {locs : List Loc} (h : bn_Sf ad cA D A b0 s) (hW : s.WarmedH U.vm) (hS : va_S A s.heap H locs) (hU : U.heap = H) : bn_Sf ad cA D A b0 U := by
  obtain ⟨h1, h2, h3, h4, h5, h6⟩ := h
  exact ⟨h1.moved hW.alike, h2, bz_NL_go hW h3, h4.go hW (fun a x y => by rw [hU]; exact hS.2.1 a x y), by rw [hU]; exact Nat.le_trans h5 hS.1, fun ty ht => bn_aog hW.alike (h6 ty ht)⟩
def bn_Pc (ad : Nat → Nat) (cA : Nat → ClassId) (D : va_G) (A : Nat → Prop) (b0 : Nat) (av : List Value) (S : List bz_Sh) (M : bz_Mm) : Array Value → State → Prop := fun v U => v = av.toArray ∧ U.heap.size = b0 + S.length ∧ va_P D bz_cls (bn_ws ad cA b0 S M) U.heap ∧ bn_Sf ad cA D A b0 U
def bn_Qc (ad : Nat → Nat) (cA : Nat → ClassId) (D : va_G) (A : Nat → Prop) (b0 : Nat) (S : List bz_Sh) (M : bz_Mm) : Array Value → State → Outcome → State → Prop := fun _ st o t => o = .returned none ∧ t.heap.size = b0 + S.length ∧ va_P D bz_cls (bn_ws ad cA b0 S M) t.heap ∧ va_F A st t
def bn_rm (fr lo mc ms : Nat) : Room := { frames := fr, cells := mc, slots := ms, locals := lo }
def bn_Ct (E : bz_E) (b0 : Nat) (y : MethodName) (cw : Cond) (fr lo mc ms : Nat) (av : List Value) (S : List bz_Sh) (M : bz_Mm) (S1 : List bz_Sh) (M1 : bz_Mm) : Prop :=
  Met E.1 y (cw :: bz_T) (bn_rm fr lo mc ms) (bn_Pc E.2.1 E.2.2.1 E.2.2.2.1 E.2.2.2.2 b0 av S M) (bn_Qc E.2.1 E.2.2.1 E.2.2.2.1 E.2.2.2.2 b0 S1 M1) mc ms E.2.2.2.2
def bn_J (K : bz_K) (b0 nL pc cells slots : Nat) (lv : List (Nat × Value)) (st : List Value) (S : List bz_Sh) (M : bz_Mm) : Prop := match K with
  | ((l, ad, cA, D, A), p, e, R, s, m, args, below, meth, c, Q) => ∀ (ls : Array Slot) (H : Heap) (locs : List Loc), lv_has ls nL lv → H.size = b0 + S.length → va_P D bz_cls (bn_ws ad cA b0 S M) H → va_S A s.heap H locs → W p l e R s m args below meth c H locs cells slots Q (F0 m pc ls st)
/-- what a walk that makes cells knows all along -/
def bn_X (K : bz_K) (E : bz_E) (b0 : Nat) (cc : ByteArray) (nL : Nat) (own : String) (fr lo mc ms : Nat) : Prop := K.1 = E ∧ match K with
  | ((_, ad, cA, D, A), p, _, R, s, m, args, _, _, c, _) => p.tables.exec = Jvm.exec ∧ c.code = cc ∧ c.maxLocals = nL ∧ s.vm.findClass own = some m.cls ∧ (∀ w ∈ bz_T, w.before args s = true) ∧ bn_Sf ad cA D A b0 s ∧ R = bn_rm fr lo mc ms
/-- and a constructor's besides -/
def bn_Y (K : bz_K) (b0 mc ms : Nat) (S1 : List bz_Sh) (M1 : bz_Mm) : Prop := match K with
  | ((_, ad, cA, D, A), _, _, _, s, _, args, below, meth, _, Q) => meth.sig.returnType = none ∧ meth.locks = false ∧ meth.name = "<init>" ∧ Q = MQ below (bn_Qc ad cA D A b0 S1 M1) args s mc ms A
theorem bn_met {E : bz_E} {b0 : Nat} {y : MethodName} {cc : ByteArray} {maxL : Nat} {fr lo mc ms : Nat} {av : List Value} {S S1 : List bz_Sh} {M M1 : bz_Mm} (hy : plainName y.cls = true) (hi : y.name = "<init>") (hn : (lg_sl av).length ≤ maxL)
    (h : ∀ K : bz_K, bn_X K E b0 cc maxL y.cls fr lo mc ms → bn_Y K b0 mc ms S1 M1 → bn_J K b0 maxL 0 0 0 (lv_args 0 av) [] S M) : bn_Ct E b0 y (.code y cc maxL none) fr lo mc ms av S M S1 M1 := by
  obtain ⟨l, ad, cA, D, A⟩ := E
  refine Met.ofW (cc := cc) (maxL := maxL) (ret := none) hy rfl ?_
  intro p e s m args below meth c s₁ B hml hv
  obtain ⟨rfl, hsz, hP, hSf⟩ := hv
  have hts0 := atoms_spec (ws := .code y cc maxL none :: bz_T) B.pre
  have hl := lv_entry av (n := maxL) hn
  rw [lg_entry_eq]
  generalize (lg_sl av ++ List.replicate (maxL - (lg_sl av).length) Slot.unset).toArray = ls at hl ⊢
  refine h ((l, ad, cA, D, A), p, e, bn_rm fr lo mc ms, s, m, av.toArray, below, meth, c, MQ below (bn_Qc ad cA D A b0 S1 M1) av.toArray s mc ms A) ⟨rfl, B.exec, B.bytes, hml, findClass_of_methodNamed B.named, fun w hw => hts0 w (List.mem_cons_of_mem _ hw), hSf, rfl⟩ ⟨B.returns, B.notSynchronized, by rw [(name_of_methodNamed B.named B.method).1]; exact hi, rfl⟩ ls s.heap [] hl hsz hP va_S.rf
section BN
variable {K : bz_K} {E : bz_E} {b0 nL pc fr lo mc ms ce sl : Nat} {cc : ByteArray} {own : String} {S S1 S2 : List bz_Sh} {M M1 M2 : bz_Mm} {lv lv' : List (Nat × Value)} {st stk : List Value}
theorem n_aload_n (X : bn_X K E b0 cc nL own fr lo mc ms) {q : Fin 4} {i x : Nat} (hd : decode cc pc = .ok (.aload_n q, 1)) (hi : (q : Nat) = i) (n : Nat) (hk : lv[n]? = some (i, .ref x))
    (k : bn_J K b0 nL (pc + 1) ce sl lv (.ref x :: st) S M) : bn_J K b0 nL pc ce sl lv (st) S M := by
  obtain ⟨⟨l, ad, cA, D, A⟩, p, e, R, s, m, args, below, meth, c, Q⟩ := K
  obtain ⟨rfl, hx, hb, hml, hown, hts, hSf, rfl⟩ := X
  intro ls H locs hl hz hP hS
  exact lv_aload_n hx hb hd hi (lv_at hl n hk) (k ls H locs hl hz hP hS)
theorem n_iload_n (X : bn_X K E b0 cc nL own fr lo mc ms) {q : Fin 4} {i : Nat} {x : Int} (hd : decode cc pc = .ok (.iload_n q, 1)) (hi : (q : Nat) = i) (n : Nat) (hk : lv[n]? = some (i, bz_i x))
    (k : bn_J K b0 nL (pc + 1) ce sl lv (bz_i x :: st) S M) : bn_J K b0 nL pc ce sl lv (st) S M := by
  obtain ⟨⟨l, ad, cA, D, A⟩, p, e, R, s, m, args, below, meth, c, Q⟩ := K
  obtain ⟨rfl, hx, hb, hml, hown, hts, hSf, rfl⟩ := X
  intro ls H locs hl hz hP hS
  exact lv_iload_n hx hb hd hi (lv_at hl n hk) (k ls H locs hl hz hP hS)
theorem n_iconst (X : bn_X K E b0 cc nL own fr lo mc ms) {n : Int} (hd : decode cc pc = .ok (.iconst n, 1))
    (k : bn_J K b0 nL (pc + 1) ce sl lv (bz_i n :: st) S M) : bn_J K b0 nL pc ce sl lv (st) S M := by
  obtain ⟨⟨l, ad, cA, D, A⟩, p, e, R, s, m, args, below, meth, c, Q⟩ := K
  obtain ⟨rfl, hx, hb, hml, hown, hts, hSf, rfl⟩ := X
  intro ls H locs hl hz hP hS
  exact lv_iconst hx hb hd rfl (k ls H locs hl hz hP hS)
theorem n_bipush (X : bn_X K E b0 cc nL own fr lo mc ms) {n : Int} (hd : decode cc pc = .ok (.bipush n, 2)) (hv : (Int8.ofInt n).toInt32 = Int32.ofInt n)
    (k : bn_J K b0 nL (pc + 2) ce sl lv (bz_i n :: st) S M) : bn_J K b0 nL pc ce sl lv (st) S M := by
  obtain ⟨⟨l, ad, cA, D, A⟩, p, e, R, s, m, args, below, meth, c, Q⟩ := K
  obtain ⟨rfl, hx, hb, hml, hown, hts, hSf, rfl⟩ := X
  intro ls H locs hl hz hP hS
  exact lv_bipush hx hb hd hv (k ls H locs hl hz hP hS)
theorem n_sipush (X : bn_X K E b0 cc nL own fr lo mc ms) {n : Int} (hd : decode cc pc = .ok (.sipush n, 3)) (hv : (Int16.ofInt n).toInt32 = Int32.ofInt n)
    (k : bn_J K b0 nL (pc + 3) ce sl lv (bz_i n :: st) S M) : bn_J K b0 nL pc ce sl lv (st) S M := by
  obtain ⟨⟨l, ad, cA, D, A⟩, p, e, R, s, m, args, below, meth, c, Q⟩ := K
  obtain ⟨rfl, hx, hb, hml, hown, hts, hSf, rfl⟩ := X
  intro ls H locs hl hz hP hS
  exact lv_sipush hx hb hd hv (k ls H locs hl hz hP hS)
theorem n_dup (X : bn_X K E b0 cc nL own fr lo mc ms) {v : Value} (hd : decode cc pc = .ok (.dup, 1)) (hv : v.category = 1)
    (k : bn_J K b0 nL (pc + 1) ce sl lv (v :: v :: st) S M) : bn_J K b0 nL pc ce sl lv (v :: st) S M := by
  obtain ⟨⟨l, ad, cA, D, A⟩, p, e, R, s, m, args, below, meth, c, Q⟩ := K
  obtain ⟨rfl, hx, hb, hml, hown, hts, hSf, rfl⟩ := X
  intro ls H locs hl hz hP hS
  exact lv_dup hx hb hd hv (k ls H locs hl hz hP hS)
theorem n_obj (X : bn_X K E b0 cc nL own fr lo mc ms) {i a : Nat} (hlink : Cond.methodLink own i objectInit ∈ bz_T) (hinst : Cond.instanceMethod objectInit ∈ bz_T) (hcode : Cond.code objectInit ⟨#[0xb1]⟩ 1 none ∈ bz_T) (hd : decode cc pc = .ok (.invokespecial i, 3)) (hfr : 1 ≤ fr) (hlo : 20 ≤ lo) (hst : (st.map fun v => v.category).sum ≤ 8)
    (k : bn_J K b0 nL (pc + 3) ce sl lv st S M) : bn_J K b0 nL pc ce sl lv (.ref a :: st) S M := by
  obtain ⟨⟨l, ad, cA, D, A⟩, p, e, R, s, m, args, below, meth, c, Q⟩ := K
  obtain ⟨rfl, hx, hb, hml, hown, hts, hSf, rfl⟩ := X
  intro ls H locs hl hz hP hS
  have hr := lv_room (m := m) (pc := pc) (ls := ls) (rest := st) hst
  refine W.objInit hx hb hown (hts _ hlink) (hts _ hinst) (hts _ hcode) rfl (by rw [hml]; exact hl.1) rfl hd hfr ?_ (k ls H locs hl hz hP hS)
  show 2 * (F0 m pc ls (.ref a :: st)).monitorRoom + _ + 12 ≤ lo
  have e : (F0 m pc ls (.ref a :: st)).monitorRoom = (F0 m pc ls st).monitorRoom := rfl
  rw [e]
  omega
theorem n_newa (X : bn_X K E b0 cc nL own fr lo mc ms) {aty : ArrayType} {ty : FieldType} {t n : Nat} {z : Int} (hty : newarray.typeOf aty = ty) (hT : ∀ cA, (bz_tys cA)[t]? = some (cA t, ty)) (hv : ∀ (ad : Nat → Nat) (c : ClassId), vp_cell c (n, bz_arr ad t 0 (fun _ => 0)) = arrV c n (fun _ => defaultValue ty)) (hR : ∀ (U : State) (c d : ClassId), va_RA U c ty → U.vm.findClass ("[" ++ ty.toString) = some d → c = d) (hw : Cond.arrayClass ty ∈ bz_T) (hzn : Int32.ofInt z = nI n) (hn : n < 2 ^ 31) (hby : n * componentBytes ty ≤ 536870912) (hM : ∀ j, M (bn_id S.length) j = 0) (hc : ce + 1 ≤ mc) (hs : sl + n ≤ ms) (hd : decode cc pc = .ok (.newarray aty, 2))
    (k : bn_J K b0 nL (pc + 2) (ce + 1) (sl + n) lv (.ref (b0 + S.length) :: st) (S ++ [.inl (t, n, 0)]) M) : bn_J K b0 nL pc ce sl lv (bz_i z :: st) S M := by
  obtain ⟨⟨l, ad, cA, D, A⟩, p, e, R, s, m, args, below, meth, c, Q⟩ := K
  obtain ⟨rfl, hx, hb, hml, hown, hts, hSf, rfl⟩ := X
  intro ls H locs hl hz hP hS
  subst hty
  show W p l e _ s m args below meth c H locs ce sl Q (F0 m pc ls (.int (Int32.ofInt z) :: st))
  rw [hzn]
  refine va_newaK hx hb (hts _ hw) rfl hd rfl (nI_pos hn) (nI_clamp hn) hby hc hs hz fun H1 cB e1 z1 o1 hAr hNm => ?_
  have hcc : cA t = cB := hR s _ _ (hSf.1.2 t _ (hT cA)).2 hNm
  subst hcc
  refine k ls H1 locs hl (by rw [z1, List.length_append]; simp; omega) ?_ ⟨Nat.le_trans hS.1 (by omega), fun x h1 h2 => (o1 x (by have := hS.1; omega)).trans (hS.2.1 x h1 h2), hS.2.2⟩
  rw [bn_app]
  refine (hP.kept (fun k9 x hx9 => o1 x.1 ?_)).app (fun k9 x hx9 => ?_)
  · have := (hP k9 x hx9).lt
    omega
  · have h0 : k9 < 1 := (List.getElem?_eq_some_iff.mp hx9).1
    rw [show k9 = 0 by omega] at hx9
    cases hx9
    show H1[b0 + S.length]? = some (vp_cell (cA t) (n, bz_arr ad t 0 (M (bn_id S.length))))
    rw [show M (bn_id S.length) = fun _ => 0 from funext hM, hv ad (cA t)]
    exact e1
theorem n_new (X : bn_X K E b0 cc nL own fr lo mc ms) {C : String} {T : u_T} {N ci i : Nat} {fs : List (Nat × Nat)} (hin : ∀ w ∈ u_ws C T N, w ∈ bz_T) (ty : Nat → FieldType) (hty : ∀ k, k < N → parseFieldDescriptor (T k).2.2.1 = some (ty k)) (hcl : Cond.classLink own i C ∈ bz_T) (hinst : Cond.instantiable C N ∈ bz_T) (hini : Cond.initialized C ∈ bz_T) (hc9 : bz_cls[ci]? = some (C, T, N)) (hfs : ∀ j, j < N → (fs[j]? = some (5, 0) ∧ defaultValue (ty j) = .null) ∨ ((fs[j]? = some (0, 0) ∨ fs[j]? = some (2, 0)) ∧ defaultValue (ty j) = .int 0)) (hM : ∀ j, M (bn_id S.length) j = 0) (hc : ce + 1 ≤ mc) (hs : sl + N ≤ ms) (hd : decode cc pc = .ok (.new i, 3))
    (k : bn_J K b0 nL (pc + 3) (ce + 1) (sl + N) lv (.ref (b0 + S.length) :: st) (S ++ [.inr (ci, fs)]) M) : bn_J K b0 nL pc ce sl lv st S M := by
  obtain ⟨⟨l, ad, cA, D, A⟩, p, e, R, s, m, args, below, meth, c, Q⟩ := K
  obtain ⟨rfl, hx, hb, hml, hown, hts, hSf, rfl⟩ := X
  intro ls H locs hl hz hP hS
  have hKn := hSf.1.1 ci _ hc9
  refine W.newcK hx hb hown (hts _ hcl) (hts _ hinst) (hts _ hini) rfl hd hc hs hKn.2.1 hz fun H1 kC hkC e1 z1 o1 => ?_
  refine k ls H1 locs hl (by rw [z1, List.length_append]; simp; omega) ?_ ⟨Nat.le_trans hS.1 (by omega), fun x h1 h2 => (o1 x (by have := hS.1; omega)).trans (hS.2.1 x h1 h2), hS.2.2⟩
  rw [bn_app]
  refine (hP.kept (fun k9 x hx9 => o1 x.1 ?_)).app (fun k9 x hx9 => ?_)
  · have := (hP k9 x hx9).lt
    omega
  · have h0 : k9 < 1 := (List.getElem?_eq_some_iff.mp hx9).1
    rw [show k9 = 0 by omega] at hx9
    cases hx9
    refine ⟨_, hc9, (u_born ty hts hin hKn hkC e1 hty).to (fun j hj => ?_)⟩
    show defaultValue (ty j) = vp_V (fs.mapIdx (fun j kt => bn_val ad kt (M (bn_id S.length) j))) j
    unfold vp_V
    rw [List.getD_eq_getElem?_getD, List.getElem?_mapIdx]
    rcases hfs j hj with ⟨a1, a2⟩ | ⟨a1 | a1, a2⟩ <;> rw [a1, a2] <;> simp [bn_val, bz_val, hM]
theorem n_puta (X : bn_X K E b0 cc nL own fr lo mc ms) (Y : bn_Y K b0 mc ms S1 M1) {ci kf : Nat} {C : String} {T : u_T} {N i a : Nat} {fs : List (Nat × Nat)} (hin : ∀ w ∈ u_ws C T N, w ∈ bz_T) (ty0 : Nat → FieldType) (hty : ∀ k, k < N → parseFieldDescriptor (T k).2.2.1 = some (ty0 k)) (hnm : ∀ a, a < N → ∀ b, b < N → a ≠ b → (T a).2.1 ≠ (T b).2.1) (hc9 : bz_cls[ci]? = some (C, T, N)) (hs9 : S[a]? = some (.inr (ci, fs))) (hk9 : kf < N) (hlk : Cond.fieldLink own i (T kf).1 (T kf).2.1 (T kf).2.2.1 ∈ bz_T) {t : Nat} {v : Nat} (hf : fs[kf]? = some (5, 0)) (hfin : (T kf).2.2.2 = true) (hdecl : (T kf).1 = own) (hv : E.2.1 t = v) (hn : narrow (ty0 kf) (.ref v) = .ref v) (hft : fits (ty0 kf) (.ref v) = true) (hd : decode cc pc = .ok (.putfield i, 3))
    (k : bn_J K b0 nL (pc + 3) ce sl lv st (S.set a (.inr (ci, fs.set kf (4, t)))) M) : bn_J K b0 nL pc ce sl lv (.ref v :: .ref (b0 + a) :: st) S M := by
  obtain ⟨⟨l, ad, cA, D, A⟩, p, e, R, s, m, args, below, meth, c, Q⟩ := K
  obtain ⟨y1, y2, y3, y4⟩ := Y
  obtain ⟨rfl, hx, hb, hml, hown, hts, hSf, rfl⟩ := X
  intro ls H locs hl hz hP hS
  have hap := va_apart (own := own) hts hin ty0 hty hnm hSf.1 hc9
  obtain ⟨r, h1, cell, q1, q2, q3, q4⟩ := hP a _ (bn_get hs9)
  have hr : r = (C, T, N) := Option.some.inj (h1.symm.trans hc9)
  subst hr
  obtain ⟨hSl, hfc, kC, hkC, hkind⟩ := hSf.1.1 ci _ hc9
  obtain ⟨cf, kg, fi, f, hi, hsl⟩ := hSl kf hk9
  have hlay := hts _ (hin _ (u_in_lay hk9))
  have hst := (u_facts hfc hkC (u_lays hts hin hk9) hi).1
  unfold u_lay at hlay
  rw [if_pos hfin] at hlay
  have hcf : m.cls = cf := by
    obtain ⟨_, _, c', _, _, _, -, -, hf', -, -, -, hown2, -⟩ := Cond.laysFinal_spec hlay
    have e1 : c' = cf := by have := hi.symm.trans hf'; simp at this; exact this.1.symm
    rw [hdecl] at hown2
    rw [← e1]; exact Option.some.inj (hown.symm.trans hown2)
  have h6 := u_fits hfc hkC hkind (Or.inr hlay) hi (hty kf hk9) hn hft
  have hlq : kf < fs.length := (List.getElem?_eq_some_iff.mp hf).1
  refine W.putFinK hx hb hown (hts _ hlk) hi hst hcf y3 (by rw [q2]; exact h6) q1 q3 (by rw [hsl]; exact k2_hasslot (q4 kf hk9)) rfl rfl hd fun H' e1 e2 e3 => ?_
  rw [hsl] at e1 ⊢
  have hP1 := hP.set (e := .inr (ci, (fs.mapIdx (fun j kt => bn_val ad kt (M (bn_id a) j))).set kf (.ref v))) (H1 := H') (bn_D hSf.2.1) (bn_get hs9) ⟨_, hc9, t_OB.to (V := updV (vp_V (fs.mapIdx (fun j kt => bn_val ad kt (M (bn_id a) j)))) kf (.ref v)) ⟨_, e1, q2, q3, t_set q4 hap hk9 (.ref v)⟩ (fun j _ => vp_updV_set (by rw [List.length_mapIdx]; exact hlq) (.ref v) j)⟩ e3
  refine k ls H' _ hl (by rw [e2, List.length_set]; exact hz) ?_ (hS.put e2 e3 (hSf.2.1 _ (Nat.le_add_right _ _)))
  have e9 : (fs.mapIdx (fun j kt => bn_val ad kt (M (bn_id a) j))).set kf (.ref v) = (fs.set kf (4, t)).mapIdx (fun j kt => bn_val ad kt (M (bn_id a) j)) := by
    apply List.ext_getElem?
    intro q
    rw [List.getElem?_mapIdx]
    by_cases hq : q = kf
    · subst hq
      rw [List.getElem?_set_self (by rw [List.length_mapIdx]; exact hlq), List.getElem?_set_self hlq]
      have : ad t = v := hv
      simp [bn_val, bz_val, this]
    · rw [List.getElem?_set_ne (fun z => hq z.symm), List.getElem?_set_ne (fun z => hq z.symm), List.getElem?_mapIdx]
  rw [e9] at hP1
  rw [← bn_setS]
  exact hP1
theorem n_puti (X : bn_X K E b0 cc nL own fr lo mc ms) {ci kf : Nat} {C : String} {T : u_T} {N i a : Nat} {fs : List (Nat × Nat)} (hin : ∀ w ∈ u_ws C T N, w ∈ bz_T) (ty0 : Nat → FieldType) (hty : ∀ k, k < N → parseFieldDescriptor (T k).2.2.1 = some (ty0 k)) (hnm : ∀ a, a < N → ∀ b, b < N → a ≠ b → (T a).2.1 ≠ (T b).2.1) (hc9 : bz_cls[ci]? = some (C, T, N)) (hs9 : S[a]? = some (.inr (ci, fs))) (hk9 : kf < N) (hlk : Cond.fieldLink own i (T kf).1 (T kf).2.1 (T kf).2.2.1 ∈ bz_T) {v : Int} (hl3 : S.length ≤ 300) (hf : fs[kf]? = some (0, 0)) (hfin : (T kf).2.2.2 = false) (hi9 : ty0 kf = .int) (hd : decode cc pc = .ok (.putfield i, 3))
    (k : bn_J K b0 nL (pc + 3) ce sl lv st S (st_ M (bn_id a) kf v)) : bn_J K b0 nL pc ce sl lv (bz_i v :: .ref (b0 + a) :: st) S M := by
  obtain ⟨⟨l, ad, cA, D, A⟩, p, e, R, s, m, args, below, meth, c, Q⟩ := K
  obtain ⟨rfl, hx, hb, hml, hown, hts, hSf, rfl⟩ := X
  intro ls H locs hl hz hP hS
  have hap := va_apart (own := own) hts hin ty0 hty hnm hSf.1 hc9
  obtain ⟨r, h1, cell, q1, q2, q3, q4⟩ := hP a _ (bn_get hs9)
  have hr : r = (C, T, N) := Option.some.inj (h1.symm.trans hc9)
  subst hr
  obtain ⟨hSl, hfc, kC, hkC, hkind⟩ := hSf.1.1 ci _ hc9
  obtain ⟨cf, kg, fi, f, hi, hsl⟩ := hSl kf hk9
  have hlay := hts _ (hin _ (u_in_lay hk9))
  have hst := (u_facts hfc hkC (u_lays hts hin hk9) hi).1
  unfold u_lay at hlay
  rw [if_neg (by rw [hfin]; decide)] at hlay
  have h6 := u_store (v := bz_i v) hfc hkC hkind hlay hi (hty kf hk9) (by rw [hi9]; rfl) (by rw [hi9]; rfl)
  have hlq : kf < fs.length := (List.getElem?_eq_some_iff.mp hf).1
  refine W.putK hx hb (f := f) ⟨hown, hts _ hlk, ⟨_, _, _, hi⟩, hst⟩ (by rw [q2]; exact h6) q1 q3 (by rw [hsl]; exact k2_hasslot (q4 kf hk9)) rfl rfl hd fun H' e1 e2 e3 => ?_
  rw [hsl] at e1 ⊢
  have hP1 := hP.set (e := .inr (ci, (fs.mapIdx (fun j kt => bn_val ad kt (M (bn_id a) j))).set kf (bz_i v))) (H1 := H') (bn_D hSf.2.1) (bn_get hs9) ⟨_, hc9, t_OB.to (V := updV (vp_V (fs.mapIdx (fun j kt => bn_val ad kt (M (bn_id a) j)))) kf (bz_i v)) ⟨_, e1, q2, q3, t_set q4 hap hk9 (bz_i v)⟩ (fun j _ => vp_updV_set (by rw [List.length_mapIdx]; exact hlq) (bz_i v) j)⟩ e3
  refine k ls H' _ hl (by rw [e2]; exact hz) ?_ (hS.put e2 e3 (hSf.2.1 _ (Nat.le_add_right _ _)))
  have e9 : (fs.mapIdx (fun j kt => bn_val ad kt (M (bn_id a) j))).set kf (bz_i v) = fs.mapIdx (fun j kt => bn_val ad kt (ud (M (bn_id a)) kf v j)) := by
    apply List.ext_getElem?
    intro q
    rw [List.getElem?_mapIdx]
    by_cases hq : q = kf
    · subst hq
      rw [List.getElem?_set_self (by rw [List.length_mapIdx]; exact hlq), hf]
      simp [bn_val, bz_val, ud]
    · rw [List.getElem?_set_ne (fun z => hq z.symm), List.getElem?_mapIdx]
      simp [ud, hq]
  rw [e9] at hP1
  rw [← bn_setM hs9 hl3]
  exact hP1
theorem n_iast (X : bn_X K E b0 cc nL own fr lo mc ms) {a n b : Nat} {j v : Int} (hl3 : S.length ≤ 300) (hs9 : S[a]? = some (.inl (0, n, b))) (hj : 0 ≤ w32 j ∧ w32 j < n) (hd : decode cc pc = .ok (.iastore, 1))
    (k : bn_J K b0 nL (pc + 1) ce sl lv st S (st_ M (bn_id a) (w32 j).toNat v)) : bn_J K b0 nL pc ce sl lv (bz_i v :: bz_i j :: .ref (b0 + a) :: st) S M := by
  obtain ⟨⟨l, ad, cA, D, A⟩, p, e, R, s, m, args, below, meth, c, Q⟩ := K
  obtain ⟨rfl, hx, hb, hml, hown, hts, hSf, rfl⟩ := X
  intro ls H locs hl hz hP hS
  have hc := hP a _ (bn_get hs9)
  refine W.iast hx hb hc ((hSf.1.2 0 _ rfl).1 n (fun q => .int (Int32.ofInt (M (bn_id a) q)))) (fun q => by cases q) (by show ¬ (_ ∨ (arrV _ _ _).slots.size ≤ _); rw [arrV_size]; exact bz_vp hj) rfl rfl hd fun H1 e z oq => ?_
  refine k ls H1 _ hl (by rw [z]; exact hz) ?_ (hS.put z oq (hSf.2.1 _ (Nat.le_add_right _ _)))
  rw [← bn_setM hs9 hl3]
  refine hP.set (bn_D hSf.2.1) (bn_get hs9) ?_ oq
  show H1[b0 + a]? = some (vp_cell _ _)
  rw [e]
  have e5 : bz_arr ad 0 b (ud (M (bn_id a)) (w32 j).toNat v) = .inl (upd (fun q => Int32.ofInt (M (bn_id a) q)) (w32 j).toNat (Int32.ofInt v)) := by rw [bz_u32]; rfl
  rw [e5, bz_cl]
  show some ((vp_cell (cA 0) (n, .inl (fun q => Int32.ofInt (M (bn_id a) q)))).setSlot _ _) = _
  rw [vp_cell_i, vp_cell_i, arrV_store]
  congr 2
  funext q
  by_cases hq : q = (w32 j).toNat
  · subst hq
    simp [updV, upd]
  · simp [updV, upd, hq]
theorem n_ret (X : bn_X K E b0 cc nL own fr lo mc ms) (Y : bn_Y K b0 mc ms S M) (hc : ce = mc) (hs : sl = ms) (hd : decode cc pc = .ok (.return_, 1)) : bn_J K b0 nL pc ce sl lv [] S M := by
  obtain ⟨⟨l, ad, cA, D, A⟩, p, e, R, s, m, args, below, meth, c, Q⟩ := K
  obtain ⟨y1, y2, y3, y4⟩ := Y
  obtain ⟨rfl, hx, hb, hml, hown, hts, hSf, rfl⟩ := X
  intro ls H locs hl hz hP hS
  subst hc; subst hs; subst y4
  exact W.vret hx hb y1 (fun t ht _ => ⟨rfl, by rw [ht]; exact hz, by rw [ht]; exact hP, hS.F ht⟩) hS.2.2 hd y2
theorem bn_blind {ad : Nat → Nat} {cA : Nat → ClassId} {D : va_G} {A : Nat → Prop} {b0 : Nat} {av : List Value} {S : List bz_Sh} {M : bz_Mm} : FrameBlind (bn_Pc ad cA D A b0 av S M) := by
  intro a U g mk h
  obtain ⟨h1, h2, h3, h4, h5, h6, h7, h8, h9⟩ := h
  refine ⟨h1, h2, h3, h4.moved (Vm.Alike.refl U.vm), h5, fun w hw => ?_, ?_, h8, fun ty ht => bn_aog (Vm.Alike.refl U.vm) (h9 ty ht)⟩
  · have hz := h6 w hw
    have h7 : bz_isN w = true := (List.mem_filter.mp hw).2
    cases w <;> first | exact va_Nw.same rfl (rfl : U.vm = (U.calling g mk a).vm) hz | (simp [bz_isN] at h7)
  · obtain ⟨q1, q2, q3, q4, q5, v, q6, q7⟩ := h7
    have hv := Vm.Alike.refl U.vm
    refine ⟨fun i hi => ?_, fun q hq => vk_R.same rfl (q2 q hq), q3.moved hv, q4.moved hv, q5.moved hv, v, q6, q7.moved hv⟩
    obtain ⟨a1, a2, a3, a4⟩ := q1 i hi
    exact ⟨a1.moved hv, a2.moved hv, a3.moved hv, a4.moved hv⟩
theorem bn_ran {l : Launch} {ad : Nat → Nat} {cA : Nat → ClassId} {D : va_G} {A : Nat → Prop} {p : Program} {e : Env} {R : Room} {s : State} {m : MethodId} {args : Array Value} {below : List Frame} {meth : Method} {c : Code} {H : Heap} {locs : List Loc} {Q : State → Prop} {ls : Array Slot} {a : Array Value} {cm sm : Nat}
    (hr : va_Run p l e R s m args below meth c H locs ce sl cm sm (F0 m pc ls stk) st (bn_Qc ad cA D A b0 S2 M2 a) A) (hS : va_S A s.heap H locs)
    (kk : ∀ (H1 : Heap) (locs1 : List Loc), H1.size = b0 + S2.length → va_P D bz_cls (bn_ws ad cA b0 S2 M2) H1 → va_S A s.heap H1 locs1 → W p l e R s m args below meth c H1 locs1 (ce + cm) (sl + sm) Q (F0 m (pc + 3) ls st)) : W p l e R s m args below meth c H locs ce sl Q (F0 m pc ls stk) := by
  intro T hT X
  obtain ⟨v, st₀, t, T', L, h0, X', hL, e1, e2, ⟨hv, hq, hp, hz, hk⟩, go⟩ := hr T hT X
  cases hv
  rw [h0] at hz hk
  obtain ⟨t2, a1, b1⟩ := kk T'.heap (locs ++ L) (by rw [e1]; exact hq) (by rw [e1]; exact hp)
    ⟨Nat.le_trans hS.1 (by rw [e1]; exact hz), fun q h1 h2 => by rw [e1, hk q (Nat.lt_of_lt_of_le h1 hS.1) h2]; exact hS.2.1 q h1 h2, fun q hq => by
      rcases List.mem_append.mp hq with h | h
      · exact hS.2.2 q h
      · exact hL q h⟩ T' rfl X'
  exact ⟨t2, go t2 a1, b1⟩
theorem n_ci (X : bn_X K E b0 cc nL own fr lo mc ms) {y : MethodName} {bytes : ByteArray} {maxL : Nat} {fr2 lo2 cm sm i a n : Nat} {As : List Value} (hM : bn_Ct E b0 y (.code y bytes maxL none) fr2 lo2 cm sm (.ref a :: As) S M S2 M2) (hy : bz_Gy y bytes maxL none n) (hin : y.name = "<init>") (hinst : Cond.instanceMethod y ∈ bz_T) (hn : As.length = n) (hfr : fr2 + 1 ≤ fr) (hlo : 8 + (maxL + 11) + lo2 ≤ lo) (hlink : Cond.methodLink own i y ∈ bz_T)
    (hstk : As.reverse ++ .ref a :: st = stk) (hst : (st.map fun v => v.category).sum ≤ 8) (hc : ce + cm ≤ mc) (hs : sl + sm ≤ ms) (hd : decode cc pc = .ok (.invokespecial i, 3))
    (k : bn_J K b0 nL (pc + 3) (ce + cm) (sl + sm) lv st S2 M2) : bn_J K b0 nL pc ce sl lv stk S M := by
  obtain ⟨⟨l, ad, cA, D, A⟩, p, e, R, s, m, args, below, meth, c, Q⟩ := K
  obtain ⟨rfl, hx, hb, hml, hown, hts, hSf, rfl⟩ := X
  intro ls H locs hl hz hP hS
  subst hstk; subst hn
  obtain ⟨c1, c2, c3, c4⟩ := hy
  refine bn_ran (va_runI ⟨hx, hb, hml, hown, hts⟩ hM ⟨⟨rfl, rfl, hfr, hlo, ?_, List.mem_cons_self, hts _ c1, hts _ c2, c3, ?_, hts _ hlink⟩, hin, hts _ hinst⟩ ⟨bn_blind, fun U hU hW => ⟨rfl, by rw [hU]; exact hz, by rw [hU]; exact hP, hSf.go hW hS hU⟩⟩ rfl rfl hl.1 rfl (lv_room hst) hd ⟨hc, hs⟩) hS (fun H1 locs1 hz1 hP1 hS1 => k ls H1 locs1 hl hz1 hP1 hS1)
  · intro w hw a' U hW
    rcases List.mem_cons.mp hw with h | h
    · rw [h]; exact pay_in hts bz_goodT _ c1 a' U hW
    · exact pay_in hts bz_goodT _ h a' U hW
  · intro sig h
    rw [h] at c4
    exact (Option.some.inj c4).symm
theorem n_cin (X : bn_X K E b0 cc nL own fr lo mc ms) {y : MethodName} {bytes : ByteArray} {maxL : Nat} {fr2 lo2 cm sm i a n : Nat} {host : String} {As : List Value} (hM : bn_Ct E b0 y (.code y bytes maxL none) fr2 lo2 cm sm (.ref a :: As) S M S2 M2) (hy : bz_Gy y bytes maxL none n) (hin : y.name = "<init>") (hinst : Cond.instanceMethod y ∈ bz_T) (hn : As.length = n) (hfr : fr2 + 1 ≤ fr) (hlo : 8 + (maxL + 11) + lo2 ≤ lo) (hlink : Cond.methodLinkNest own i y host ∈ bz_NL)
    (hstk : As.reverse ++ .ref a :: st = stk) (hst : (st.map fun v => v.category).sum ≤ 8) (hc : ce + cm ≤ mc) (hs : sl + sm ≤ ms) (hd : decode cc pc = .ok (.invokespecial i, 3))
    (k : bn_J K b0 nL (pc + 3) (ce + cm) (sl + sm) lv st S2 M2) : bn_J K b0 nL pc ce sl lv stk S M := by
  obtain ⟨⟨l, ad, cA, D, A⟩, p, e, R, s, m, args, below, meth, c, Q⟩ := K
  obtain ⟨rfl, hx, hb, hml, hown, hts, hSf, rfl⟩ := X
  intro ls H locs hl hz hP hS
  subst hstk; subst hn
  obtain ⟨c1, c2, c3, c4⟩ := hy
  refine bn_ran (va_runIN (host := host) ⟨hx, hb, hml, hown, hts⟩ hM ⟨⟨⟨rfl, rfl, hfr, hlo, ?_, List.mem_cons_self⟩, hts _ c1, hts _ c2, c3, ?_, va_Nw.use rfl (hSf.2.2.1 _ hlink)⟩, hin, hts _ hinst⟩ ⟨bn_blind, fun U hU hW => ⟨rfl, by rw [hU]; exact hz, by rw [hU]; exact hP, hSf.go hW hS hU⟩⟩ rfl rfl hl.1 rfl (lv_room hst) hd ⟨hc, hs⟩) hS (fun H1 locs1 hz1 hP1 hS1 => k ls H1 locs1 hl hz1 hP1 hS1)
  · intro w hw a' U hW
    rcases List.mem_cons.mp hw with h | h
    · rw [h]; exact pay_in hts bz_goodT _ c1 a' U hW
    · exact pay_in hts bz_goodT _ h a' U hW
  · intro sig h
    rw [h] at c4
    exact (Option.some.inj c4).symm
end BN
