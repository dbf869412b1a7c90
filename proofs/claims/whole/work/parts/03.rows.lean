/-! string constants and statics: by places behind the world's -/
def bz_str : List (List Int32) := [[102, 117, 110, 100], [104, 111, 117, 115, 101], [112, 111, 111, 114], [102, 101, 101], [115, 119, 105, 110, 103], [111, 118, 101, 114], [99, 117, 116], [101, 114, 114, 111, 114], [98, 101, 121, 111, 110, 100], [108, 101, 97, 115, 116], [116, 111], [103, 97, 105, 110, 115], [103, 111, 110, 101], [100, 97, 121, 115], [116, 97, 120], [114, 101, 112, 111, 114, 116], [115, 116, 97, 121], [98, 97, 99, 107]]
def bz_rs : List (String × Nat × String × Nat) := [("UnitsWrong$Text", 101, "report", 15), ("UnitsWrong$Text", 103, "stay", 16), ("UnitsWrong$Text", 105, "back", 17), ("UnitsWrong$Text", 107, "house", 1), ("UnitsWrong$Text", 109, "poor", 2), ("UnitsWrong$Text", 41, "fund", 0), ("UnitsWrong$Text", 65, "fee", 3), ("UnitsWrong$Text", 67, "swing", 4), ("UnitsWrong$Text", 69, "over", 5), ("UnitsWrong$Text", 75, "cut", 6), ("UnitsWrong$Text", 77, "error", 7), ("UnitsWrong$Text", 79, "beyond", 8), ("UnitsWrong$Text", 81, "least", 9), ("UnitsWrong$Text", 84, "to", 10), ("UnitsWrong$Text", 90, "gains", 11), ("UnitsWrong$Text", 95, "gone", 12), ("UnitsWrong$Text", 97, "days", 13), ("UnitsWrong$Text", 99, "tax", 14), ("UnitsWrongModel", 113, "fund", 0), ("UnitsWrongModel", 115, "house", 1), ("UnitsWrongModel", 117, "poor", 2), ("UnitsWrongModel", 355, "fee", 3), ("UnitsWrongModel", 366, "swing", 4), ("UnitsWrongModel", 368, "over", 5), ("UnitsWrongModel", 374, "cut", 6), ("UnitsWrongModel", 376, "error", 7), ("UnitsWrongModel", 378, "beyond", 8), ("UnitsWrongModel", 380, "least", 9), ("UnitsWrongModel", 383, "to", 10), ("UnitsWrongModel", 388, "gains", 11), ("UnitsWrongModel", 392, "gone", 12), ("UnitsWrongModel", 394, "days", 13), ("UnitsWrongModel", 396, "tax", 14), ("UnitsWrongModel", 398, "report", 15), ("UnitsWrongModel", 400, "stay", 16), ("UnitsWrongModel", 402, "back", 17)]
def bz_wo : List Int := [0, 0, 10000, 24, 0, 0, 0, -1, 300, 0, 0, 0]
def bz_Es (ad : Nat → Nat) (A : Nat → Prop) (U : State) (H : Heap) : Prop :=
  (∀ i : Nat, i < 18 → va_O "java/lang/String" (ad (900 + i)) A U H ∧ va_OF "java/lang/String" "coder" "B" (.int 0) (ad (900 + i)) A U H ∧ va_OF "java/lang/String" "value" "[B" (.ref (ad (950 + i))) (ad (900 + i)) A U H ∧ va_T .byte (ad (950 + i)) (bz_str.getD i []).length (fun j => .int ((bz_str.getD i []).getD j 0)) A U H) ∧
  (∀ q ∈ bz_rs, vk_R q.1 q.2.1 q.2.2.1 (ad (900 + q.2.2.2)) U) ∧
  va_Z "UnitsWrong$Laws" "WITHOUT" "[I" (.ref (ad 990)) A U H ∧ va_T .int (ad 990) 12 (fun j => bz_i (bz_wo.getD j 0)) A U H ∧ va_Z "java/lang/String" "COMPACT_STRINGS" "Z" (.int 1) A U H ∧ ∃ v : Value, v.category = 1 ∧ va_Z "jdk/internal/util/Preconditions" "SIOOBE_FORMATTER" "Ljava/util/function/BiFunction;" v A U H
theorem bz_Es.go {ad : Nat → Nat} {A : Nat → Prop} {s U : State} {H H1 : Heap} (h : bz_Es ad A s H) (hW : s.WarmedH U.vm) (hq : ∀ a : Nat, a < H.size → ¬ A a → H1[a]? = H[a]?) : bz_Es ad A U H1 := by
  obtain ⟨h1, h2, h3, h4, h5, v, h6, h7⟩ := h
  have hv := hW.alike
  refine ⟨fun i hi => ?_, fun q hq => vk_R.warm hW (h2 q hq), (h3.moved hv).kept hq, (h4.moved hv).kept hq, (h5.moved hv).kept hq, v, h6, (h7.moved hv).kept hq⟩
  obtain ⟨a1, a2, a3, a4⟩ := h1 i hi
  exact ⟨(a1.moved hv).kept hq, (a2.moved hv).kept hq, (a3.moved hv).kept hq, (a4.moved hv).kept hq⟩
/-- what holds of every state: tables, constants -/
def bz_Sf (ad : Nat → Nat) (cA : Nat → ClassId) (D : va_G) (A : Nat → Prop) (U : State) : Prop := va_K D bz_cls (bz_tys cA) U ∧ bz_Ad ad A ∧ (∀ w ∈ bz_NL, va_Nw w U) ∧ bz_Es ad A U U.heap
theorem bz_NL_go {s U : State} (hW : s.WarmedH U.vm) (h : ∀ w ∈ bz_NL, va_Nw w s) : ∀ w ∈ bz_NL, va_Nw w U := by
  intro w hw
  have h1 := h w hw
  have h2 : bz_isN w = true := (List.mem_filter.mp hw).2
  cases w <;> first | exact absurd h2 (by decide) | exact va_Nw.warmM hW h1 | (simp [bz_isN] at h2)
theorem bz_Sf.go {ad : Nat → Nat} {cA : Nat → ClassId} {D : va_G} {A : Nat → Prop} {s U : State} {H : Heap} {locs : List Loc} (h : bz_Sf ad cA D A s) (hW : s.WarmedH U.vm) (hS : va_S A s.heap H locs) (hU : U.heap = H) : bz_Sf ad cA D A U := by
  obtain ⟨h1, h2, h3, h4⟩ := h
  exact ⟨h1.moved hW.alike, h2, bz_NL_go hW h3, h4.go hW (fun a x y => by rw [hU]; exact hS.2.1 a x y)⟩
/-- a method's start and end over the store -/
def bz_Pc (ad : Nat → Nat) (cA : Nat → ClassId) (D : va_G) (A : Nat → Prop) (av : List Value) (M : bz_Mm) : Array Value → State → Prop := fun v U => v = av.toArray ∧ va_P D bz_cls (bz_ws ad cA M) U.heap ∧ bz_Sf ad cA D A U
def bz_Qc (ad : Nat → Nat) (cA : Nat → ClassId) (D : va_G) (A : Nat → Prop) (rv : Option Value) (M : bz_Mm) : Array Value → State → Outcome → State → Prop := fun _ st o t => o = .returned rv ∧ va_P D bz_cls (bz_ws ad cA M) t.heap ∧ va_F A st t
def bz_rm (fr lo : Nat) : Room := { frames := fr, cells := 0, slots := 0, locals := lo }
abbrev bz_E : Type := Launch × (Nat → Nat) × (Nat → ClassId) × va_G × (Nat → Prop)
/-- a method's contract over the store: with these values and this memory it returns that, and the memory is that -/
def bz_Ct (E : bz_E) (y : MethodName) (cw : Cond) (fr lo : Nat) (av : List Value) (M : bz_Mm) (rv : Option Value) (M1 : bz_Mm) : Prop :=
  Met E.1 y (cw :: bz_T) (bz_rm fr lo) (bz_Pc E.2.1 E.2.2.1 E.2.2.2.1 E.2.2.2.2 av M) (bz_Qc E.2.1 E.2.2.1 E.2.2.2.1 E.2.2.2.2 rv M1) 0 0 E.2.2.2.2
abbrev bz_K : Type := bz_E × Program × Env × Room × State × MethodId × Array Value × List Frame × Method × Code × (State → Prop)
def bz_J (K : bz_K) (nL pc : Nat) (lv : List (Nat × Value)) (st : List Value) (M : bz_Mm) : Prop := match K with
  | ((l, ad, cA, D, A), p, e, R, s, m, args, below, meth, c, Q) => ∀ (ls : Array Slot) (H : Heap) (locs : List Loc), lv_has ls nL lv → va_P D bz_cls (bz_ws ad cA M) H → va_S A s.heap H locs → W p l e R s m args below meth c H locs 0 0 Q (F0 m pc ls st)
/-- what a method's walk knows all along -/
def bz_X (K : bz_K) (E : bz_E) (cc : ByteArray) (nL : Nat) (own : String) (ret : Option FieldType) (fr lo : Nat) (rv : Option Value) (M1 : bz_Mm) : Prop := K.1 = E ∧ match K with
  | ((_, ad, cA, D, A), p, _, R, s, m, args, below, meth, c, Q) => p.tables.exec = Jvm.exec ∧ c.code = cc ∧ c.maxLocals = nL ∧ meth.sig.returnType = ret ∧ meth.locks = false ∧ s.vm.findClass own = some m.cls ∧ (∀ w ∈ bz_T, w.before args s = true) ∧ bz_Sf ad cA D A s ∧ R = bz_rm fr lo ∧ Q = MQ below (bz_Qc ad cA D A rv M1) args s 0 0 A
abbrev bz_rf (E : bz_E) (a : Nat) : Value := .ref (E.2.1 a)
theorem bz_met {E : bz_E} {y : MethodName} {cc : ByteArray} {maxL : Nat} {ret : Option FieldType} {fr lo : Nat} {av : List Value} {M : bz_Mm} {rv : Option Value} {M1 : bz_Mm} (hy : plainName y.cls = true) (hn : (lg_sl av).length ≤ maxL)
    (h : ∀ K : bz_K, bz_X K E cc maxL y.cls ret fr lo rv M1 → bz_J K maxL 0 (lv_args 0 av) [] M) : bz_Ct E y (.code y cc maxL ret) fr lo av M rv M1 := by
  obtain ⟨l, ad, cA, D, A⟩ := E
  refine Met.ofW (cc := cc) (maxL := maxL) (ret := ret) hy rfl ?_
  intro p e s m args below meth c s₁ B hml hv
  obtain ⟨rfl, hP, hSf⟩ := hv
  have hts0 := atoms_spec (ws := .code y cc maxL ret :: bz_T) B.pre
  have hl := lv_entry av (n := maxL) hn
  rw [lg_entry_eq]
  generalize (lg_sl av ++ List.replicate (maxL - (lg_sl av).length) Slot.unset).toArray = ls at hl ⊢
  refine h ((l, ad, cA, D, A), p, e, bz_rm fr lo, s, m, av.toArray, below, meth, c, MQ below (bz_Qc ad cA D A rv M1) av.toArray s 0 0 A) ⟨rfl, B.exec, B.bytes, hml, B.returns, B.notSynchronized, findClass_of_methodNamed B.named, fun w hw => hts0 w (List.mem_cons_of_mem _ hw), hSf, rfl, rfl⟩ ls s.heap [] hl hP va_S.rf
section BZ
variable {ty : FieldType} {K : bz_K} {E : bz_E} {cc : ByteArray} {nL pc : Nat} {own : String} {ret : Option FieldType} {fr lo : Nat} {rv : Option Value} {M1 M : bz_Mm} {lv lv' : List (Nat × Value)} {st : List Value} {ρ : Type} {r : ρ}
theorem j_iconst (X : bz_X K E cc nL own ret fr lo rv M1) {n : Int} (hd : decode cc pc = .ok (.iconst n, 1))
    (k : bz_J K nL (pc + 1) lv (bz_i n :: st) M) : bz_J K nL pc lv (st) M := by
  obtain ⟨⟨l, ad, cA, D, A⟩, p, e, R, s, m, args, below, meth, c, Q⟩ := K
  obtain ⟨rfl, hx, hb, hml, hret, hlk, hown, hts, hSf, rfl, hQ⟩ := X
  intro ls H locs hl hP hS
  exact lv_iconst hx hb hd rfl (k ls H locs hl hP hS)
theorem j_bipush (X : bz_X K E cc nL own ret fr lo rv M1) {n : Int} (hd : decode cc pc = .ok (.bipush n, 2)) (hv : (Int8.ofInt n).toInt32 = Int32.ofInt n)
    (k : bz_J K nL (pc + 2) lv (bz_i n :: st) M) : bz_J K nL pc lv (st) M := by
  obtain ⟨⟨l, ad, cA, D, A⟩, p, e, R, s, m, args, below, meth, c, Q⟩ := K
  obtain ⟨rfl, hx, hb, hml, hret, hlk, hown, hts, hSf, rfl, hQ⟩ := X
  intro ls H locs hl hP hS
  exact lv_bipush hx hb hd hv (k ls H locs hl hP hS)
theorem j_sipush (X : bz_X K E cc nL own ret fr lo rv M1) {n : Int} (hd : decode cc pc = .ok (.sipush n, 3)) (hv : (Int16.ofInt n).toInt32 = Int32.ofInt n)
    (k : bz_J K nL (pc + 3) lv (bz_i n :: st) M) : bz_J K nL pc lv (st) M := by
  obtain ⟨⟨l, ad, cA, D, A⟩, p, e, R, s, m, args, below, meth, c, Q⟩ := K
  obtain ⟨rfl, hx, hb, hml, hret, hlk, hown, hts, hSf, rfl, hQ⟩ := X
  intro ls H locs hl hP hS
  exact lv_sipush hx hb hd hv (k ls H locs hl hP hS)
theorem j_lconst (X : bz_X K E cc nL own ret fr lo rv M1) {n : Fin 2} {v : Int} (hd : decode cc pc = .ok (.lconst n, 1)) (hv : Int64.ofNat (n : Nat) = Int64.ofInt v)
    (k : bz_J K nL (pc + 1) lv (bz_l v :: st) M) : bz_J K nL pc lv (st) M := by
  obtain ⟨⟨l, ad, cA, D, A⟩, p, e, R, s, m, args, below, meth, c, Q⟩ := K
  obtain ⟨rfl, hx, hb, hml, hret, hlk, hown, hts, hSf, rfl, hQ⟩ := X
  intro ls H locs hl hP hS
  exact lv_lconst hx hb hd hv (k ls H locs hl hP hS)
theorem j_ldc (X : bz_X K E cc nL own ret fr lo rv M1) {i : Nat} {v : Int} (hw : Cond.constant own i (Int32.ofInt v) ∈ bz_T) (hd : decode cc pc = .ok (.ldc i, 2))
    (k : bz_J K nL (pc + 2) lv (bz_i v :: st) M) : bz_J K nL pc lv (st) M := by
  obtain ⟨⟨l, ad, cA, D, A⟩, p, e, R, s, m, args, below, meth, c, Q⟩ := K
  obtain ⟨rfl, hx, hb, hml, hret, hlk, hown, hts, hSf, rfl, hQ⟩ := X
  intro ls H locs hl hP hS
  exact lv_ldc hx hb hown (hts _ hw) hd (k ls H locs hl hP hS)
theorem j_ldcw (X : bz_X K E cc nL own ret fr lo rv M1) {i : Nat} {v : Int} (hw : Cond.constant own i (Int32.ofInt v) ∈ bz_T) (hd : decode cc pc = .ok (.ldc_w i, 3))
    (k : bz_J K nL (pc + 3) lv (bz_i v :: st) M) : bz_J K nL pc lv (st) M := by
  obtain ⟨⟨l, ad, cA, D, A⟩, p, e, R, s, m, args, below, meth, c, Q⟩ := K
  obtain ⟨rfl, hx, hb, hml, hret, hlk, hown, hts, hSf, rfl, hQ⟩ := X
  intro ls H locs hl hP hS
  exact lv_ldcw hx hb hown (hts _ hw) hd (k ls H locs hl hP hS)
theorem j_ldc2 (X : bz_X K E cc nL own ret fr lo rv M1) {i : Nat} {v : Int} (hw : Cond.constantLong own i (Int64.ofInt v) ∈ bz_T) (hd : decode cc pc = .ok (.ldc2_w i, 3))
    (k : bz_J K nL (pc + 3) lv (bz_l v :: st) M) : bz_J K nL pc lv (st) M := by
  obtain ⟨⟨l, ad, cA, D, A⟩, p, e, R, s, m, args, below, meth, c, Q⟩ := K
  obtain ⟨rfl, hx, hb, hml, hret, hlk, hown, hts, hSf, rfl, hQ⟩ := X
  intro ls H locs hl hP hS
  exact lv_ldc2 hx hb hown (hts _ hw) hd (k ls H locs hl hP hS)
theorem j_iload_n (X : bz_X K E cc nL own ret fr lo rv M1) {q : Fin 4} {i : Nat} {x : Int} (hd : decode cc pc = .ok (.iload_n q, 1)) (hi : (q : Nat) = i) (n : Nat) (hk : lv[n]? = some (i, bz_i x))
    (k : bz_J K nL (pc + 1) lv (bz_i x :: st) M) : bz_J K nL pc lv (st) M := by
  obtain ⟨⟨l, ad, cA, D, A⟩, p, e, R, s, m, args, below, meth, c, Q⟩ := K
  obtain ⟨rfl, hx, hb, hml, hret, hlk, hown, hts, hSf, rfl, hQ⟩ := X
  intro ls H locs hl hP hS
  exact lv_iload_n hx hb hd hi (lv_at hl n hk) (k ls H locs hl hP hS)
theorem j_iload (X : bz_X K E cc nL own ret fr lo rv M1) {i : Nat} {x : Int} (hd : decode cc pc = .ok (.iload i, 2)) (n : Nat) (hk : lv[n]? = some (i, bz_i x))
    (k : bz_J K nL (pc + 2) lv (bz_i x :: st) M) : bz_J K nL pc lv (st) M := by
  obtain ⟨⟨l, ad, cA, D, A⟩, p, e, R, s, m, args, below, meth, c, Q⟩ := K
  obtain ⟨rfl, hx, hb, hml, hret, hlk, hown, hts, hSf, rfl, hQ⟩ := X
  intro ls H locs hl hP hS
  exact lv_iload hx hb hd (lv_at hl n hk) (k ls H locs hl hP hS)
theorem j_lload_n (X : bz_X K E cc nL own ret fr lo rv M1) {q : Fin 4} {i : Nat} {x : Int} (hd : decode cc pc = .ok (.lload_n q, 1)) (hi : (q : Nat) = i) (n : Nat) (hk : lv[n]? = some (i, bz_l x))
    (k : bz_J K nL (pc + 1) lv (bz_l x :: st) M) : bz_J K nL pc lv (st) M := by
  obtain ⟨⟨l, ad, cA, D, A⟩, p, e, R, s, m, args, below, meth, c, Q⟩ := K
  obtain ⟨rfl, hx, hb, hml, hret, hlk, hown, hts, hSf, rfl, hQ⟩ := X
  intro ls H locs hl hP hS
  exact lv_lload_n hx hb hd hi (lv_at hl n hk) (k ls H locs hl hP hS)
theorem j_lload (X : bz_X K E cc nL own ret fr lo rv M1) {i : Nat} {x : Int} (hd : decode cc pc = .ok (.lload i, 2)) (n : Nat) (hk : lv[n]? = some (i, bz_l x))
    (k : bz_J K nL (pc + 2) lv (bz_l x :: st) M) : bz_J K nL pc lv (st) M := by
  obtain ⟨⟨l, ad, cA, D, A⟩, p, e, R, s, m, args, below, meth, c, Q⟩ := K
  obtain ⟨rfl, hx, hb, hml, hret, hlk, hown, hts, hSf, rfl, hQ⟩ := X
  intro ls H locs hl hP hS
  exact lv_lload hx hb hd (lv_at hl n hk) (k ls H locs hl hP hS)
theorem j_aload_n (X : bz_X K E cc nL own ret fr lo rv M1) {q : Fin 4} {i : Nat} {x : Nat} (hd : decode cc pc = .ok (.aload_n q, 1)) (hi : (q : Nat) = i) (n : Nat) (hk : lv[n]? = some (i, .ref x))
    (k : bz_J K nL (pc + 1) lv (.ref x :: st) M) : bz_J K nL pc lv (st) M := by
  obtain ⟨⟨l, ad, cA, D, A⟩, p, e, R, s, m, args, below, meth, c, Q⟩ := K
  obtain ⟨rfl, hx, hb, hml, hret, hlk, hown, hts, hSf, rfl, hQ⟩ := X
  intro ls H locs hl hP hS
  exact lv_aload_n hx hb hd hi (lv_at hl n hk) (k ls H locs hl hP hS)
theorem j_aload (X : bz_X K E cc nL own ret fr lo rv M1) {i : Nat} {x : Nat} (hd : decode cc pc = .ok (.aload i, 2)) (n : Nat) (hk : lv[n]? = some (i, .ref x))
    (k : bz_J K nL (pc + 2) lv (.ref x :: st) M) : bz_J K nL pc lv (st) M := by
  obtain ⟨⟨l, ad, cA, D, A⟩, p, e, R, s, m, args, below, meth, c, Q⟩ := K
  obtain ⟨rfl, hx, hb, hml, hret, hlk, hown, hts, hSf, rfl, hQ⟩ := X
  intro ls H locs hl hP hS
  exact lv_aload hx hb hd (lv_at hl n hk) (k ls H locs hl hP hS)
theorem j_istore_n (X : bz_X K E cc nL own ret fr lo rv M1) {i : Nat} {x : Int} {q : Fin 4} (hd : decode cc pc = .ok (.istore_n q, 1)) (hi : (q : Nat) = i) (hn : i < nL) (hv : (i, bz_i x) :: lv.filter (fun q => !(q.1 == i) && !(q.1 + 1 == i && q.2.category == 2)) = lv')
    (k : bz_J K nL (pc + 1) lv' st M) : bz_J K nL pc lv (bz_i x :: st) M := by
  obtain ⟨⟨l, ad, cA, D, A⟩, p, e, R, s, m, args, below, meth, c, Q⟩ := K
  obtain ⟨rfl, hx, hb, hml, hret, hlk, hown, hts, hSf, rfl, hQ⟩ := X
  intro ls H locs hl hP hS
  exact lv_istore_n hx hb hd hi hl hn hv (fun ls hl => k ls H locs hl hP hS)
theorem j_istore (X : bz_X K E cc nL own ret fr lo rv M1) {i : Nat} {x : Int} (hd : decode cc pc = .ok (.istore i, 2)) (hn : i < nL) (hv : (i, bz_i x) :: lv.filter (fun q => !(q.1 == i) && !(q.1 + 1 == i && q.2.category == 2)) = lv')
    (k : bz_J K nL (pc + 2) lv' st M) : bz_J K nL pc lv (bz_i x :: st) M := by
  obtain ⟨⟨l, ad, cA, D, A⟩, p, e, R, s, m, args, below, meth, c, Q⟩ := K
  obtain ⟨rfl, hx, hb, hml, hret, hlk, hown, hts, hSf, rfl, hQ⟩ := X
  intro ls H locs hl hP hS
  exact lv_istore hx hb hd hl hn hv (fun ls hl => k ls H locs hl hP hS)
theorem j_lstore_n (X : bz_X K E cc nL own ret fr lo rv M1) {i : Nat} {x : Int} {q : Fin 4} (hd : decode cc pc = .ok (.lstore_n q, 1)) (hi : (q : Nat) = i) (hn : i + 1 < nL) (hv : (i, bz_l x) :: lv.filter (fun q => !(q.1 == i) && (!(q.1 == i + 1) && !(q.1 + 1 == i && q.2.category == 2))) = lv')
    (k : bz_J K nL (pc + 1) lv' st M) : bz_J K nL pc lv (bz_l x :: st) M := by
  obtain ⟨⟨l, ad, cA, D, A⟩, p, e, R, s, m, args, below, meth, c, Q⟩ := K
  obtain ⟨rfl, hx, hb, hml, hret, hlk, hown, hts, hSf, rfl, hQ⟩ := X
  intro ls H locs hl hP hS
  exact lv_lstore_n hx hb hd hi hl hn hv (fun ls hl => k ls H locs hl hP hS)
theorem j_lstore (X : bz_X K E cc nL own ret fr lo rv M1) {i : Nat} {x : Int} (hd : decode cc pc = .ok (.lstore i, 2)) (hn : i + 1 < nL) (hv : (i, bz_l x) :: lv.filter (fun q => !(q.1 == i) && (!(q.1 == i + 1) && !(q.1 + 1 == i && q.2.category == 2))) = lv')
    (k : bz_J K nL (pc + 2) lv' st M) : bz_J K nL pc lv (bz_l x :: st) M := by
  obtain ⟨⟨l, ad, cA, D, A⟩, p, e, R, s, m, args, below, meth, c, Q⟩ := K
  obtain ⟨rfl, hx, hb, hml, hret, hlk, hown, hts, hSf, rfl, hQ⟩ := X
  intro ls H locs hl hP hS
  exact lv_lstore hx hb hd hl hn hv (fun ls hl => k ls H locs hl hP hS)
theorem j_astore_n (X : bz_X K E cc nL own ret fr lo rv M1) {i : Nat} {x : Nat} {q : Fin 4} (hd : decode cc pc = .ok (.astore_n q, 1)) (hi : (q : Nat) = i) (hn : i < nL) (hv : (i, .ref x) :: lv.filter (fun q => !(q.1 == i) && !(q.1 + 1 == i && q.2.category == 2)) = lv')
    (k : bz_J K nL (pc + 1) lv' st M) : bz_J K nL pc lv (.ref x :: st) M := by
  obtain ⟨⟨l, ad, cA, D, A⟩, p, e, R, s, m, args, below, meth, c, Q⟩ := K
  obtain ⟨rfl, hx, hb, hml, hret, hlk, hown, hts, hSf, rfl, hQ⟩ := X
  intro ls H locs hl hP hS
  exact lv_astore_n hx hb hd hi hl hn hv (fun ls hl => k ls H locs hl hP hS)
theorem j_astore (X : bz_X K E cc nL own ret fr lo rv M1) {i : Nat} {x : Nat} (hd : decode cc pc = .ok (.astore i, 2)) (hn : i < nL) (hv : (i, .ref x) :: lv.filter (fun q => !(q.1 == i) && !(q.1 + 1 == i && q.2.category == 2)) = lv')
    (k : bz_J K nL (pc + 2) lv' st M) : bz_J K nL pc lv (.ref x :: st) M := by
  obtain ⟨⟨l, ad, cA, D, A⟩, p, e, R, s, m, args, below, meth, c, Q⟩ := K
  obtain ⟨rfl, hx, hb, hml, hret, hlk, hown, hts, hSf, rfl, hQ⟩ := X
  intro ls H locs hl hP hS
  exact lv_astore hx hb hd hl hn hv (fun ls hl => k ls H locs hl hP hS)
theorem j_iinc (X : bz_X K E cc nL own ret fr lo rv M1) {i : Nat} {n x y : Int} (hd : decode cc pc = .ok (.iinc i n, 3)) (q : Nat) (hk : lv[q]? = some (i, bz_i x)) (hy : x + n = y) (hn : i < nL) (hv : (i, bz_i y) :: lv.filter (fun q => !(q.1 == i) && !(q.1 + 1 == i && q.2.category == 2)) = lv')
    (k : bz_J K nL (pc + 3) lv' st M) : bz_J K nL pc lv st M := by
  obtain ⟨⟨l, ad, cA, D, A⟩, p, e, R, s, m, args, below, meth, c, Q⟩ := K
  obtain ⟨rfl, hx, hb, hml, hret, hlk, hown, hts, hSf, rfl, hQ⟩ := X
  intro ls H locs hl hP hS
  refine lv_iinc hx hb hd hl hk (by rw [← Int32.ofInt_add, hy]) hn hv (fun ls hl => k ls H locs hl hP hS)
theorem j_iadd (X : bz_X K E cc nL own ret fr lo rv M1) {x y : Int} (hd : decode cc pc = .ok (.iadd, 1))
    (k : bz_J K nL (pc + 1) lv (bz_i (x + y) :: st) M) : bz_J K nL pc lv (bz_i y :: bz_i x :: st) M := by
  obtain ⟨⟨l, ad, cA, D, A⟩, p, e, R, s, m, args, below, meth, c, Q⟩ := K
  obtain ⟨rfl, hx, hb, hml, hret, hlk, hown, hts, hSf, rfl, hQ⟩ := X
  intro ls H locs hl hP hS
  refine lv_iadd hx hb hd ?_
  have q := k ls H locs hl hP hS
  rw [show bz_i (x + y) = .int (Int32.ofInt x + Int32.ofInt y) from by rw [← Int32.ofInt_add]] at q
  exact q
theorem j_isub (X : bz_X K E cc nL own ret fr lo rv M1) {x y : Int} (hd : decode cc pc = .ok (.isub, 1))
    (k : bz_J K nL (pc + 1) lv (bz_i (x - y) :: st) M) : bz_J K nL pc lv (bz_i y :: bz_i x :: st) M := by
  obtain ⟨⟨l, ad, cA, D, A⟩, p, e, R, s, m, args, below, meth, c, Q⟩ := K
  obtain ⟨rfl, hx, hb, hml, hret, hlk, hown, hts, hSf, rfl, hQ⟩ := X
  intro ls H locs hl hP hS
  refine lv_isub hx hb hd ?_
  have q := k ls H locs hl hP hS
  rw [show bz_i (x - y) = .int (Int32.ofInt x - Int32.ofInt y) from by rw [← Int32.ofInt_sub]] at q
  exact q
theorem j_imul (X : bz_X K E cc nL own ret fr lo rv M1) {x y : Int} (hd : decode cc pc = .ok (.imul, 1))
    (k : bz_J K nL (pc + 1) lv (bz_i (x * y) :: st) M) : bz_J K nL pc lv (bz_i y :: bz_i x :: st) M := by
  obtain ⟨⟨l, ad, cA, D, A⟩, p, e, R, s, m, args, below, meth, c, Q⟩ := K
  obtain ⟨rfl, hx, hb, hml, hret, hlk, hown, hts, hSf, rfl, hQ⟩ := X
  intro ls H locs hl hP hS
  refine lv_imul hx hb hd ?_
  have q := k ls H locs hl hP hS
  rw [show bz_i (x * y) = .int (Int32.ofInt x * Int32.ofInt y) from by rw [← Int32.ofInt_mul]] at q
  exact q
theorem j_ladd (X : bz_X K E cc nL own ret fr lo rv M1) {x y : Int} (hd : decode cc pc = .ok (.ladd, 1))
    (k : bz_J K nL (pc + 1) lv (bz_l (x + y) :: st) M) : bz_J K nL pc lv (bz_l y :: bz_l x :: st) M := by
  obtain ⟨⟨l, ad, cA, D, A⟩, p, e, R, s, m, args, below, meth, c, Q⟩ := K
  obtain ⟨rfl, hx, hb, hml, hret, hlk, hown, hts, hSf, rfl, hQ⟩ := X
  intro ls H locs hl hP hS
  refine lv_ladd hx hb hd ?_
  have q := k ls H locs hl hP hS
  rw [show bz_l (x + y) = .long (Int64.ofInt x + Int64.ofInt y) from by rw [← Int64.ofInt_add]] at q
  exact q
theorem j_lsub (X : bz_X K E cc nL own ret fr lo rv M1) {x y : Int} (hd : decode cc pc = .ok (.lsub, 1))
    (k : bz_J K nL (pc + 1) lv (bz_l (x - y) :: st) M) : bz_J K nL pc lv (bz_l y :: bz_l x :: st) M := by
  obtain ⟨⟨l, ad, cA, D, A⟩, p, e, R, s, m, args, below, meth, c, Q⟩ := K
  obtain ⟨rfl, hx, hb, hml, hret, hlk, hown, hts, hSf, rfl, hQ⟩ := X
  intro ls H locs hl hP hS
  refine lv_lsub hx hb hd ?_
  have q := k ls H locs hl hP hS
  rw [show bz_l (x - y) = .long (Int64.ofInt x - Int64.ofInt y) from by rw [← Int64.ofInt_sub]] at q
  exact q
theorem j_lmul (X : bz_X K E cc nL own ret fr lo rv M1) {x y : Int} (hd : decode cc pc = .ok (.lmul, 1))
    (k : bz_J K nL (pc + 1) lv (bz_l (x * y) :: st) M) : bz_J K nL pc lv (bz_l y :: bz_l x :: st) M := by
  obtain ⟨⟨l, ad, cA, D, A⟩, p, e, R, s, m, args, below, meth, c, Q⟩ := K
  obtain ⟨rfl, hx, hb, hml, hret, hlk, hown, hts, hSf, rfl, hQ⟩ := X
  intro ls H locs hl hP hS
  refine lv_lmul hx hb hd ?_
  have q := k ls H locs hl hP hS
  rw [show bz_l (x * y) = .long (Int64.ofInt x * Int64.ofInt y) from by rw [← Int64.ofInt_mul]] at q
  exact q
def ia_ (x y : Int) : Int := (Int32.ofInt x &&& Int32.ofInt y).toInt
def ix_ (x y : Int) : Int := (Int32.ofInt x ^^^ Int32.ofInt y).toInt
def sl_ (x y : Int) : Int := (Int32.ofInt x <<< (Int32.ofInt y &&& 31)).toInt
def sr_ (x y : Int) : Int := (Int32.ofInt x >>> (Int32.ofInt y &&& 31)).toInt
def us_ (x y : Int) : Int := ((Int32.ofInt x).toUInt32 >>> ((Int32.ofInt y).toUInt32 &&& Int32.toUInt32 31)).toInt32.toInt
def i2b_ (x : Int) : Int := (Int32.ofInt x).toInt8.toInt32.toInt
theorem j_iand (X : bz_X K E cc nL own ret fr lo rv M1) {x y : Int} (hd : decode cc pc = .ok (.iand, 1))
    (k : bz_J K nL (pc + 1) lv (bz_i (ia_ x y) :: st) M) : bz_J K nL pc lv (bz_i y :: bz_i x :: st) M := by
  obtain ⟨⟨l, ad, cA, D, A⟩, p, e, R, s, m, args, below, meth, c, Q⟩ := K
  obtain ⟨rfl, hx, hb, hml, hret, hlk, hown, hts, hSf, rfl, hQ⟩ := X
  intro ls H locs hl hP hS
  refine lv_iand hx hb hd ?_
  have q := k ls H locs hl hP hS
  rw [show bz_i (ia_ x y) = .int _ from by unfold ia_; rw [bz_i, Int32.ofInt_toInt]] at q
  exact q
theorem j_ixor (X : bz_X K E cc nL own ret fr lo rv M1) {x y : Int} (hd : decode cc pc = .ok (.ixor, 1))
    (k : bz_J K nL (pc + 1) lv (bz_i (ix_ x y) :: st) M) : bz_J K nL pc lv (bz_i y :: bz_i x :: st) M := by
  obtain ⟨⟨l, ad, cA, D, A⟩, p, e, R, s, m, args, below, meth, c, Q⟩ := K
  obtain ⟨rfl, hx, hb, hml, hret, hlk, hown, hts, hSf, rfl, hQ⟩ := X
  intro ls H locs hl hP hS
  refine lv_ixor hx hb hd ?_
  have q := k ls H locs hl hP hS
  rw [show bz_i (ix_ x y) = .int _ from by unfold ix_; rw [bz_i, Int32.ofInt_toInt]] at q
  exact q
theorem j_ishl (X : bz_X K E cc nL own ret fr lo rv M1) {x y : Int} (hd : decode cc pc = .ok (.ishl, 1))
    (k : bz_J K nL (pc + 1) lv (bz_i (sl_ x y) :: st) M) : bz_J K nL pc lv (bz_i y :: bz_i x :: st) M := by
  obtain ⟨⟨l, ad, cA, D, A⟩, p, e, R, s, m, args, below, meth, c, Q⟩ := K
  obtain ⟨rfl, hx, hb, hml, hret, hlk, hown, hts, hSf, rfl, hQ⟩ := X
  intro ls H locs hl hP hS
  refine lv_ishl hx hb hd ?_
  have q := k ls H locs hl hP hS
  rw [show bz_i (sl_ x y) = .int _ from by unfold sl_; rw [bz_i, Int32.ofInt_toInt]] at q
  exact q
theorem j_ishr (X : bz_X K E cc nL own ret fr lo rv M1) {x y : Int} (hd : decode cc pc = .ok (.ishr, 1))
    (k : bz_J K nL (pc + 1) lv (bz_i (sr_ x y) :: st) M) : bz_J K nL pc lv (bz_i y :: bz_i x :: st) M := by
  obtain ⟨⟨l, ad, cA, D, A⟩, p, e, R, s, m, args, below, meth, c, Q⟩ := K
  obtain ⟨rfl, hx, hb, hml, hret, hlk, hown, hts, hSf, rfl, hQ⟩ := X
  intro ls H locs hl hP hS
  refine lv_ishr hx hb hd ?_
  have q := k ls H locs hl hP hS
  rw [show bz_i (sr_ x y) = .int _ from by unfold sr_; rw [bz_i, Int32.ofInt_toInt]] at q
  exact q
theorem j_iushr (X : bz_X K E cc nL own ret fr lo rv M1) {x y : Int} (hd : decode cc pc = .ok (.iushr, 1))
    (k : bz_J K nL (pc + 1) lv (bz_i (us_ x y) :: st) M) : bz_J K nL pc lv (bz_i y :: bz_i x :: st) M := by
  obtain ⟨⟨l, ad, cA, D, A⟩, p, e, R, s, m, args, below, meth, c, Q⟩ := K
  obtain ⟨rfl, hx, hb, hml, hret, hlk, hown, hts, hSf, rfl, hQ⟩ := X
  intro ls H locs hl hP hS
  refine lv_iushr hx hb hd (v := Int32.ofInt (us_ x y)) (by unfold us_; rw [Int32.ofInt_toInt]) (k ls H locs hl hP hS)
theorem j_i2b (X : bz_X K E cc nL own ret fr lo rv M1) {x : Int} (hd : decode cc pc = .ok (.i2b, 1))
    (k : bz_J K nL (pc + 1) lv (bz_i (i2b_ x) :: st) M) : bz_J K nL pc lv (bz_i x :: st) M := by
  obtain ⟨⟨l, ad, cA, D, A⟩, p, e, R, s, m, args, below, meth, c, Q⟩ := K
  obtain ⟨rfl, hx, hb, hml, hret, hlk, hown, hts, hSf, rfl, hQ⟩ := X
  intro ls H locs hl hP hS
  refine lv_i2b hx hb hd (v := Int32.ofInt (i2b_ x)) (by unfold i2b_; rw [Int32.ofInt_toInt]) (k ls H locs hl hP hS)
theorem j_ineg (X : bz_X K E cc nL own ret fr lo rv M1) {x : Int} (hd : decode cc pc = .ok (.ineg, 1))
    (k : bz_J K nL (pc + 1) lv (bz_i (-x) :: st) M) : bz_J K nL pc lv (bz_i x :: st) M := by
  obtain ⟨⟨l, ad, cA, D, A⟩, p, e, R, s, m, args, below, meth, c, Q⟩ := K
  obtain ⟨rfl, hx, hb, hml, hret, hlk, hown, hts, hSf, rfl, hQ⟩ := X
  intro ls H locs hl hP hS
  refine lv_ineg hx hb hd ?_
  have q := k ls H locs hl hP hS
  rw [show bz_i (-x) = .int (-Int32.ofInt x) from by rw [← Int32.ofInt_neg]] at q
  exact q
theorem j_lneg (X : bz_X K E cc nL own ret fr lo rv M1) {x : Int} (hd : decode cc pc = .ok (.lneg, 1))
    (k : bz_J K nL (pc + 1) lv (bz_l (-x) :: st) M) : bz_J K nL pc lv (bz_l x :: st) M := by
  obtain ⟨⟨l, ad, cA, D, A⟩, p, e, R, s, m, args, below, meth, c, Q⟩ := K
  obtain ⟨rfl, hx, hb, hml, hret, hlk, hown, hts, hSf, rfl, hQ⟩ := X
  intro ls H locs hl hP hS
  refine lv_lneg hx hb hd ?_
  have q := k ls H locs hl hP hS
  rw [show bz_l (-x) = .long (-Int64.ofInt x) from by rw [← Int64.ofInt_neg]] at q
  exact q
theorem fb_rng0 (x : Int32) : -2147483648 ≤ x.toInt ∧ x.toInt < 2147483648 := ⟨Int32.le_toInt x, Int32.toInt_lt x⟩
theorem bz_div64 (x y : Int) : Int64.ofInt ((w64 x).tdiv (w64 y)) = Int64.ofInt x / Int64.ofInt y := by
  apply Int64.toInt_inj.mp
  rw [Int64.toInt_div, w64_of, w64_of, w64_of]; rfl
theorem bz_rem32 (x y : Int) : Int32.ofInt ((w32 x).tmod (w32 y)) = Int32.ofInt x - Int32.ofInt x / Int32.ofInt y * Int32.ofInt y := by
  apply Int32.toInt_inj.mp
  rw [rem_toInt, w32_of, w32_of, w32_of]
  have h1 := rem_toInt (Int32.ofInt x) (Int32.ofInt y)
  rw [w32_of, w32_of] at h1
  have h2 := fb_rng0 (Int32.ofInt x - Int32.ofInt x / Int32.ofInt y * Int32.ofInt y)
  rw [h1] at h2
  exact w32_id h2.1 (by omega)
theorem j_i2l (X : bz_X K E cc nL own ret fr lo rv M1) {x z : Int} (hz : w32 x = z) (hd : decode cc pc = .ok (.i2l, 1))
    (k : bz_J K nL (pc + 1) lv (bz_l z :: st) M) : bz_J K nL pc lv (bz_i x :: st) M := by
  obtain ⟨⟨l, ad, cA, D, A⟩, p, e, R, s, m, args, below, meth, c, Q⟩ := K
  obtain ⟨rfl, hx, hb, hml, hret, hlk, hown, hts, hSf, rfl, hQ⟩ := X
  intro ls H locs hl hP hS
  refine lv_i2l hx hb hd (v := Int64.ofInt z) (by rw [← hz, ← w32_of, Int64.ofInt_int32ToInt]) (k ls H locs hl hP hS)
theorem j_l2i (X : bz_X K E cc nL own ret fr lo rv M1) {x : Int} (hd : decode cc pc = .ok (.l2i, 1))
    (k : bz_J K nL (pc + 1) lv (bz_i x :: st) M) : bz_J K nL pc lv (bz_l x :: st) M := by
  obtain ⟨⟨l, ad, cA, D, A⟩, p, e, R, s, m, args, below, meth, c, Q⟩ := K
  obtain ⟨rfl, hx, hb, hml, hret, hlk, hown, hts, hSf, rfl, hQ⟩ := X
  intro ls H locs hl hP hS
  refine lv_l2i hx hb hd (v := Int32.ofInt x) (by rw [Int64.toInt32_ofInt]) (k ls H locs hl hP hS)
def lt_ {α : Type} (e : Int) (k : Int → Option α) : Option α := k e
def rd_ {α : Type} (M : bz_Mm) (a : Nat) (j : Int) (n : Nat) (k : Int → Option α) : Option α := if 0 ≤ w32 j ∧ w32 j < n then k (M a (w32 j).toNat) else none
def ra_ {α : Type} (j : Int) (n : Nat) (k : Nat → Option α) : Option α := if 0 ≤ w32 j ∧ w32 j < n then k (w32 j).toNat else none
def wa_ {α : Type} (M : bz_Mm) (a : Nat) (j : Int) (n : Nat) (v : Int) (k : bz_Mm → Option α) : Option α := if 0 ≤ w32 j ∧ w32 j < n then k (st_ M a (w32 j).toNat v) else none
def wf_ {α : Type} (M : bz_Mm) (a j : Nat) (v : Int) (k : bz_Mm → Option α) : Option α := k (st_ M a j v)
def dv_ {α : Type} (x y : Int) (k : Int → Option α) : Option α := if w64 y = 0 then none else k ((w64 x).tdiv (w64 y))
def rm_ {α : Type} (x y : Int) (k : Int → Option α) : Option α := if w32 y = 0 then none else k ((w32 x).tmod (w32 y))
def cl_ {α β : Type} (f : Option β) (k : β → Option α) : Option α := match f with
  | none => none
  | some x => k x
theorem q_cl {α β : Type} {f : Option β} {k : β → Option α} {r : α} (h : cl_ f k = some r) : ∃ x, f = some x ∧ k x = some r := by
  cases f with
  | none => cases h
  | some x => exact ⟨x, rfl, h⟩
theorem q_in {α : Type} {c : Prop} [Decidable c] {a : Option α} {r : α} (h : (if c then a else none) = some r) : c ∧ a = some r := by
  by_cases hc : c
  · rw [if_pos hc] at h; exact ⟨hc, h⟩
  · rw [if_neg hc] at h; cases h
theorem q_out {α : Type} {c : Prop} [Decidable c] {a : Option α} {r : α} (h : (if c then none else a) = some r) : ¬ c ∧ a = some r := by
  by_cases hc : c
  · rw [if_pos hc] at h; cases h
  · rw [if_neg hc] at h; exact ⟨hc, h⟩
theorem j_lt {x : Int} {g : Int → Value} {k : Int → Option ρ} (hf : lt_ x k = some r) (kk : ∀ x, k x = some r → bz_J K nL pc lv (g x :: st) M) : bz_J K nL pc lv (g x :: st) M := kk x hf
theorem j_sub (ks : List Nat) (hk : lv_pick lv ks = lv') (k : bz_J K nL pc lv' st M) : bz_J K nL pc lv st M := by
  obtain ⟨⟨l, ad, cA, D, A⟩, p, e, R, s, m, args, below, meth, c, Q⟩ := K
  intro ls H locs hl hP hS
  exact k ls H locs (lv_sub hl ks hk) hP hS
theorem j_ldiv (X : bz_X K E cc nL own ret fr lo rv M1) {x y : Int} {k : Int → Option ρ} (hd : decode cc pc = .ok (.ldiv, 1)) (hf : dv_ x y k = some r)
    (kk : ∀ z, k z = some r → bz_J K nL (pc + 1) lv (bz_l z :: st) M) : bz_J K nL pc lv (bz_l y :: bz_l x :: st) M := by
  obtain ⟨⟨l, ad, cA, D, A⟩, p, e, R, s, m, args, below, meth, c, Q⟩ := K
  obtain ⟨rfl, hx, hb, hml, hret, hlk, hown, hts, hSf, rfl, hQ⟩ := X
  intro ls H locs hl hP hS
  obtain ⟨h0, hf⟩ := q_out hf
  refine lv_ldiv hx hb hd (fun h => h0 (by rw [← w64_of, h]; rfl)) ?_
  have q := kk _ hf ls H locs hl hP hS
  rw [show bz_l ((w64 x).tdiv (w64 y)) = .long (Int64.ofInt x / Int64.ofInt y) from by rw [← bz_div64]] at q
  exact q
theorem j_irem (X : bz_X K E cc nL own ret fr lo rv M1) {x y : Int} {k : Int → Option ρ} (hd : decode cc pc = .ok (.irem, 1)) (hf : rm_ x y k = some r)
    (kk : ∀ z, k z = some r → bz_J K nL (pc + 1) lv (bz_i z :: st) M) : bz_J K nL pc lv (bz_i y :: bz_i x :: st) M := by
  obtain ⟨⟨l, ad, cA, D, A⟩, p, e, R, s, m, args, below, meth, c, Q⟩ := K
  obtain ⟨rfl, hx, hb, hml, hret, hlk, hown, hts, hSf, rfl, hQ⟩ := X
  intro ls H locs hl hP hS
  obtain ⟨h0, hf⟩ := q_out hf
  refine lv_irem hx hb hd (fun h => h0 (by rw [← w32_of, h]; rfl)) ?_
  have q := kk _ hf ls H locs hl hP hS
  rw [show bz_i ((w32 x).tmod (w32 y)) = .int (Int32.ofInt x - Int32.ofInt x / Int32.ofInt y * Int32.ofInt y) from by rw [← bz_rem32]] at q
  exact q
theorem j_dup (X : bz_X K E cc nL own ret fr lo rv M1) {v : Value} (hd : decode cc pc = .ok (.dup, 1)) (hv : v.category = 1)
    (k : bz_J K nL (pc + 1) lv (v :: v :: st) M) : bz_J K nL pc lv (v :: st) M := by
  obtain ⟨⟨l, ad, cA, D, A⟩, p, e, R, s, m, args, below, meth, c, Q⟩ := K
  obtain ⟨rfl, hx, hb, hml, hret, hlk, hown, hts, hSf, rfl, hQ⟩ := X
  intro ls H locs hl hP hS
  exact lv_dup hx hb hd hv (k ls H locs hl hP hS)
theorem j_pop (X : bz_X K E cc nL own ret fr lo rv M1) {v : Value} (hd : decode cc pc = .ok (.pop, 1)) (hv : v.category = 1)
    (k : bz_J K nL (pc + 1) lv (st) M) : bz_J K nL pc lv (v :: st) M := by
  obtain ⟨⟨l, ad, cA, D, A⟩, p, e, R, s, m, args, below, meth, c, Q⟩ := K
  obtain ⟨rfl, hx, hb, hml, hret, hlk, hown, hts, hSf, rfl, hQ⟩ := X
  intro ls H locs hl hP hS
  exact lv_pop hx hb hd hv (k ls H locs hl hP hS)
theorem j_dup2 (X : bz_X K E cc nL own ret fr lo rv M1) {v w : Value} (hd : decode cc pc = .ok (.dup2, 1)) (hv : v.category = 1) (hw : w.category = 1)
    (k : bz_J K nL (pc + 1) lv (v :: w :: v :: w :: st) M) : bz_J K nL pc lv (v :: w :: st) M := by
  obtain ⟨⟨l, ad, cA, D, A⟩, p, e, R, s, m, args, below, meth, c, Q⟩ := K
  obtain ⟨rfl, hx, hb, hml, hret, hlk, hown, hts, hSf, rfl, hQ⟩ := X
  intro ls H locs hl hP hS
  exact lv_dup2_11 hx hb hd hv hw (k ls H locs hl hP hS)
theorem j_dup2l (X : bz_X K E cc nL own ret fr lo rv M1) {v : Value} (hd : decode cc pc = .ok (.dup2, 1)) (hv : v.category = 2)
    (k : bz_J K nL (pc + 1) lv (v :: v :: st) M) : bz_J K nL pc lv (v :: st) M := by
  obtain ⟨⟨l, ad, cA, D, A⟩, p, e, R, s, m, args, below, meth, c, Q⟩ := K
  obtain ⟨rfl, hx, hb, hml, hret, hlk, hown, hts, hSf, rfl, hQ⟩ := X
  intro ls H locs hl hP hS
  exact lv_dup2_2 hx hb hd hv (k ls H locs hl hP hS)
theorem j_goto (X : bz_X K E cc nL own ret fr lo rv M1) {off : Int} {tgt : Nat} (hd : decode cc pc = .ok (.goto off, 3)) (ht : (pc : Int) + off = (tgt : Int))
    (k : bz_J K nL (tgt) lv (st) M) : bz_J K nL pc lv (st) M := by
  obtain ⟨⟨l, ad, cA, D, A⟩, p, e, R, s, m, args, below, meth, c, Q⟩ := K
  obtain ⟨rfl, hx, hb, hml, hret, hlk, hown, hts, hSf, rfl, hQ⟩ := X
  intro ls H locs hl hP hS
  exact lv_goto hx hb hd ht (k ls H locs hl hP hS)
theorem c32_lt (x y : Int) : Int32.ofInt x < Int32.ofInt y ↔ w32 x < w32 y := by rw [Int32.lt_iff_toInt_lt, w32_of, w32_of]
theorem c32_le (x y : Int) : Int32.ofInt x ≤ Int32.ofInt y ↔ w32 x ≤ w32 y := by rw [Int32.le_iff_toInt_le, w32_of, w32_of]
theorem c32_eq (x y : Int) : Int32.ofInt x = Int32.ofInt y ↔ w32 x = w32 y := by rw [← Int32.toInt_inj, w32_of, w32_of]
theorem c64_lt (x y : Int) : Int64.ofInt x < Int64.ofInt y ↔ w64 x < w64 y := by rw [Int64.lt_iff_toInt_lt, w64_of, w64_of]
theorem c64_eq (x y : Int) : Int64.ofInt x = Int64.ofInt y ↔ w64 x = w64 y := by rw [← Int64.toInt_inj, w64_of, w64_of]
theorem w32_0 : w32 0 = 0 := by decide
theorem j_icmp_eq (X : bz_X K E cc nL own ret fr lo rv M1) {x y : Int} {off : Int} {tgt : Nat} {a b : Option ρ} {x' y' : Int} (h1 : w32 x = x') (h2 : w32 y = y') (hd : decode cc pc = .ok (.if_icmp .eq off, 3)) (ht : (pc : Int) + off = (tgt : Int)) (hf : (if x' = y' then a else b) = some r)
    (kt : a = some r → bz_J K nL tgt lv st M) (kf : b = some r → bz_J K nL (pc + 3) lv st M) : bz_J K nL pc lv (bz_i y :: bz_i x :: st) M := by
  obtain ⟨⟨l, ad, cA, D, A⟩, p, e, R, s, m, args, below, meth, c, Q⟩ := K
  obtain ⟨rfl, hx, hb, hml, hret, hlk, hown, hts, hSf, rfl, hQ⟩ := X
  intro ls H locs hl hP hS
  subst h1; subst h2
  by_cases hc : w32 x = w32 y
  · rw [if_pos hc] at hf
    exact lv_icmp_eq hx hb hd ht (fun _ => kt hf ls H locs hl hP hS) (fun h => absurd ((c32_eq x y).mpr hc) h)
  · rw [if_neg hc] at hf
    exact lv_icmp_eq hx hb hd ht (fun h => absurd ((c32_eq x y).mp h) hc) (fun _ => kf hf ls H locs hl hP hS)
theorem j_if_eq (X : bz_X K E cc nL own ret fr lo rv M1) {x : Int} {off : Int} {tgt : Nat} {a b : Option ρ} {x' : Int} (h1 : w32 x = x') (hd : decode cc pc = .ok (.ifCond .eq off, 3)) (ht : (pc : Int) + off = (tgt : Int)) (hf : (if x' = 0 then a else b) = some r)
    (kt : a = some r → bz_J K nL tgt lv st M) (kf : b = some r → bz_J K nL (pc + 3) lv st M) : bz_J K nL pc lv (bz_i x :: st) M := by
  obtain ⟨⟨l, ad, cA, D, A⟩, p, e, R, s, m, args, below, meth, c, Q⟩ := K
  obtain ⟨rfl, hx, hb, hml, hret, hlk, hown, hts, hSf, rfl, hQ⟩ := X
  intro ls H locs hl hP hS
  subst h1
  by_cases hc : w32 x = 0
  · rw [if_pos hc] at hf
    exact lv_if_eq hx hb hd ht (fun _ => kt hf ls H locs hl hP hS) (fun h => absurd ((c32_eq x 0).mpr (by rw [w32_0]; exact hc)) h)
  · rw [if_neg hc] at hf
    exact lv_if_eq hx hb hd ht (fun h => absurd (by have q := (c32_eq x 0).mp h; rw [w32_0] at q; exact q) hc) (fun _ => kf hf ls H locs hl hP hS)
theorem j_icmp_ne (X : bz_X K E cc nL own ret fr lo rv M1) {x y : Int} {off : Int} {tgt : Nat} {a b : Option ρ} {x' y' : Int} (h1 : w32 x = x') (h2 : w32 y = y') (hd : decode cc pc = .ok (.if_icmp .ne off, 3)) (ht : (pc : Int) + off = (tgt : Int)) (hf : (if x' = y' then a else b) = some r)
    (kt : b = some r → bz_J K nL tgt lv st M) (kf : a = some r → bz_J K nL (pc + 3) lv st M) : bz_J K nL pc lv (bz_i y :: bz_i x :: st) M := by
  obtain ⟨⟨l, ad, cA, D, A⟩, p, e, R, s, m, args, below, meth, c, Q⟩ := K
  obtain ⟨rfl, hx, hb, hml, hret, hlk, hown, hts, hSf, rfl, hQ⟩ := X
  intro ls H locs hl hP hS
  subst h1; subst h2
  by_cases hc : w32 x = w32 y
  · rw [if_pos hc] at hf
    exact lv_icmp_ne hx hb hd ht (fun h => absurd ((c32_eq x y).mpr hc) h) (fun _ => kf hf ls H locs hl hP hS)
  · rw [if_neg hc] at hf
    exact lv_icmp_ne hx hb hd ht (fun _ => kt hf ls H locs hl hP hS) (fun h => absurd ((c32_eq x y).mp h) hc)
theorem j_if_ne (X : bz_X K E cc nL own ret fr lo rv M1) {x : Int} {off : Int} {tgt : Nat} {a b : Option ρ} {x' : Int} (h1 : w32 x = x') (hd : decode cc pc = .ok (.ifCond .ne off, 3)) (ht : (pc : Int) + off = (tgt : Int)) (hf : (if x' = 0 then a else b) = some r)
    (kt : b = some r → bz_J K nL tgt lv st M) (kf : a = some r → bz_J K nL (pc + 3) lv st M) : bz_J K nL pc lv (bz_i x :: st) M := by
  obtain ⟨⟨l, ad, cA, D, A⟩, p, e, R, s, m, args, below, meth, c, Q⟩ := K
  obtain ⟨rfl, hx, hb, hml, hret, hlk, hown, hts, hSf, rfl, hQ⟩ := X
  intro ls H locs hl hP hS
  subst h1
  by_cases hc : w32 x = 0
  · rw [if_pos hc] at hf
    exact lv_if_ne hx hb hd ht (fun h => absurd ((c32_eq x 0).mpr (by rw [w32_0]; exact hc)) h) (fun _ => kf hf ls H locs hl hP hS)
  · rw [if_neg hc] at hf
    exact lv_if_ne hx hb hd ht (fun _ => kt hf ls H locs hl hP hS) (fun h => absurd (by have q := (c32_eq x 0).mp h; rw [w32_0] at q; exact q) hc)
theorem j_icmp_lt (X : bz_X K E cc nL own ret fr lo rv M1) {x y : Int} {off : Int} {tgt : Nat} {a b : Option ρ} {x' y' : Int} (h1 : w32 x = x') (h2 : w32 y = y') (hd : decode cc pc = .ok (.if_icmp .lt off, 3)) (ht : (pc : Int) + off = (tgt : Int)) (hf : (if x' < y' then a else b) = some r)
    (kt : a = some r → bz_J K nL tgt lv st M) (kf : b = some r → bz_J K nL (pc + 3) lv st M) : bz_J K nL pc lv (bz_i y :: bz_i x :: st) M := by
  obtain ⟨⟨l, ad, cA, D, A⟩, p, e, R, s, m, args, below, meth, c, Q⟩ := K
  obtain ⟨rfl, hx, hb, hml, hret, hlk, hown, hts, hSf, rfl, hQ⟩ := X
  intro ls H locs hl hP hS
  subst h1; subst h2
  by_cases hc : w32 x < w32 y
  · rw [if_pos hc] at hf
    exact lv_icmp_lt hx hb hd ht (fun _ => kt hf ls H locs hl hP hS) (fun h => absurd ((c32_lt x y).mpr hc) h)
  · rw [if_neg hc] at hf
    exact lv_icmp_lt hx hb hd ht (fun h => absurd ((c32_lt x y).mp h) hc) (fun _ => kf hf ls H locs hl hP hS)
theorem j_if_lt (X : bz_X K E cc nL own ret fr lo rv M1) {x : Int} {off : Int} {tgt : Nat} {a b : Option ρ} {x' : Int} (h1 : w32 x = x') (hd : decode cc pc = .ok (.ifCond .lt off, 3)) (ht : (pc : Int) + off = (tgt : Int)) (hf : (if x' < 0 then a else b) = some r)
    (kt : a = some r → bz_J K nL tgt lv st M) (kf : b = some r → bz_J K nL (pc + 3) lv st M) : bz_J K nL pc lv (bz_i x :: st) M := by
  obtain ⟨⟨l, ad, cA, D, A⟩, p, e, R, s, m, args, below, meth, c, Q⟩ := K
  obtain ⟨rfl, hx, hb, hml, hret, hlk, hown, hts, hSf, rfl, hQ⟩ := X
  intro ls H locs hl hP hS
  subst h1
  by_cases hc : w32 x < 0
  · rw [if_pos hc] at hf
    exact lv_if_lt hx hb hd ht (fun _ => kt hf ls H locs hl hP hS) (fun h => absurd ((c32_lt x 0).mpr (by rw [w32_0]; exact hc)) h)
  · rw [if_neg hc] at hf
    exact lv_if_lt hx hb hd ht (fun h => absurd (by have q := (c32_lt x 0).mp h; rw [w32_0] at q; exact q) hc) (fun _ => kf hf ls H locs hl hP hS)
theorem j_icmp_ge (X : bz_X K E cc nL own ret fr lo rv M1) {x y : Int} {off : Int} {tgt : Nat} {a b : Option ρ} {x' y' : Int} (h1 : w32 x = x') (h2 : w32 y = y') (hd : decode cc pc = .ok (.if_icmp .ge off, 3)) (ht : (pc : Int) + off = (tgt : Int)) (hf : (if x' < y' then a else b) = some r)
    (kt : b = some r → bz_J K nL tgt lv st M) (kf : a = some r → bz_J K nL (pc + 3) lv st M) : bz_J K nL pc lv (bz_i y :: bz_i x :: st) M := by
  obtain ⟨⟨l, ad, cA, D, A⟩, p, e, R, s, m, args, below, meth, c, Q⟩ := K
  obtain ⟨rfl, hx, hb, hml, hret, hlk, hown, hts, hSf, rfl, hQ⟩ := X
  intro ls H locs hl hP hS
  subst h1; subst h2
  by_cases hc : w32 x < w32 y
  · rw [if_pos hc] at hf
    exact lv_icmp_ge hx hb hd ht (fun h => absurd ((c32_le y x).mp h) (by omega)) (fun _ => kf hf ls H locs hl hP hS)
  · rw [if_neg hc] at hf
    exact lv_icmp_ge hx hb hd ht (fun _ => kt hf ls H locs hl hP hS) (fun h => absurd ((c32_le y x).mpr (by omega)) h)
theorem j_if_ge (X : bz_X K E cc nL own ret fr lo rv M1) {x : Int} {off : Int} {tgt : Nat} {a b : Option ρ} {x' : Int} (h1 : w32 x = x') (hd : decode cc pc = .ok (.ifCond .ge off, 3)) (ht : (pc : Int) + off = (tgt : Int)) (hf : (if x' < 0 then a else b) = some r)
    (kt : b = some r → bz_J K nL tgt lv st M) (kf : a = some r → bz_J K nL (pc + 3) lv st M) : bz_J K nL pc lv (bz_i x :: st) M := by
  obtain ⟨⟨l, ad, cA, D, A⟩, p, e, R, s, m, args, below, meth, c, Q⟩ := K
  obtain ⟨rfl, hx, hb, hml, hret, hlk, hown, hts, hSf, rfl, hQ⟩ := X
  intro ls H locs hl hP hS
  subst h1
  by_cases hc : w32 x < 0
  · rw [if_pos hc] at hf
    exact lv_if_ge hx hb hd ht (fun h => absurd ((c32_le 0 x).mp h) (by rw [w32_0]; omega)) (fun _ => kf hf ls H locs hl hP hS)
  · rw [if_neg hc] at hf
    exact lv_if_ge hx hb hd ht (fun _ => kt hf ls H locs hl hP hS) (fun h => absurd ((c32_le 0 x).mpr (by rw [w32_0]; omega)) h)
theorem j_icmp_gt (X : bz_X K E cc nL own ret fr lo rv M1) {x y : Int} {off : Int} {tgt : Nat} {a b : Option ρ} {x' y' : Int} (h1 : w32 x = x') (h2 : w32 y = y') (hd : decode cc pc = .ok (.if_icmp .gt off, 3)) (ht : (pc : Int) + off = (tgt : Int)) (hf : (if y' < x' then a else b) = some r)
    (kt : a = some r → bz_J K nL tgt lv st M) (kf : b = some r → bz_J K nL (pc + 3) lv st M) : bz_J K nL pc lv (bz_i y :: bz_i x :: st) M := by
  obtain ⟨⟨l, ad, cA, D, A⟩, p, e, R, s, m, args, below, meth, c, Q⟩ := K
  obtain ⟨rfl, hx, hb, hml, hret, hlk, hown, hts, hSf, rfl, hQ⟩ := X
  intro ls H locs hl hP hS
  subst h1; subst h2
  by_cases hc : w32 y < w32 x
  · rw [if_pos hc] at hf
    exact lv_icmp_gt hx hb hd ht (fun _ => kt hf ls H locs hl hP hS) (fun h => absurd ((c32_lt y x).mpr hc) h)
  · rw [if_neg hc] at hf
    exact lv_icmp_gt hx hb hd ht (fun h => absurd ((c32_lt y x).mp h) hc) (fun _ => kf hf ls H locs hl hP hS)
theorem j_if_gt (X : bz_X K E cc nL own ret fr lo rv M1) {x : Int} {off : Int} {tgt : Nat} {a b : Option ρ} {x' : Int} (h1 : w32 x = x') (hd : decode cc pc = .ok (.ifCond .gt off, 3)) (ht : (pc : Int) + off = (tgt : Int)) (hf : (if 0 < x' then a else b) = some r)
    (kt : a = some r → bz_J K nL tgt lv st M) (kf : b = some r → bz_J K nL (pc + 3) lv st M) : bz_J K nL pc lv (bz_i x :: st) M := by
  obtain ⟨⟨l, ad, cA, D, A⟩, p, e, R, s, m, args, below, meth, c, Q⟩ := K
  obtain ⟨rfl, hx, hb, hml, hret, hlk, hown, hts, hSf, rfl, hQ⟩ := X
  intro ls H locs hl hP hS
  subst h1
  by_cases hc : 0 < w32 x
  · rw [if_pos hc] at hf
    exact lv_if_gt hx hb hd ht (fun _ => kt hf ls H locs hl hP hS) (fun h => absurd ((c32_lt 0 x).mpr (by rw [w32_0]; exact hc)) h)
  · rw [if_neg hc] at hf
    exact lv_if_gt hx hb hd ht (fun h => absurd (by have q := (c32_lt 0 x).mp h; rw [w32_0] at q; exact q) hc) (fun _ => kf hf ls H locs hl hP hS)
theorem j_icmp_le (X : bz_X K E cc nL own ret fr lo rv M1) {x y : Int} {off : Int} {tgt : Nat} {a b : Option ρ} {x' y' : Int} (h1 : w32 x = x') (h2 : w32 y = y') (hd : decode cc pc = .ok (.if_icmp .le off, 3)) (ht : (pc : Int) + off = (tgt : Int)) (hf : (if y' < x' then a else b) = some r)
    (kt : b = some r → bz_J K nL tgt lv st M) (kf : a = some r → bz_J K nL (pc + 3) lv st M) : bz_J K nL pc lv (bz_i y :: bz_i x :: st) M := by
  obtain ⟨⟨l, ad, cA, D, A⟩, p, e, R, s, m, args, below, meth, c, Q⟩ := K
  obtain ⟨rfl, hx, hb, hml, hret, hlk, hown, hts, hSf, rfl, hQ⟩ := X
  intro ls H locs hl hP hS
  subst h1; subst h2
  by_cases hc : w32 y < w32 x
  · rw [if_pos hc] at hf
    exact lv_icmp_le hx hb hd ht (fun h => absurd ((c32_le x y).mp h) (by omega)) (fun _ => kf hf ls H locs hl hP hS)
  · rw [if_neg hc] at hf
    exact lv_icmp_le hx hb hd ht (fun _ => kt hf ls H locs hl hP hS) (fun h => absurd ((c32_le x y).mpr (by omega)) h)
theorem j_if_le (X : bz_X K E cc nL own ret fr lo rv M1) {x : Int} {off : Int} {tgt : Nat} {a b : Option ρ} {x' : Int} (h1 : w32 x = x') (hd : decode cc pc = .ok (.ifCond .le off, 3)) (ht : (pc : Int) + off = (tgt : Int)) (hf : (if 0 < x' then a else b) = some r)
    (kt : b = some r → bz_J K nL tgt lv st M) (kf : a = some r → bz_J K nL (pc + 3) lv st M) : bz_J K nL pc lv (bz_i x :: st) M := by
  obtain ⟨⟨l, ad, cA, D, A⟩, p, e, R, s, m, args, below, meth, c, Q⟩ := K
  obtain ⟨rfl, hx, hb, hml, hret, hlk, hown, hts, hSf, rfl, hQ⟩ := X
  intro ls H locs hl hP hS
  subst h1
  by_cases hc : 0 < w32 x
  · rw [if_pos hc] at hf
    exact lv_if_le hx hb hd ht (fun h => absurd ((c32_le x 0).mp h) (by rw [w32_0]; omega)) (fun _ => kf hf ls H locs hl hP hS)
  · rw [if_neg hc] at hf
    exact lv_if_le hx hb hd ht (fun _ => kt hf ls H locs hl hP hS) (fun h => absurd ((c32_le x 0).mpr (by rw [w32_0]; omega)) h)
theorem lc_gt {x y : Int64} (h : y < x) : lg_cmp x y = 1 := by simp [lg_cmp, h]
theorem lc_eq {x y : Int64} (h : x = y) : lg_cmp x y = 0 := by subst h; simp [lg_cmp]
theorem lc_lt {x y : Int64} (h : x < y) : lg_cmp x y = -1 := by
  have h1 : ¬ y < x := by rw [Int64.lt_iff_toInt_lt] at h ⊢; omega
  have h2 : ¬ x = y := fun e => by subst e; rw [Int64.lt_iff_toInt_lt] at h; omega
  unfold lg_cmp
  rw [if_neg h1, if_neg h2]
theorem lc_cases (x y : Int) : (w64 x < w64 y ∧ lg_cmp (Int64.ofInt x) (Int64.ofInt y) = -1) ∨ (w64 x = w64 y ∧ lg_cmp (Int64.ofInt x) (Int64.ofInt y) = 0) ∨ (w64 y < w64 x ∧ lg_cmp (Int64.ofInt x) (Int64.ofInt y) = 1) := by
  rcases Int.lt_trichotomy (w64 x) (w64 y) with h | h | h
  · exact Or.inl ⟨h, lc_lt ((c64_lt x y).mpr h)⟩
  · exact Or.inr (Or.inl ⟨h, lc_eq ((c64_eq x y).mpr h)⟩)
  · exact Or.inr (Or.inr ⟨h, lc_gt ((c64_lt y x).mpr h)⟩)
theorem j_lcmp_eq (X : bz_X K E cc nL own ret fr lo rv M1) {x y x' y' : Int} {off : Int} {tgt : Nat} {a b : Option ρ} (h1 : w64 x = x') (h2 : w64 y = y') (hd : decode cc pc = .ok (.lcmp, 1)) (hd2 : decode cc (pc + 1) = .ok (.ifCond .eq off, 3)) (ht : ((pc + 1 : Nat) : Int) + off = (tgt : Int)) (hf : (if x' = y' then a else b) = some r)
    (kt : a = some r → bz_J K nL tgt lv st M) (kf : b = some r → bz_J K nL (pc + 4) lv st M) : bz_J K nL pc lv (bz_l y :: bz_l x :: st) M := by
  obtain ⟨⟨l, ad, cA, D, A⟩, p, e, R, s, m, args, below, meth, c, Q⟩ := K
  obtain ⟨rfl, hx, hb, hml, hret, hlk, hown, hts, hSf, rfl, hQ⟩ := X
  intro ls H locs hl hP hS
  subst h1; subst h2
  refine W.lcmp hx hb hd ?_
  rcases lc_cases x y with hc | hc | hc
  · rw [if_neg (by omega)] at hf
    rw [hc.2]
    exact lv_if_eq hx hb hd2 ht (fun h => absurd h (by decide)) (fun h => kf hf ls H locs hl hP hS)
  · rw [if_pos (by omega)] at hf
    rw [hc.2]
    exact lv_if_eq hx hb hd2 ht (fun h => kt hf ls H locs hl hP hS) (fun h => absurd h (by decide))
  · rw [if_neg (by omega)] at hf
    rw [hc.2]
    exact lv_if_eq hx hb hd2 ht (fun h => absurd h (by decide)) (fun h => kf hf ls H locs hl hP hS)
theorem j_lcmp_ne (X : bz_X K E cc nL own ret fr lo rv M1) {x y x' y' : Int} {off : Int} {tgt : Nat} {a b : Option ρ} (h1 : w64 x = x') (h2 : w64 y = y') (hd : decode cc pc = .ok (.lcmp, 1)) (hd2 : decode cc (pc + 1) = .ok (.ifCond .ne off, 3)) (ht : ((pc + 1 : Nat) : Int) + off = (tgt : Int)) (hf : (if x' = y' then a else b) = some r)
    (kt : b = some r → bz_J K nL tgt lv st M) (kf : a = some r → bz_J K nL (pc + 4) lv st M) : bz_J K nL pc lv (bz_l y :: bz_l x :: st) M := by
  obtain ⟨⟨l, ad, cA, D, A⟩, p, e, R, s, m, args, below, meth, c, Q⟩ := K
  obtain ⟨rfl, hx, hb, hml, hret, hlk, hown, hts, hSf, rfl, hQ⟩ := X
  intro ls H locs hl hP hS
  subst h1; subst h2
  refine W.lcmp hx hb hd ?_
  rcases lc_cases x y with hc | hc | hc
  · rw [if_neg (by omega)] at hf
    rw [hc.2]
    exact lv_if_ne hx hb hd2 ht (fun h => kt hf ls H locs hl hP hS) (fun h => absurd h (by decide))
  · rw [if_pos (by omega)] at hf
    rw [hc.2]
    exact lv_if_ne hx hb hd2 ht (fun h => absurd h (by decide)) (fun h => kf hf ls H locs hl hP hS)
  · rw [if_neg (by omega)] at hf
    rw [hc.2]
    exact lv_if_ne hx hb hd2 ht (fun h => kt hf ls H locs hl hP hS) (fun h => absurd h (by decide))
theorem j_lcmp_lt (X : bz_X K E cc nL own ret fr lo rv M1) {x y x' y' : Int} {off : Int} {tgt : Nat} {a b : Option ρ} (h1 : w64 x = x') (h2 : w64 y = y') (hd : decode cc pc = .ok (.lcmp, 1)) (hd2 : decode cc (pc + 1) = .ok (.ifCond .lt off, 3)) (ht : ((pc + 1 : Nat) : Int) + off = (tgt : Int)) (hf : (if x' < y' then a else b) = some r)
    (kt : a = some r → bz_J K nL tgt lv st M) (kf : b = some r → bz_J K nL (pc + 4) lv st M) : bz_J K nL pc lv (bz_l y :: bz_l x :: st) M := by
  obtain ⟨⟨l, ad, cA, D, A⟩, p, e, R, s, m, args, below, meth, c, Q⟩ := K
  obtain ⟨rfl, hx, hb, hml, hret, hlk, hown, hts, hSf, rfl, hQ⟩ := X
  intro ls H locs hl hP hS
  subst h1; subst h2
  refine W.lcmp hx hb hd ?_
  rcases lc_cases x y with hc | hc | hc
  · rw [if_pos (by omega)] at hf
    rw [hc.2]
    exact lv_if_lt hx hb hd2 ht (fun h => kt hf ls H locs hl hP hS) (fun h => absurd h (by decide))
  · rw [if_neg (by omega)] at hf
    rw [hc.2]
    exact lv_if_lt hx hb hd2 ht (fun h => absurd h (by decide)) (fun h => kf hf ls H locs hl hP hS)
  · rw [if_neg (by omega)] at hf
    rw [hc.2]
    exact lv_if_lt hx hb hd2 ht (fun h => absurd h (by decide)) (fun h => kf hf ls H locs hl hP hS)
theorem j_lcmp_ge (X : bz_X K E cc nL own ret fr lo rv M1) {x y x' y' : Int} {off : Int} {tgt : Nat} {a b : Option ρ} (h1 : w64 x = x') (h2 : w64 y = y') (hd : decode cc pc = .ok (.lcmp, 1)) (hd2 : decode cc (pc + 1) = .ok (.ifCond .ge off, 3)) (ht : ((pc + 1 : Nat) : Int) + off = (tgt : Int)) (hf : (if x' < y' then a else b) = some r)
    (kt : b = some r → bz_J K nL tgt lv st M) (kf : a = some r → bz_J K nL (pc + 4) lv st M) : bz_J K nL pc lv (bz_l y :: bz_l x :: st) M := by
  obtain ⟨⟨l, ad, cA, D, A⟩, p, e, R, s, m, args, below, meth, c, Q⟩ := K
  obtain ⟨rfl, hx, hb, hml, hret, hlk, hown, hts, hSf, rfl, hQ⟩ := X
  intro ls H locs hl hP hS
  subst h1; subst h2
  refine W.lcmp hx hb hd ?_
  rcases lc_cases x y with hc | hc | hc
  · rw [if_pos (by omega)] at hf
    rw [hc.2]
    exact lv_if_ge hx hb hd2 ht (fun h => absurd h (by decide)) (fun h => kf hf ls H locs hl hP hS)
  · rw [if_neg (by omega)] at hf
    rw [hc.2]
    exact lv_if_ge hx hb hd2 ht (fun h => kt hf ls H locs hl hP hS) (fun h => absurd h (by decide))
  · rw [if_neg (by omega)] at hf
    rw [hc.2]
    exact lv_if_ge hx hb hd2 ht (fun h => kt hf ls H locs hl hP hS) (fun h => absurd h (by decide))
theorem j_lcmp_gt (X : bz_X K E cc nL own ret fr lo rv M1) {x y x' y' : Int} {off : Int} {tgt : Nat} {a b : Option ρ} (h1 : w64 x = x') (h2 : w64 y = y') (hd : decode cc pc = .ok (.lcmp, 1)) (hd2 : decode cc (pc + 1) = .ok (.ifCond .gt off, 3)) (ht : ((pc + 1 : Nat) : Int) + off = (tgt : Int)) (hf : (if y' < x' then a else b) = some r)
    (kt : a = some r → bz_J K nL tgt lv st M) (kf : b = some r → bz_J K nL (pc + 4) lv st M) : bz_J K nL pc lv (bz_l y :: bz_l x :: st) M := by
  obtain ⟨⟨l, ad, cA, D, A⟩, p, e, R, s, m, args, below, meth, c, Q⟩ := K
  obtain ⟨rfl, hx, hb, hml, hret, hlk, hown, hts, hSf, rfl, hQ⟩ := X
  intro ls H locs hl hP hS
  subst h1; subst h2
  refine W.lcmp hx hb hd ?_
  rcases lc_cases x y with hc | hc | hc
  · rw [if_neg (by omega)] at hf
    rw [hc.2]
    exact lv_if_gt hx hb hd2 ht (fun h => absurd h (by decide)) (fun h => kf hf ls H locs hl hP hS)
  · rw [if_neg (by omega)] at hf
    rw [hc.2]
    exact lv_if_gt hx hb hd2 ht (fun h => absurd h (by decide)) (fun h => kf hf ls H locs hl hP hS)
  · rw [if_pos (by omega)] at hf
    rw [hc.2]
    exact lv_if_gt hx hb hd2 ht (fun h => kt hf ls H locs hl hP hS) (fun h => absurd h (by decide))
theorem j_lcmp_le (X : bz_X K E cc nL own ret fr lo rv M1) {x y x' y' : Int} {off : Int} {tgt : Nat} {a b : Option ρ} (h1 : w64 x = x') (h2 : w64 y = y') (hd : decode cc pc = .ok (.lcmp, 1)) (hd2 : decode cc (pc + 1) = .ok (.ifCond .le off, 3)) (ht : ((pc + 1 : Nat) : Int) + off = (tgt : Int)) (hf : (if y' < x' then a else b) = some r)
    (kt : b = some r → bz_J K nL tgt lv st M) (kf : a = some r → bz_J K nL (pc + 4) lv st M) : bz_J K nL pc lv (bz_l y :: bz_l x :: st) M := by
  obtain ⟨⟨l, ad, cA, D, A⟩, p, e, R, s, m, args, below, meth, c, Q⟩ := K
  obtain ⟨rfl, hx, hb, hml, hret, hlk, hown, hts, hSf, rfl, hQ⟩ := X
  intro ls H locs hl hP hS
  subst h1; subst h2
  refine W.lcmp hx hb hd ?_
  rcases lc_cases x y with hc | hc | hc
  · rw [if_neg (by omega)] at hf
    rw [hc.2]
    exact lv_if_le hx hb hd2 ht (fun h => kt hf ls H locs hl hP hS) (fun h => absurd h (by decide))
  · rw [if_neg (by omega)] at hf
    rw [hc.2]
    exact lv_if_le hx hb hd2 ht (fun h => kt hf ls H locs hl hP hS) (fun h => absurd h (by decide))
  · rw [if_pos (by omega)] at hf
    rw [hc.2]
    exact lv_if_le hx hb hd2 ht (fun h => absurd h (by decide)) (fun h => kf hf ls H locs hl hP hS)
theorem j_tabIn (X : bz_X K E cc nL own ret fr lo rv M1) {x v dflt lw hi off : Int} {offs : Array Int} {len tgt : Nat} (h1 : w32 x = v) (hd : decode cc pc = .ok (.tableswitch dflt lw hi offs, len)) (h2 : ¬ v < lw) (h3 : ¬ hi < v) (ho : offs[(v - lw).toNat]? = some off) (ht : (pc : Int) + off = (tgt : Int))
    (k : bz_J K nL tgt lv st M) : bz_J K nL pc lv (bz_i x :: st) M := by
  obtain ⟨⟨l, ad, cA, D, A⟩, p, e, R, s, m, args, below, meth, c, Q⟩ := K
  obtain ⟨rfl, hx, hb, hml, hret, hlk, hown, hts, hSf, rfl, hQ⟩ := X
  intro ls H locs hl hP hS
  subst h1
  rw [← w32_of] at h2 h3 ho
  exact lv_tableIn hx hb hd h2 h3 ho ht (k ls H locs hl hP hS)
theorem j_tabOut (X : bz_X K E cc nL own ret fr lo rv M1) {x dflt lw hi : Int} {offs : Array Int} {len tgt : Nat} (h : w32 x < lw ∨ hi < w32 x) (hd : decode cc pc = .ok (.tableswitch dflt lw hi offs, len)) (ht : (pc : Int) + dflt = (tgt : Int))
    (k : bz_J K nL tgt lv st M) : bz_J K nL pc lv (bz_i x :: st) M := by
  obtain ⟨⟨l, ad, cA, D, A⟩, p, e, R, s, m, args, below, meth, c, Q⟩ := K
  obtain ⟨rfl, hx, hb, hml, hret, hlk, hown, hts, hSf, rfl, hQ⟩ := X
  intro ls H locs hl hP hS
  rw [← w32_of] at h
  exact lv_tableOut hx hb hd h ht (k ls H locs hl hP hS)
theorem q_ite {α : Type} {c : Prop} [Decidable c] {a b : Option α} {r : α} (h : (if c then a else b) = some r) : (c ∧ a = some r) ∨ (¬ c ∧ b = some r) := by
  by_cases hc : c
  · rw [if_pos hc] at h; exact Or.inl ⟨hc, h⟩
  · rw [if_neg hc] at h; exact Or.inr ⟨hc, h⟩
theorem bz_fs {ad : Nat → Nat} {fs : List (Nat × Nat)} {m : Nat → Int} {k : Nat} {kt : Nat × Nat} (h : fs[k]? = some kt) : (fs.mapIdx (fun j kt => bz_val ad kt (m j)))[k]? = some (bz_val ad kt (m k)) := by
  rw [List.getElem?_mapIdx, h]; rfl
theorem bz_fset {ad : Nat → Nat} {fs : List (Nat × Nat)} {m : Nat → Int} {k : Nat} {kt : Nat × Nat} (h : fs[k]? = some kt) (v : Int) : (fs.mapIdx (fun j kt => bz_val ad kt (m j))).set k (bz_val ad kt v) = fs.mapIdx (fun j kt => bz_val ad kt (ud m k v j)) := by
  apply List.ext_getElem?
  intro i
  by_cases hi : i = k
  · subst hi
    have hl : i < (fs.mapIdx (fun j kt => bz_val ad kt (m j))).length := (List.getElem?_eq_some_iff.mp (bz_fs h)).1
    rw [List.getElem?_set_self hl, List.getElem?_mapIdx, h]
    simp [ud]
  · rw [List.getElem?_set_ne (fun q => hi q.symm), List.getElem?_mapIdx, List.getElem?_mapIdx]
    simp [ud, hi]
theorem j_get (X : bz_X K E cc nL own ret fr lo rv M1) {ci k : Nat} {C ref : String} {T : u_T} {N i a : Nat} {fs : List (Nat × Nat)} (hin : ∀ w ∈ u_ws C T N, w ∈ bz_T) (hc : bz_cls[ci]? = some (C, T, N)) (hs : bz_shl[a]? = some (.inr (ci, fs))) (hk : k < N) (hr : (T k).1 = ref) (hlk2 : Cond.fieldLink own i ref (T k).2.1 (T k).2.2.1 ∈ bz_T) {kt : Nat × Nat} (hf : fs[k]? = some kt) (hd : decode cc pc = .ok (.getfield i, 3))
    (kk : bz_J K nL (pc + 3) lv (bz_val E.2.1 kt (M a k) :: st) M) : bz_J K nL pc lv (bz_rf E a :: st) M := by
  obtain ⟨⟨l, ad, cA, D, A⟩, p, e, R, s, m, args, below, meth, c, Q⟩ := K
  obtain ⟨rfl, hx, hb, hml, hret, hlk, hown, hts, hSf, rfl, hQ⟩ := X
  intro ls H locs hl hP hS
  subst hr
  exact va_get hx hb hts hin hown hSf.1 hP a (bz_get hs) hc k hk (hts _ hlk2) (fun _ h => h) (bz_fs hf) hd (kk ls H locs hl hP hS)
theorem j_put (X : bz_X K E cc nL own ret fr lo rv M1) {ci k : Nat} {C ref : String} {T : u_T} {N i a : Nat} {fs : List (Nat × Nat)} (hin : ∀ w ∈ u_ws C T N, w ∈ bz_T) (hc : bz_cls[ci]? = some (C, T, N)) (hs : bz_shl[a]? = some (.inr (ci, fs))) (hk : k < N) (hr : (T k).1 = ref) (hlk2 : Cond.fieldLink own i ref (T k).2.1 (T k).2.2.1 ∈ bz_T) {kt : Nat × Nat} {v : Int} {ty : FieldType} {g : bz_Mm → Option ρ} (ty0 : Nat → FieldType) (hty : ∀ k, k < N → parseFieldDescriptor (T k).2.2.1 = some (ty0 k)) (hnm : ∀ a, a < N → ∀ b, b < N → a ≠ b → (T a).2.1 ≠ (T b).2.1) (hf : fs[k]? = some kt) (hfin : (T k).2.2.2 = false) (hty2 : ty0 k = ty) (hn : narrow ty (bz_val E.2.1 kt v) = bz_val E.2.1 kt v) (hft : fits ty (bz_val E.2.1 kt v) = true) (hd : decode cc pc = .ok (.putfield i, 3)) (hg : wf_ M a k v g = some r)
    (kk : ∀ M, g M = some r → bz_J K nL (pc + 3) lv st M) : bz_J K nL pc lv (bz_val E.2.1 kt v :: bz_rf E a :: st) M := by
  obtain ⟨⟨l, ad, cA, D, A⟩, p, e, R, s, m, args, below, meth, c, Q⟩ := K
  obtain ⟨rfl, hx, hb, hml, hret, hlk, hown, hts, hSf, rfl, hQ⟩ := X
  intro ls H locs hl hP hS
  subst hr; subst hty2
  refine va_put hx hb hts hin ty0 hty hnm hown hSf.1 hP (hSf.2.1.D cA M) hS a (bz_get hs) hc k hk (hts _ hlk2) (fun _ h => h) hfin (hty k hk) hn hft (by rw [List.length_mapIdx]; exact (List.getElem?_eq_some_iff.mp hf).1) hd (fun H1 locs1 hP1 _ hS1 => ?_)
  rw [bz_fset hf v] at hP1
  exact kk _ hg ls H1 locs1 hl (by rw [← bz_set hs]; exact hP1) hS1
theorem j_iald (X : bz_X K E cc nL own ret fr lo rv M1) {a n b : Nat} {j : Int} {g : Int → Option ρ} (hs : bz_shl[a]? = some (.inl (0, n, b))) (hd : decode cc pc = .ok (.iaload, 1)) (hf : rd_ M a j n g = some r)
    (kk : ∀ x, g x = some r → bz_J K nL (pc + 1) lv (bz_i x :: st) M) : bz_J K nL pc lv (bz_i j :: bz_rf E a :: st) M := by
  obtain ⟨⟨l, ad, cA, D, A⟩, p, e, R, s, m, args, below, meth, c, Q⟩ := K
  obtain ⟨rfl, hx, hb, hml, hret, hlk, hown, hts, hSf, rfl, hQ⟩ := X
  intro ls H locs hl hP hS
  obtain ⟨hin, hf⟩ := q_in hf
  refine va_iald hx hb hSf.1 hP a 0 (bz_get hs) rfl (bz_vp hin) hd ?_
  rw [bz_cl]
  exact kk _ hf ls H locs hl hP hS
theorem j_lald (X : bz_X K E cc nL own ret fr lo rv M1) {a n b : Nat} {j : Int} {g : Int → Option ρ} (hs : bz_shl[a]? = some (.inl (1, n, b))) (hd : decode cc pc = .ok (.laload, 1)) (hf : rd_ M a j n g = some r)
    (kk : ∀ x, g x = some r → bz_J K nL (pc + 1) lv (bz_l x :: st) M) : bz_J K nL pc lv (bz_i j :: bz_rf E a :: st) M := by
  obtain ⟨⟨l, ad, cA, D, A⟩, p, e, R, s, m, args, below, meth, c, Q⟩ := K
  obtain ⟨rfl, hx, hb, hml, hret, hlk, hown, hts, hSf, rfl, hQ⟩ := X
  intro ls H locs hl hP hS
  obtain ⟨hin, hf⟩ := q_in hf
  refine va_lald hx hb hSf.1 hP a 1 (bz_get hs) rfl (bz_vp hin) hd ?_
  rw [bz_cl]
  exact kk _ hf ls H locs hl hP hS
theorem j_zald (X : bz_X K E cc nL own ret fr lo rv M1) {a n b : Nat} {j : Int} {g : Int → Option ρ} (hs : bz_shl[a]? = some (.inl (2, n, b))) (hd : decode cc pc = .ok (.baload, 1)) (hf : rd_ M a j n g = some r)
    (kk : ∀ x, g x = some r → bz_J K nL (pc + 1) lv (bz_i x :: st) M) : bz_J K nL pc lv (bz_i j :: bz_rf E a :: st) M := by
  obtain ⟨⟨l, ad, cA, D, A⟩, p, e, R, s, m, args, below, meth, c, Q⟩ := K
  obtain ⟨rfl, hx, hb, hml, hret, hlk, hown, hts, hSf, rfl, hQ⟩ := X
  intro ls H locs hl hP hS
  obtain ⟨hin, hf⟩ := q_in hf
  refine va_zald hx hb hSf.1 hP a 2 (bz_get hs) rfl (bz_vp hin) hd ?_
  rw [bz_cl]
  exact kk _ hf ls H locs hl hP hS
theorem j_bald (X : bz_X K E cc nL own ret fr lo rv M1) {a n b : Nat} {j : Int} {g : Int → Option ρ} (hs : bz_shl[a]? = some (.inl (3, n, b))) (hd : decode cc pc = .ok (.baload, 1)) (hf : rd_ M a j n g = some r)
    (kk : ∀ x, g x = some r → bz_J K nL (pc + 1) lv (bz_i x :: st) M) : bz_J K nL pc lv (bz_i j :: bz_rf E a :: st) M := by
  obtain ⟨⟨l, ad, cA, D, A⟩, p, e, R, s, m, args, below, meth, c, Q⟩ := K
  obtain ⟨rfl, hx, hb, hml, hret, hlk, hown, hts, hSf, rfl, hQ⟩ := X
  intro ls H locs hl hP hS
  obtain ⟨hin, hf⟩ := q_in hf
  refine va_bald hx hb hSf.1 hP a 3 (bz_get hs) rfl (bz_vp hin) hd ?_
  rw [bz_cl]
  exact kk _ hf ls H locs hl hP hS
theorem bz_u32 (m : Nat → Int) (j : Nat) (v : Int) : upd (fun i => Int32.ofInt (m i)) j (Int32.ofInt v) = fun i => Int32.ofInt (ud m j v i) := by
  funext i; unfold upd ud; by_cases h : i = j <;> simp [h]
theorem bz_u64 (m : Nat → Int) (j : Nat) (v : Int) : vp_updL (fun i => Int64.ofInt (m i)) j (Int64.ofInt v) = fun i => Int64.ofInt (ud m j v i) := by
  funext i; unfold vp_updL ud; by_cases h : i = j <;> simp [h]
theorem j_iast (X : bz_X K E cc nL own ret fr lo rv M1) {a n b : Nat} {j v : Int} {g : bz_Mm → Option ρ} (hs : bz_shl[a]? = some (.inl (0, n, b))) (hd : decode cc pc = .ok (.iastore, 1)) (hf : wa_ M a j n v g = some r)
    (kk : ∀ M, g M = some r → bz_J K nL (pc + 1) lv st M) : bz_J K nL pc lv (bz_i v :: bz_i j :: bz_rf E a :: st) M := by
  obtain ⟨⟨l, ad, cA, D, A⟩, p, e, R, s, m, args, below, meth, c, Q⟩ := K
  obtain ⟨rfl, hx, hb, hml, hret, hlk, hown, hts, hSf, rfl, hQ⟩ := X
  intro ls H locs hl hP hS
  obtain ⟨hin, hf⟩ := q_in hf
  refine va_iast hx hb hSf.1 hP (hSf.2.1.D cA M) hS a 0 (bz_get hs) rfl (bz_vp hin) hd (fun H1 locs1 hP1 _ hS1 => ?_)
  rw [bz_cl, bz_u32] at hP1
  exact kk _ hf ls H1 locs1 hl (by rw [← bz_set hs]; exact hP1) hS1
theorem j_last (X : bz_X K E cc nL own ret fr lo rv M1) {a n b : Nat} {j v : Int} {g : bz_Mm → Option ρ} (hs : bz_shl[a]? = some (.inl (1, n, b))) (hd : decode cc pc = .ok (.lastore, 1)) (hf : wa_ M a j n v g = some r)
    (kk : ∀ M, g M = some r → bz_J K nL (pc + 1) lv st M) : bz_J K nL pc lv (bz_l v :: bz_i j :: bz_rf E a :: st) M := by
  obtain ⟨⟨l, ad, cA, D, A⟩, p, e, R, s, m, args, below, meth, c, Q⟩ := K
  obtain ⟨rfl, hx, hb, hml, hret, hlk, hown, hts, hSf, rfl, hQ⟩ := X
  intro ls H locs hl hP hS
  obtain ⟨hin, hf⟩ := q_in hf
  refine va_last hx hb hSf.1 hP (hSf.2.1.D cA M) hS a 1 (bz_get hs) rfl (bz_vp hin) hd (fun H1 locs1 hP1 _ hS1 => ?_)
  rw [bz_cl, bz_u64] at hP1
  exact kk _ hf ls H1 locs1 hl (by rw [← bz_set hs]; exact hP1) hS1
theorem j_zast (X : bz_X K E cc nL own ret fr lo rv M1) {a n b : Nat} {j v : Int} {g : bz_Mm → Option ρ} (hs : bz_shl[a]? = some (.inl (2, n, b))) (hnz : vp_nar .boolean (Int32.ofInt v) = Int32.ofInt v) (hd : decode cc pc = .ok (.bastore, 1)) (hf : wa_ M a j n v g = some r)
    (kk : ∀ M, g M = some r → bz_J K nL (pc + 1) lv st M) : bz_J K nL pc lv (bz_i v :: bz_i j :: bz_rf E a :: st) M := by
  obtain ⟨⟨l, ad, cA, D, A⟩, p, e, R, s, m, args, below, meth, c, Q⟩ := K
  obtain ⟨rfl, hx, hb, hml, hret, hlk, hown, hts, hSf, rfl, hQ⟩ := X
  intro ls H locs hl hP hS
  obtain ⟨hin, hf⟩ := q_in hf
  refine va_zast hx hb hSf.1 hP (hSf.2.1.D cA M) hS a 2 (bz_get hs) rfl (bz_vp hin) hd (fun H1 locs1 hP1 _ hS1 => ?_)
  rw [bz_cl, hnz, bz_u32] at hP1
  exact kk _ hf ls H1 locs1 hl (by rw [← bz_set hs]; exact hP1) hS1
theorem j_bast (X : bz_X K E cc nL own ret fr lo rv M1) {a n b : Nat} {j v : Int} {g : bz_Mm → Option ρ} (hs : bz_shl[a]? = some (.inl (3, n, b))) (hnz : vp_nar .byte (Int32.ofInt v) = Int32.ofInt v) (hd : decode cc pc = .ok (.bastore, 1)) (hf : wa_ M a j n v g = some r)
    (kk : ∀ M, g M = some r → bz_J K nL (pc + 1) lv st M) : bz_J K nL pc lv (bz_i v :: bz_i j :: bz_rf E a :: st) M := by
  obtain ⟨⟨l, ad, cA, D, A⟩, p, e, R, s, m, args, below, meth, c, Q⟩ := K
  obtain ⟨rfl, hx, hb, hml, hret, hlk, hown, hts, hSf, rfl, hQ⟩ := X
  intro ls H locs hl hP hS
  obtain ⟨hin, hf⟩ := q_in hf
  refine va_bast hx hb hSf.1 hP (hSf.2.1.D cA M) hS a 3 (bz_get hs) rfl (bz_vp hin) hd (fun H1 locs1 hP1 _ hS1 => ?_)
  rw [bz_cl, hnz, bz_u32] at hP1
  exact kk _ hf ls H1 locs1 hl (by rw [← bz_set hs]; exact hP1) hS1
theorem j_alen (X : bz_X K E cc nL own ret fr lo rv M1) {a eg n b : Nat} (hs : bz_shl[a]? = some (.inl (eg, n, b))) (he : eg < 8) (hd : decode cc pc = .ok (.arraylength, 1))
    (kk : bz_J K nL (pc + 1) lv (bz_i n :: st) M) : bz_J K nL pc lv (bz_rf E a :: st) M := by
  obtain ⟨⟨l, ad, cA, D, A⟩, p, e, R, s, m, args, below, meth, c, Q⟩ := K
  obtain ⟨rfl, hx, hb, hml, hret, hlk, hown, hts, hSf, rfl, hQ⟩ := X
  intro ls H locs hl hP hS
  have ht : ∃ ty, (bz_tys cA)[eg]? = some (cA eg, ty) := by
    match eg, he with
    | 0, _ => exact ⟨_, rfl⟩
    | 1, _ => exact ⟨_, rfl⟩
    | 2, _ => exact ⟨_, rfl⟩
    | 3, _ => exact ⟨_, rfl⟩
    | 4, _ => exact ⟨_, rfl⟩
    | 5, _ => exact ⟨_, rfl⟩
    | 6, _ => exact ⟨_, rfl⟩
    | 7, _ => exact ⟨_, rfl⟩
    | q + 8, h => exact absurd h (by omega)
  obtain ⟨ty, ht⟩ := ht
  exact va_alen hx hb hSf.1 hP a eg (bz_get hs) ht (v := Int32.ofInt n) (by show Int32.ofNat n = Int32.ofInt (n : Int); rfl) hd (kk ls H locs hl hP hS)
theorem bz_ref (eg : Nat) (h : 4 ≤ eg) (h8 : eg < 8) (cA : Nat → ClassId) : ∃ ty, (bz_tys cA)[eg]? = some (cA eg, ty) ∧ ty.isReference = true := by
  match eg, h, h8 with
  | 4, _, _ => exact ⟨_, rfl, rfl⟩
  | 5, _, _ => exact ⟨_, rfl, rfl⟩
  | 6, _, _ => exact ⟨_, rfl, rfl⟩
  | 7, _, _ => exact ⟨_, rfl, rfl⟩
  | q + 8, _, h => exact absurd h (by omega)
theorem j_aald (X : bz_X K E cc nL own ret fr lo rv M1) {a eg n b : Nat} {j : Int} {g : Nat → Option ρ} (hs : bz_shl[a]? = some (.inl (eg, n, b))) (he : 4 ≤ eg) (he8 : eg < 8) (hd : decode cc pc = .ok (.aaload, 1)) (hf : ra_ j n g = some r)
    (kk : ∀ i, i < n → g i = some r → bz_J K nL (pc + 1) lv (bz_rf E (b + i) :: st) M) : bz_J K nL pc lv (bz_i j :: bz_rf E a :: st) M := by
  obtain ⟨⟨l, ad, cA, D, A⟩, p, e, R, s, m, args, below, meth, c, Q⟩ := K
  obtain ⟨rfl, hx, hb, hml, hret, hlk, hown, hts, hSf, rfl, hQ⟩ := X
  intro ls H locs hl hP hS
  obtain ⟨hin, hf⟩ := q_in hf
  obtain ⟨ty, ht, hty⟩ := bz_ref eg he he8 cA
  have hlt : (w32 j).toNat < n := by omega
  have hc := hP a _ (bz_get hs)
  have harr : bz_arr ad eg b (M a) = .inr (.inr (.inr (.inr (fun j => some (ad (b + j)))))) := by
    match eg, he with
    | q + 4, _ => rfl
  have hc2 : H[ad a]? = some (vp_cell (cA eg) (n, .inr (.inr (.inr (.inr (fun j => some (ad (b + j)))))))) := by rw [← harr]; exact hc
  rw [vp_cell_q] at hc2
  have q := kk _ hlt hf ls H locs hl hP hS
  refine W.aald hx hb hc2 ((hSf.1.2 eg _ ht).1 n _) hty (fun q => by cases q) ?_ ?_ rfl rfl hd q
  · show ¬ (_ ∨ (arrV _ _ _).slots.size ≤ _); rw [arrV_size]; exact bz_vp hin
  · show (arrV _ _ _).slots[_]? = _; rw [bz_cl, arrV_read _ _ hlt]; rfl
theorem j_iret (X : bz_X K E cc nL own (some .int) fr lo rv M1) {x : Int} (hd : decode cc pc = .ok (.ireturn, 1)) (hr : some (bz_i x) = rv) (hm : M = M1) : bz_J K nL pc lv [bz_i x] M := by
  obtain ⟨⟨l, ad, cA, D, A⟩, p, e, R, s, m, args, below, meth, c, Q⟩ := K
  obtain ⟨rfl, hx, hb, hml, hret, hlk, hown, hts, hSf, rfl, hQ⟩ := X
  intro ls H locs hl hP hS
  subst hr; subst hm; subst hQ
  exact W.iret hx hb hret (fun t ht _ => ⟨rfl, by rw [ht]; exact hP, hS.F ht⟩) hS.2.2 hd hlk
theorem j_lret (X : bz_X K E cc nL own (some .long) fr lo rv M1) {x : Int} (hd : decode cc pc = .ok (.lreturn, 1)) (hr : some (bz_l x) = rv) (hm : M = M1) : bz_J K nL pc lv [bz_l x] M := by
  obtain ⟨⟨l, ad, cA, D, A⟩, p, e, R, s, m, args, below, meth, c, Q⟩ := K
  obtain ⟨rfl, hx, hb, hml, hret, hlk, hown, hts, hSf, rfl, hQ⟩ := X
  intro ls H locs hl hP hS
  subst hr; subst hm; subst hQ
  exact W.lret hx hb hret (fun t ht _ => ⟨rfl, by rw [ht]; exact hP, hS.F ht⟩) hS.2.2 hd hlk
theorem j_zret (X : bz_X K E cc nL own (some ty) fr lo rv M1) {x : Int} (hn : narrow ty (bz_i x) = bz_i x) (hd : decode cc pc = .ok (.ireturn, 1)) (hr : some (bz_i x) = rv) (hm : M = M1) : bz_J K nL pc lv [bz_i x] M := by
  obtain ⟨⟨l, ad, cA, D, A⟩, p, e, R, s, m, args, below, meth, c, Q⟩ := K
  obtain ⟨rfl, hx, hb, hml, hret, hlk, hown, hts, hSf, rfl, hQ⟩ := X
  intro ls H locs hl hP hS
  subst hr; subst hm; subst hQ
  exact W.zret hx hb hret hn (fun t ht _ => ⟨rfl, by rw [ht]; exact hP, hS.F ht⟩) hS.2.2 hd hlk
theorem j_vret (X : bz_X K E cc nL own none fr lo rv M1) (hd : decode cc pc = .ok (.return_, 1)) (hr : none = rv) (hm : M = M1) : bz_J K nL pc lv [] M := by
  obtain ⟨⟨l, ad, cA, D, A⟩, p, e, R, s, m, args, below, meth, c, Q⟩ := K
  obtain ⟨rfl, hx, hb, hml, hret, hlk, hown, hts, hSf, rfl, hQ⟩ := X
  intro ls H locs hl hP hS
  subst hr; subst hm; subst hQ
  exact W.vret hx hb hret (fun t ht _ => ⟨rfl, by rw [ht]; exact hP, hS.F ht⟩) hS.2.2 hd hlk
end BZ
