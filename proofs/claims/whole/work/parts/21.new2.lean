theorem wc_1 : (Jvm.Cond.arrayClass Jvm.ClassFile.FieldType.long) ∈ bz_T := bz_in 72 (by decide +kernel) rfl
theorem wc_0 : (Jvm.Cond.arrayClass Jvm.ClassFile.FieldType.int) ∈ bz_T := bz_in 73 (by decide +kernel) rfl
theorem wc_2 : (Jvm.Cond.arrayClass Jvm.ClassFile.FieldType.boolean) ∈ bz_T := bz_in 74 (by decide +kernel) rfl
theorem wc_3 : (Jvm.Cond.arrayClass Jvm.ClassFile.FieldType.byte) ∈ bz_T := bz_in 762 (by decide +kernel) rfl
section BM
variable {K : bz_K} {E : bz_E} {b0 nL pc fr lo mc ms ce sl : Nat} {cc : ByteArray} {own : String} {S S1 S2 : List bz_Sh} {M M1 M2 : bz_Mm} {lv lv' : List (Nat × Value)} {st stk : List Value}
theorem n_istore_n (X : bn_X K E b0 cc nL own fr lo mc ms) {q : Fin 4} {i : Nat} {x : Int} (hd : decode cc pc = .ok (.istore_n q, 1)) (hi : (q : Nat) = i) (hn : i < nL) (hv : (i, bz_i x) :: lv.filter (fun q => !(q.1 == i) && !(q.1 + 1 == i && q.2.category == 2)) = lv')
    (k : bn_J K b0 nL (pc + 1) ce sl lv' st S M) : bn_J K b0 nL pc ce sl lv (bz_i x :: st) S M := by
  obtain ⟨⟨l, ad, cA, D, A⟩, p, e, R, s, m, args, below, meth, c, Q⟩ := K
  obtain ⟨rfl, hx, hb, hml, hown, hts, hSf, rfl⟩ := X
  intro ls H locs hl hz hP hS
  exact lv_istore_n hx hb hd hi hl hn hv (fun ls hl => k ls H locs hl hz hP hS)
theorem n_astore_n (X : bn_X K E b0 cc nL own fr lo mc ms) {q : Fin 4} {i x : Nat} (hd : decode cc pc = .ok (.astore_n q, 1)) (hi : (q : Nat) = i) (hn : i < nL) (hv : (i, .ref x) :: lv.filter (fun q => !(q.1 == i) && !(q.1 + 1 == i && q.2.category == 2)) = lv')
    (k : bn_J K b0 nL (pc + 1) ce sl lv' st S M) : bn_J K b0 nL pc ce sl lv (.ref x :: st) S M := by
  obtain ⟨⟨l, ad, cA, D, A⟩, p, e, R, s, m, args, below, meth, c, Q⟩ := K
  obtain ⟨rfl, hx, hb, hml, hown, hts, hSf, rfl⟩ := X
  intro ls H locs hl hz hP hS
  exact lv_astore_n hx hb hd hi hl hn hv (fun ls hl => k ls H locs hl hz hP hS)
theorem n_alen (X : bn_X K E b0 cc nL own fr lo mc ms) {a n b : Nat} (hs9 : S[a]? = some (.inl (0, n, b))) (hd : decode cc pc = .ok (.arraylength, 1))
    (k : bn_J K b0 nL (pc + 1) ce sl lv (bz_i n :: st) S M) : bn_J K b0 nL pc ce sl lv (.ref (b0 + a) :: st) S M := by
  obtain ⟨⟨l, ad, cA, D, A⟩, p, e, R, s, m, args, below, meth, c, Q⟩ := K
  obtain ⟨rfl, hx, hb, hml, hown, hts, hSf, rfl⟩ := X
  intro ls H locs hl hz hP hS
  exact va_alen hx hb hSf.1 hP a 0 (bn_get hs9) rfl (v := Int32.ofInt n) (by show Int32.ofNat n = Int32.ofInt (n : Int); rfl) hd (k ls H locs hl hz hP hS)
theorem n_icmp_ge (X : bn_X K E b0 cc nL own fr lo mc ms) {x y : Int} {off : Int} {tgt : Nat} (hd : decode cc pc = .ok (.if_icmp .ge off, 3)) (ht : (pc : Int) + off = (tgt : Int))
    (kt : w32 y ≤ w32 x → bn_J K b0 nL tgt ce sl lv st S M) (kf : w32 x < w32 y → bn_J K b0 nL (pc + 3) ce sl lv st S M) : bn_J K b0 nL pc ce sl lv (bz_i y :: bz_i x :: st) S M := by
  obtain ⟨⟨l, ad, cA, D, A⟩, p, e, R, s, m, args, below, meth, c, Q⟩ := K
  obtain ⟨rfl, hx, hb, hml, hown, hts, hSf, rfl⟩ := X
  intro ls H locs hl hz hP hS
  exact lv_icmp_ge hx hb hd ht (fun h => kt ((c32_le y x).mp h) ls H locs hl hz hP hS) (fun h => kf (by have := (not_congr (c32_le y x)).mp h; omega) ls H locs hl hz hP hS)
theorem n_iinc (X : bn_X K E b0 cc nL own fr lo mc ms) {i : Nat} {n x y : Int} (hd : decode cc pc = .ok (.iinc i n, 3)) (q : Nat) (hk : lv[q]? = some (i, bz_i x)) (hy : x + n = y) (hn : i < nL) (hv : (i, bz_i y) :: lv.filter (fun q => !(q.1 == i) && !(q.1 + 1 == i && q.2.category == 2)) = lv')
    (k : bn_J K b0 nL (pc + 3) ce sl lv' st S M) : bn_J K b0 nL pc ce sl lv st S M := by
  obtain ⟨⟨l, ad, cA, D, A⟩, p, e, R, s, m, args, below, meth, c, Q⟩ := K
  obtain ⟨rfl, hx, hb, hml, hown, hts, hSf, rfl⟩ := X
  intro ls H locs hl hz hP hS
  refine lv_iinc hx hb hd hl hk (by rw [← Int32.ofInt_add, hy]) hn hv (fun ls hl => k ls H locs hl hz hP hS)
theorem n_goto (X : bn_X K E b0 cc nL own fr lo mc ms) {off : Int} {tgt : Nat} (hd : decode cc pc = .ok (.goto off, 3)) (ht : (pc : Int) + off = (tgt : Int))
    (k : bn_J K b0 nL tgt ce sl lv st S M) : bn_J K b0 nL pc ce sl lv st S M := by
  obtain ⟨⟨l, ad, cA, D, A⟩, p, e, R, s, m, args, below, meth, c, Q⟩ := K
  obtain ⟨rfl, hx, hb, hml, hown, hts, hSf, rfl⟩ := X
  intro ls H locs hl hz hP hS
  exact lv_goto hx hb hd ht (k ls H locs hl hz hP hS)
theorem n_sub (ks : List Nat) (hk : lv_pick lv ks = lv') (k : bn_J K b0 nL pc ce sl lv' st S M) : bn_J K b0 nL pc ce sl lv st S M := by
  obtain ⟨⟨l, ad, cA, D, A⟩, p, e, R, s, m, args, below, meth, c, Q⟩ := K
  intro ls H locs hl hz hP hS
  exact k ls H locs (lv_sub hl ks hk) hz hP hS
theorem n_newA (X : bn_X K E b0 cc nL own fr lo mc ms) {aty : ArrayType} {ty : FieldType} {t n L : Nat} {z : Int} (hL : S.length = L) (hty : newarray.typeOf aty = ty) (hT : ∀ cA, (bz_tys cA)[t]? = some (cA t, ty)) (hv : ∀ (ad : Nat → Nat) (c : ClassId), vp_cell c (n, bz_arr ad t 0 (fun _ => 0)) = arrV c n (fun _ => defaultValue ty)) (hR : ∀ (U : State) (c d : ClassId), va_RA U c ty → U.vm.findClass ("[" ++ ty.toString) = some d → c = d) (hw : Cond.arrayClass ty ∈ bz_T) (hzn : Int32.ofInt z = nI n) (hn : n < 2 ^ 31) (hby : n * componentBytes ty ≤ 536870912) (hM : ∀ j, M (bn_id L) j = 0) (hc : ce + 1 ≤ mc) (hs : sl + n ≤ ms) (hd : decode cc pc = .ok (.newarray aty, 2))
    (k : bn_J K b0 nL (pc + 2) (ce + 1) (sl + n) lv (.ref (b0 + L) :: st) (S ++ [.inl (t, n, 0)]) M) : bn_J K b0 nL pc ce sl lv (bz_i z :: st) S M := by
  subst hL
  exact n_newa X hty hT hv hR hw hzn hn hby hM hc hs hd k
theorem n_newI (X : bn_X K E b0 cc nL own fr lo mc ms) {n L : Nat} {z : Int} (hL : S.length = L) (hzn : Int32.ofInt z = nI n) (hn : n < 100000) (hM : ∀ j, M (bn_id L) j = 0) (hc : ce + 1 ≤ mc) (hs : sl + n ≤ ms) (hd : decode cc pc = .ok (.newarray .int, 2))
    (k : bn_J K b0 nL (pc + 2) (ce + 1) (sl + n) lv (.ref (b0 + L) :: st) (S ++ [.inl (0, n, 0)]) M) : bn_J K b0 nL pc ce sl lv (bz_i z :: st) S M := by
  refine n_newA X hL (ty := .int) rfl (fun _ => rfl) (fun _ _ => rfl) (fun U c d h1 h2 => Option.some.inj (h1.symm.trans h2)) wc_0 hzn (by omega) ?_ hM hc hs hd k
  show n * componentBytes .int ≤ 536870912
  have : componentBytes .int ≤ 8 := by decide
  calc n * componentBytes .int ≤ n * 8 := Nat.mul_le_mul_left _ this
    _ ≤ 536870912 := by omega
theorem n_newJ (X : bn_X K E b0 cc nL own fr lo mc ms) {n L : Nat} {z : Int} (hL : S.length = L) (hzn : Int32.ofInt z = nI n) (hn : n < 100000) (hM : ∀ j, M (bn_id L) j = 0) (hc : ce + 1 ≤ mc) (hs : sl + n ≤ ms) (hd : decode cc pc = .ok (.newarray .long, 2))
    (k : bn_J K b0 nL (pc + 2) (ce + 1) (sl + n) lv (.ref (b0 + L) :: st) (S ++ [.inl (1, n, 0)]) M) : bn_J K b0 nL pc ce sl lv (bz_i z :: st) S M := by
  refine n_newA X hL (ty := .long) rfl (fun _ => rfl) (fun _ _ => rfl) (fun U c d h1 h2 => Option.some.inj (h1.symm.trans h2)) wc_1 hzn (by omega) ?_ hM hc hs hd k
  show n * componentBytes .long ≤ 536870912
  have : componentBytes .long ≤ 8 := by decide
  calc n * componentBytes .long ≤ n * 8 := Nat.mul_le_mul_left _ this
    _ ≤ 536870912 := by omega
theorem n_newZ (X : bn_X K E b0 cc nL own fr lo mc ms) {n L : Nat} {z : Int} (hL : S.length = L) (hzn : Int32.ofInt z = nI n) (hn : n < 100000) (hM : ∀ j, M (bn_id L) j = 0) (hc : ce + 1 ≤ mc) (hs : sl + n ≤ ms) (hd : decode cc pc = .ok (.newarray .boolean, 2))
    (k : bn_J K b0 nL (pc + 2) (ce + 1) (sl + n) lv (.ref (b0 + L) :: st) (S ++ [.inl (2, n, 0)]) M) : bn_J K b0 nL pc ce sl lv (bz_i z :: st) S M := by
  refine n_newA X hL (ty := .boolean) rfl (fun _ => rfl) (fun _ _ => rfl) (fun U c d h1 h2 => Option.some.inj (h1.symm.trans h2)) wc_2 hzn (by omega) ?_ hM hc hs hd k
  show n * componentBytes .boolean ≤ 536870912
  have : componentBytes .boolean ≤ 8 := by decide
  calc n * componentBytes .boolean ≤ n * 8 := Nat.mul_le_mul_left _ this
    _ ≤ 536870912 := by omega
theorem n_newB (X : bn_X K E b0 cc nL own fr lo mc ms) {n L : Nat} {z : Int} (hL : S.length = L) (hzn : Int32.ofInt z = nI n) (hn : n < 100000) (hM : ∀ j, M (bn_id L) j = 0) (hc : ce + 1 ≤ mc) (hs : sl + n ≤ ms) (hd : decode cc pc = .ok (.newarray .byte, 2))
    (k : bn_J K b0 nL (pc + 2) (ce + 1) (sl + n) lv (.ref (b0 + L) :: st) (S ++ [.inl (3, n, 0)]) M) : bn_J K b0 nL pc ce sl lv (bz_i z :: st) S M := by
  refine n_newA X hL (ty := .byte) rfl (fun _ => rfl) (fun _ _ => rfl) (fun U c d h1 h2 => Option.some.inj (h1.symm.trans h2)) wc_3 hzn (by omega) ?_ hM hc hs hd k
  show n * componentBytes .byte ≤ 536870912
  have : componentBytes .byte ≤ 8 := by decide
  calc n * componentBytes .byte ≤ n * 8 := Nat.mul_le_mul_left _ this
    _ ≤ 536870912 := by omega
theorem n_newO (X : bn_X K E b0 cc nL own fr lo mc ms) {C : String} {T : u_T} {N ci i L : Nat} {fs : List (Nat × Nat)} (hL : S.length = L) (hin : ∀ w ∈ u_ws C T N, w ∈ bz_T) (ty : Nat → FieldType) (hty : ∀ k, k < N → parseFieldDescriptor (T k).2.2.1 = some (ty k)) (hcl : Cond.classLink own i C ∈ bz_T) (hinst : Cond.instantiable C N ∈ bz_T) (hini : Cond.initialized C ∈ bz_T) (hc9 : bz_cls[ci]? = some (C, T, N)) (hfs : ∀ j, j < N → (fs[j]? = some (5, 0) ∧ defaultValue (ty j) = .null) ∨ ((fs[j]? = some (0, 0) ∨ fs[j]? = some (2, 0)) ∧ defaultValue (ty j) = .int 0)) (hM : ∀ j, M (bn_id L) j = 0) (hc : ce + 1 ≤ mc) (hs : sl + N ≤ ms) (hd : decode cc pc = .ok (.new i, 3))
    (k : bn_J K b0 nL (pc + 3) (ce + 1) (sl + N) lv (.ref (b0 + L) :: st) (S ++ [.inr (ci, fs)]) M) : bn_J K b0 nL pc ce sl lv st S M := by
  subst hL
  exact n_new X hin ty hty hcl hinst hini hc9 hfs hM hc hs hd k
/-- a static callee that makes nothing -/
theorem bn_metS {E : bz_E} {b0 : Nat} {y : MethodName} {cc : ByteArray} {maxL : Nat} {fr lo : Nat} {av : List Value} {S S1 : List bz_Sh} {M M1 : bz_Mm} (hy : plainFor y = true) (hn : (lg_sl av).length ≤ maxL)
    (h : ∀ K : bz_K, bn_X K E b0 cc maxL y.cls fr lo 0 0 → (match K with | ((_, ad, cA, D, A), _, _, _, s, _, args, below, meth, _, Q) => meth.sig.returnType = none ∧ meth.locks = false ∧ Q = MQ below (bn_Qc ad cA D A b0 S1 M1) args s 0 0 A) → bn_J K b0 maxL 0 0 0 (lv_args 0 av) [] S M) : bn_Ct E b0 y (.code y cc maxL none) fr lo 0 0 av S M S1 M1 := by
  obtain ⟨l, ad, cA, D, A⟩ := E
  refine va_MetF (cc := cc) (maxL := maxL) (ret := none) hy rfl ?_
  intro p e s m args below meth c s₁ B hml hv
  obtain ⟨rfl, hsz, hP, hSf⟩ := hv
  have hts0 := atoms_spec (ws := .code y cc maxL none :: bz_T) B.pre
  have hl := lv_entry av (n := maxL) hn
  rw [lg_entry_eq]
  generalize (lg_sl av ++ List.replicate (maxL - (lg_sl av).length) Slot.unset).toArray = ls at hl ⊢
  refine h ((l, ad, cA, D, A), p, e, bn_rm fr lo 0 0, s, m, av.toArray, below, meth, c, MQ below (bn_Qc ad cA D A b0 S1 M1) av.toArray s 0 0 A) ⟨rfl, B.exec, B.bytes, hml, findClass_of_methodNamed B.named, fun w hw => hts0 w (List.mem_cons_of_mem _ hw), hSf, rfl⟩ ⟨B.returns, B.notSynchronized, rfl⟩ ls s.heap [] hl hsz hP va_S.rf
/-- the memory with n places of one row filled -/
def fl_ (M : bz_Mm) (a n : Nat) (v : Int) : bz_Mm := fun b => if b = a then (fun j => if j < n then v else M a j) else M b
theorem fl_0 (M : bz_Mm) (a : Nat) (v : Int) : fl_ M a 0 v = M := by
  funext b j; unfold fl_; by_cases h : b = a
  · subst h; simp
  · simp [h]
theorem fl_s (M : bz_Mm) (a n : Nat) (v : Int) : st_ (fl_ M a n v) a n v = fl_ M a (n + 1) v := by
  funext b j; unfold fl_ st_ ud; by_cases h : b = a
  · subst h
    by_cases h1 : j = n
    · subst h1; simp
    · by_cases h2 : j < n
      · simp [h1, h2, Nat.lt_succ_of_lt h2]
      · simp [h1, h2, show ¬ j < n + 1 by omega]
  · simp [h]
set_option maxRecDepth 20000 in
theorem n_fill (E : bz_E) (b0 : Nat) {S : List bz_Sh} {M : bz_Mm} {a n : Nat} {v : Int} (hl3 : S.length ≤ 300) (hs9 : S[a]? = some (.inl (0, n, 0))) (hn : n < 100000) : bn_Ct E b0 yJA_fill1 (.code yJA_fill1 prog_21_method_103_code 4 none) 0 0 0 0 [.ref (b0 + a), bz_i v] S M S (fl_ M (bn_id a) n v) := by
  refine bn_metS (by decide +kernel) (Nat.le_of_ble_eq_true rfl) (fun K X Y => ?_)
  have X : bn_X K E b0 prog_21_method_103_code 4 "java/util/Arrays" 0 0 0 0 := X
  have hw : ∀ q : Nat, q ≤ n → w32 (q : Int) = q := fun q hq => w32_id (by omega) (by omega)
  have loop : ∀ k i : Nat, k + i = n → bn_J K b0 4 5 0 0 [(3, bz_i n), (2, bz_i i), (0, .ref (b0 + a)), (1, bz_i v)] [] S (fl_ M (bn_id a) i v) := by
    intro k
    induction k with
    | zero =>
      intro i hi
      have hi : i = n := by omega
      subst hi
      refine n_iload_n X dJA_fill1_5 rfl 1 rfl ?_
      refine n_iload_n X dJA_fill1_6 rfl 0 rfl ?_
      refine n_icmp_ge X (tgt := 20) dJA_fill1_7 (by decide) (fun _ => ?_) (fun h => absurd h (by omega))
      obtain ⟨⟨l, ad, cA, D, A⟩, p, e, R, s, m, args, below, meth, c, Q⟩ := K
      obtain ⟨y1, y2, y4⟩ := Y
      obtain ⟨rfl, hx, hb, hml, hown, hts, hSf, rfl⟩ := X
      intro ls H locs hl hz hP hS
      subst y4
      exact W.vret hx hb y1 (fun t ht _ => ⟨rfl, by rw [ht]; exact hz, by rw [ht]; exact hP, hS.F ht⟩) hS.2.2 dJA_fill1_20 y2
    | succ k ih =>
      intro i hi
      refine n_iload_n X dJA_fill1_5 rfl 1 rfl ?_
      refine n_iload_n X dJA_fill1_6 rfl 0 rfl ?_
      refine n_icmp_ge X (tgt := 20) dJA_fill1_7 (by decide) (fun h => absurd h (by rw [hw n (Nat.le_refl n), hw i (by omega)]; omega)) (fun _ => ?_)
      refine n_aload_n X dJA_fill1_10 rfl 2 rfl ?_
      refine n_iload_n X dJA_fill1_11 rfl 1 rfl ?_
      refine n_iload_n X dJA_fill1_12 rfl 3 rfl ?_
      refine n_iast X hl3 hs9 (by rw [hw i (by omega)]; omega) dJA_fill1_13 ?_
      rw [hw i (by omega), Int.toNat_natCast, fl_s]
      refine n_iinc X (y := ((i + 1 : Nat) : Int)) (lv' := [(2, bz_i ((i + 1 : Nat) : Int)), (3, bz_i n), (0, .ref (b0 + a)), (1, bz_i v)]) dJA_fill1_14 1 rfl (by omega) (by decide) rfl ?_
      refine n_goto X (tgt := 5) dJA_fill1_17 (by decide) ?_
      exact n_sub [1, 0, 2, 3] rfl (ih (i + 1) (by omega))
  show bn_J K b0 4 0 0 0 [(0, .ref (b0 + a)), (1, bz_i v)] [] S M
  refine n_iconst X dJA_fill1_0 ?_
  refine n_istore_n X (lv' := [(2, bz_i 0), (0, .ref (b0 + a)), (1, bz_i v)]) dJA_fill1_1 rfl (by decide) rfl ?_
  refine n_aload_n X dJA_fill1_2 rfl 1 rfl ?_
  refine n_alen X hs9 dJA_fill1_3 ?_
  refine n_istore_n X (lv' := [(3, bz_i n), (2, bz_i 0), (0, .ref (b0 + a)), (1, bz_i v)]) dJA_fill1_4 rfl (by decide) rfl ?_
  have := loop n 0 (by omega)
  rw [fl_0] at this
  exact this
theorem n_cs (X : bn_X K E b0 cc nL own fr lo mc ms) {y : MethodName} {bytes : ByteArray} {maxL : Nat} {fr2 lo2 i n : Nat} {As : List Value} (hM : bn_Ct E b0 y (.code y bytes maxL none) fr2 lo2 0 0 As S M S2 M2) (hy : bz_Gy y bytes maxL none n) (hstat : Cond.static y ∈ bz_T) (hn : As.length = n) (hfr : fr2 + 1 ≤ fr) (hlo : 8 + (maxL + 11) + lo2 ≤ lo) (hlink : Cond.methodLink own i y ∈ bz_T)
    (hstk : As.reverse ++ st = stk) (hst : (st.map fun v => v.category).sum ≤ 8) (hc : ce ≤ mc) (hs : sl ≤ ms) (hd : decode cc pc = .ok (.invokestatic i, 3))
    (k : bn_J K b0 nL (pc + 3) ce sl lv st S2 M2) : bn_J K b0 nL pc ce sl lv stk S M := by
  obtain ⟨⟨l, ad, cA, D, A⟩, p, e, R, s, m, args, below, meth, c, Q⟩ := K
  obtain ⟨rfl, hx, hb, hml, hown, hts, hSf, rfl⟩ := X
  intro ls H locs hl hz hP hS
  subst hstk; subst hn
  obtain ⟨c1, c2, c3, c4⟩ := hy
  refine bn_ran (va_runS ⟨hx, hb, hml, hown, hts⟩ hM ⟨⟨rfl, rfl, hfr, hlo, ?_, List.mem_cons_self, hts _ c1, hts _ c2, c3, ?_, hts _ hlink⟩, hts _ hstat⟩ ⟨bn_blind, fun U hU hW => ⟨rfl, by rw [hU]; exact hz, by rw [hU]; exact hP, hSf.go hW hS hU⟩⟩ rfl rfl hl.1 rfl (lv_room hst) hd ⟨hc, hs⟩) hS (fun H1 locs1 hz1 hP1 hS1 => k ls H1 locs1 hl hz1 hP1 hS1)
  · intro w hw a' U hW
    rcases List.mem_cons.mp hw with h | h
    · rw [h]; exact pay_in hts bz_goodT _ c1 a' U hW
    · exact pay_in hts bz_goodT _ h a' U hW
  · intro sig h
    rw [h] at c4
    exact (Option.some.inj c4).symm
end BM
