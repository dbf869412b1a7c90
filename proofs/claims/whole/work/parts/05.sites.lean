/-! sites: what an instruction links, in one word -/
def bz_Gf (own : String) (i a k : Nat) (kt : Nat × Nat) : Prop := ∃ (ci : Nat) (C : String) (T : u_T) (N : Nat) (fs : List (Nat × Nat)), (∀ w ∈ u_ws C T N, w ∈ bz_T) ∧ bz_cls[ci]? = some (C, T, N) ∧ bz_shl[a]? = some (.inr (ci, fs)) ∧ k < N ∧ (Cond.fieldLink own i (T k).1 (T k).2.1 (T k).2.2.1) ∈ bz_T ∧ fs[k]? = some kt
def bz_Pf (own : String) (i a k : Nat) (kt : Nat × Nat) (ty : FieldType) : Prop := ∃ (ci : Nat) (C : String) (T : u_T) (N : Nat) (fs : List (Nat × Nat)) (ty0 : Nat → FieldType), (∀ w ∈ u_ws C T N, w ∈ bz_T) ∧ bz_cls[ci]? = some (C, T, N) ∧ bz_shl[a]? = some (.inr (ci, fs)) ∧ k < N ∧ (Cond.fieldLink own i (T k).1 (T k).2.1 (T k).2.2.1) ∈ bz_T ∧ fs[k]? = some kt ∧ (∀ k, k < N → parseFieldDescriptor (T k).2.2.1 = some (ty0 k)) ∧ (∀ a, a < N → ∀ b, b < N → a ≠ b → (T a).2.1 ≠ (T b).2.1) ∧ (T k).2.2.2 = false ∧ ty0 k = ty
/-- a callee, wherever it is called from -/
def bz_Gy (y : MethodName) (bytes : ByteArray) (maxL : Nat) (ret2 : Option FieldType) (n : Nat) : Prop := .code y bytes maxL ret2 ∈ bz_T ∧ (Cond.initialized y.cls) ∈ bz_T ∧ (y.cls ≠ "java/lang/invoke/MethodHandle" ∧ y.cls ≠ "java/lang/invoke/VarHandle") ∧ (parseMethodDescriptor y.desc).map (fun d => d.parameters.length) = some n
def bz_Gv (y : MethodName) (a : Nat) : Prop := Cond.instanceMethod y ∈ bz_T ∧ Cond.selects y.cls y y ∈ bz_T ∧ ∃ (ci N : Nat) (T : u_T) (fs : List (Nat × Nat)), bz_cls[ci]? = some (y.cls, T, N) ∧ bz_shl[a]? = some (.inr (ci, fs))
section BS
variable {K : bz_K} {E : bz_E} {cc : ByteArray} {nL pc : Nat} {own : String} {ret : Option FieldType} {fr lo : Nat} {rv : Option Value} {M1 M M2 : bz_Mm} {lv lv' : List (Nat × Value)} {st stk : List Value} {ρ : Type} {r : ρ}
theorem j_geti (X : bz_X K E cc nL own ret fr lo rv M1) {i a k : Nat} (h : bz_Gf own i a k (0, 0)) (hd : decode cc pc = .ok (.getfield i, 3)) (kk : bz_J K nL (pc + 3) lv (bz_i (M a k) :: st) M) : bz_J K nL pc lv (bz_rf E a :: st) M := by
  obtain ⟨ci, C, T, N, fs, h1, h2, h3, h4, h5, h6⟩ := h
  exact j_get X h1 h2 h3 h4 rfl h5 h6 hd kk
theorem j_getz (X : bz_X K E cc nL own ret fr lo rv M1) {i a k : Nat} (h : bz_Gf own i a k (2, 0)) (hd : decode cc pc = .ok (.getfield i, 3)) (kk : bz_J K nL (pc + 3) lv (bz_i (M a k) :: st) M) : bz_J K nL pc lv (bz_rf E a :: st) M := by
  obtain ⟨ci, C, T, N, fs, h1, h2, h3, h4, h5, h6⟩ := h
  exact j_get X h1 h2 h3 h4 rfl h5 h6 hd kk
theorem j_geta (X : bz_X K E cc nL own ret fr lo rv M1) {i a k t : Nat} (h : bz_Gf own i a k (4, t)) (hd : decode cc pc = .ok (.getfield i, 3)) (kk : bz_J K nL (pc + 3) lv (bz_rf E t :: st) M) : bz_J K nL pc lv (bz_rf E a :: st) M := by
  obtain ⟨ci, C, T, N, fs, h1, h2, h3, h4, h5, h6⟩ := h
  exact j_get X h1 h2 h3 h4 rfl h5 h6 hd kk
theorem j_puti (X : bz_X K E cc nL own ret fr lo rv M1) {i a k : Nat} {v : Int} {g : bz_Mm → Option ρ} (h : bz_Pf own i a k (0, 0) .int) (hd : decode cc pc = .ok (.putfield i, 3)) (hg : wf_ M a k v g = some r) (kk : ∀ M, g M = some r → bz_J K nL (pc + 3) lv st M) : bz_J K nL pc lv (bz_i v :: bz_rf E a :: st) M := by
  obtain ⟨ci, C, T, N, fs, ty0, h1, h2, h3, h4, h5, h6, h7, h8, h9, h10⟩ := h
  exact j_put X h1 h2 h3 h4 rfl h5 ty0 h7 h8 h6 h9 h10 rfl rfl hd hg kk
theorem j_putz (X : bz_X K E cc nL own ret fr lo rv M1) {i a k : Nat} {v : Int} {g : bz_Mm → Option ρ} (h : bz_Pf own i a k (2, 0) .boolean) (hn : narrow .boolean (bz_i v) = bz_i v) (hft : fits .boolean (bz_i v) = true) (hd : decode cc pc = .ok (.putfield i, 3)) (hg : wf_ M a k v g = some r) (kk : ∀ M, g M = some r → bz_J K nL (pc + 3) lv st M) : bz_J K nL pc lv (bz_i v :: bz_rf E a :: st) M := by
  obtain ⟨ci, C, T, N, fs, ty0, h1, h2, h3, h4, h5, h6, h7, h8, h9, h10⟩ := h
  exact j_put X h1 h2 h3 h4 rfl h5 ty0 h7 h8 h6 h9 h10 hn hft hd hg kk
theorem j_cv (X : bz_X K E cc nL own ret fr lo rv M1) {y : MethodName} {bytes : ByteArray} {maxL : Nat} {ret2 : Option FieldType} {fr2 lo2 i a n : Nat} {As : List Value} {rv2 : Option Value}
    (hM : bz_Ct E y (.code y bytes maxL ret2) fr2 lo2 (bz_rf E a :: As) M rv2 M2) (hy : bz_Gy y bytes maxL ret2 n) (hv : bz_Gv y a) (hn : As.length = n) (hfr : fr2 + 1 ≤ fr) (hlo : 8 + (maxL + 11) + lo2 ≤ lo) (hlink : Cond.methodLink own i y ∈ bz_T)
    (hstk : As.reverse ++ bz_rf E a :: st = stk) (hst : (st.map fun v => v.category).sum ≤ 8) (hd : decode cc pc = .ok (.invokevirtual i, 3))
    (k : bz_J K nL (pc + 3) lv (rv2.toList ++ st) M2) : bz_J K nL pc lv stk M := by
  subst hn
  obtain ⟨a1, a2, a3, a4⟩ := hy
  obtain ⟨b1, b2, ci, N, T, fs, b3, b4⟩ := hv
  exact j_callV X hM ⟨a1, a2, a3, a4, hfr, hlo⟩ hlink b1 b2 b3 b4 hstk hst hd k
theorem j_cs (X : bz_X K E cc nL own ret fr lo rv M1) {y : MethodName} {bytes : ByteArray} {maxL : Nat} {ret2 : Option FieldType} {fr2 lo2 i n : Nat} {As : List Value} {rv2 : Option Value}
    (hM : bz_Ct E y (.code y bytes maxL ret2) fr2 lo2 As M rv2 M2) (hy : bz_Gy y bytes maxL ret2 n) (hs : Cond.static y ∈ bz_T) (hn : As.length = n) (hfr : fr2 + 1 ≤ fr) (hlo : 8 + (maxL + 11) + lo2 ≤ lo) (hlink : Cond.methodLink own i y ∈ bz_T)
    (hstk : As.reverse ++ st = stk) (hst : (st.map fun v => v.category).sum ≤ 8) (hd : decode cc pc = .ok (.invokestatic i, 3))
    (k : bz_J K nL (pc + 3) lv (rv2.toList ++ st) M2) : bz_J K nL pc lv stk M := by
  subst hn
  obtain ⟨a1, a2, a3, a4⟩ := hy
  exact j_callS X hM ⟨a1, a2, a3, a4, hfr, hlo⟩ hlink hs hstk hst hd k
theorem j_cn (X : bz_X K E cc nL own ret fr lo rv M1) {y : MethodName} {bytes : ByteArray} {maxL : Nat} {ret2 : Option FieldType} {fr2 lo2 i n : Nat} {host : String} {As : List Value} {rv2 : Option Value}
    (hM : bz_Ct E y (.code y bytes maxL ret2) fr2 lo2 As M rv2 M2) (hy : bz_Gy y bytes maxL ret2 n) (hs : Cond.static y ∈ bz_T) (hn : As.length = n) (hfr : fr2 + 1 ≤ fr) (hlo : 8 + (maxL + 11) + lo2 ≤ lo) (hlink : Cond.methodLinkNest own i y host ∈ bz_NL)
    (hstk : As.reverse ++ st = stk) (hst : (st.map fun v => v.category).sum ≤ 8) (hd : decode cc pc = .ok (.invokestatic i, 3))
    (k : bz_J K nL (pc + 3) lv (rv2.toList ++ st) M2) : bz_J K nL pc lv stk M := by
  subst hn
  obtain ⟨a1, a2, a3, a4⟩ := hy
  exact j_callN X hM ⟨a1, a2, a3, a4, hfr, hlo⟩ hlink hs hstk hst hd k
theorem j_irl (X : bz_X K E cc nL own ret fr lo rv M1) {x y y' : Int} (h1 : w32 y = y') (h0 : y' ≠ 0) (hd : decode cc pc = .ok (.irem, 1)) (kk : bz_J K nL (pc + 1) lv (bz_i ((w32 x).tmod y') :: st) M) : bz_J K nL pc lv (bz_i y :: bz_i x :: st) M := by
  subst h1
  exact j_irem X (r := ()) (k := fun z => if z = (w32 x).tmod (w32 y) then some () else none) hd (by unfold rm_; rw [if_neg h0]; exact if_pos rfl) (fun z hz => by obtain ⟨rfl, -⟩ := q_in hz; exact kk)
theorem j_ldl (X : bz_X K E cc nL own ret fr lo rv M1) {x y y' : Int} (h1 : w64 y = y') (h0 : y' ≠ 0) (hd : decode cc pc = .ok (.ldiv, 1)) (kk : bz_J K nL (pc + 1) lv (bz_l ((w64 x).tdiv y') :: st) M) : bz_J K nL pc lv (bz_l y :: bz_l x :: st) M := by
  subst h1
  exact j_ldiv X (r := ()) (k := fun z => if z = (w64 x).tdiv (w64 y) then some () else none) hd (by unfold dv_; rw [if_neg h0]; exact if_pos rfl) (fun z hz => by obtain ⟨rfl, -⟩ := q_in hz; exact kk)
/-- the static row of Laws -/
theorem j_gets (X : bz_X K E cc nL "UnitsWrong$Laws" ret fr lo rv M1) {i : Nat} (hw : Cond.fieldLink "UnitsWrong$Laws" i "UnitsWrong$Laws" "WITHOUT" "[I" ∈ bz_T) (hd : decode cc pc = .ok (.getstatic i, 3)) (kk : bz_J K nL (pc + 3) lv (bz_rf E 990 :: st) M) : bz_J K nL pc lv st M := by
  obtain ⟨⟨l, ad, cA, D, A⟩, p, e, R, s, m, args, below, meth, c, Q⟩ := K
  obtain ⟨rfl, hx, hb, hml, hret, hlk, hown, hts, hSf, rfl, hQ⟩ := X
  intro ls H locs hl hP hS
  exact va_gets hx hb hSf.2.2.2.2.2.1 hS hown (hts _ hw) (fun _ h => h) hd (kk ls H locs hl hP hS)
def wo_ (j : Int) : Int := bz_wo.getD (w32 j).toNat 0
def rw_ {α : Type} (j : Int) (k : Int → Option α) : Option α := if 0 ≤ w32 j ∧ w32 j < (12 : Nat) then k (wo_ j) else none
theorem j_wald (X : bz_X K E cc nL own ret fr lo rv M1) {j : Int} {g : Int → Option ρ} (hd : decode cc pc = .ok (.iaload, 1)) (hf : rw_ j g = some r) (kk : ∀ x, g x = some r → bz_J K nL (pc + 1) lv (bz_i x :: st) M) : bz_J K nL pc lv (bz_i j :: bz_rf E 990 :: st) M := by
  obtain ⟨⟨l, ad, cA, D, A⟩, p, e, R, s, m, args, below, meth, c, Q⟩ := K
  obtain ⟨rfl, hx, hb, hml, hret, hlk, hown, hts, hSf, rfl, hQ⟩ := X
  intro ls H locs hl hP hS
  obtain ⟨hin, hf⟩ := q_in hf
  exact va_ti hx hb hSf.2.2.2.2.2.2.1 hS (bz_vp hin) (v := bz_i (wo_ j)) (by rw [bz_cl]; rfl) hd (kk _ hf ls H locs hl hP hS)
end BS
def cl1_ {α A0 : Type} (f : Option (A0)) (k : A0 → Option α) : Option α := match f with
  | none => none
  | some x => k x
theorem q_l1 {α A0 : Type} {f : Option (A0)} {k : A0 → Option α} {r : α} (h : cl1_ f k = some r) : ∃ x, f = some x ∧ ∀ (a0 : A0), some (a0) = some x → k a0 = some r := by
  cases f with
  | none => cases h
  | some x => exact ⟨x, rfl, fun a0 e => by cases e; exact h⟩
def cs1_ {α β A0 : Type} (f : Option (β ⊕ (A0))) (l : β → Option α) (k : A0 → Option α) : Option α := match f with
  | none => none
  | some (.inl b) => l b
  | some (.inr x) => k x
theorem q_s1 {α β A0 : Type} {f : Option (β ⊕ (A0))} {l : β → Option α} {k : A0 → Option α} {r : α} (h : cs1_ f l k = some r) : ∃ x, f = some x ∧ (∀ (a0 : A0), some (.inr (a0)) = some x → k a0 = some r) ∧ ∀ b, some (.inl b) = some x → l b = some r := by
  cases f with
  | none => cases h
  | some x => cases x with
    | inl b => exact ⟨_, rfl, (fun a0 e => by cases e), (fun b e => by cases e; exact h)⟩
    | inr x => exact ⟨_, rfl, (fun a0 e => by cases e; exact h), (fun b e => by cases e)⟩
def cl2_ {α A0 A1 : Type} (f : Option (A0 × A1)) (k : A0 → A1 → Option α) : Option α := match f with
  | none => none
  | some x => k x.1 x.2
theorem q_l2 {α A0 A1 : Type} {f : Option (A0 × A1)} {k : A0 → A1 → Option α} {r : α} (h : cl2_ f k = some r) : ∃ x, f = some x ∧ ∀ (a0 : A0) (a1 : A1), some (a0, a1) = some x → k a0 a1 = some r := by
  cases f with
  | none => cases h
  | some x => exact ⟨x, rfl, fun a0 a1 e => by cases e; exact h⟩
def cs2_ {α β A0 A1 : Type} (f : Option (β ⊕ (A0 × A1))) (l : β → Option α) (k : A0 → A1 → Option α) : Option α := match f with
  | none => none
  | some (.inl b) => l b
  | some (.inr x) => k x.1 x.2
theorem q_s2 {α β A0 A1 : Type} {f : Option (β ⊕ (A0 × A1))} {l : β → Option α} {k : A0 → A1 → Option α} {r : α} (h : cs2_ f l k = some r) : ∃ x, f = some x ∧ (∀ (a0 : A0) (a1 : A1), some (.inr (a0, a1)) = some x → k a0 a1 = some r) ∧ ∀ b, some (.inl b) = some x → l b = some r := by
  cases f with
  | none => cases h
  | some x => cases x with
    | inl b => exact ⟨_, rfl, (fun a0 a1 e => by cases e), (fun b e => by cases e; exact h)⟩
    | inr x => exact ⟨_, rfl, (fun a0 a1 e => by cases e; exact h), (fun b e => by cases e)⟩
def cl3_ {α A0 A1 A2 : Type} (f : Option (A0 × A1 × A2)) (k : A0 → A1 → A2 → Option α) : Option α := match f with
  | none => none
  | some x => k x.1 x.2.1 x.2.2
theorem q_l3 {α A0 A1 A2 : Type} {f : Option (A0 × A1 × A2)} {k : A0 → A1 → A2 → Option α} {r : α} (h : cl3_ f k = some r) : ∃ x, f = some x ∧ ∀ (a0 : A0) (a1 : A1) (a2 : A2), some (a0, a1, a2) = some x → k a0 a1 a2 = some r := by
  cases f with
  | none => cases h
  | some x => exact ⟨x, rfl, fun a0 a1 a2 e => by cases e; exact h⟩
def cs3_ {α β A0 A1 A2 : Type} (f : Option (β ⊕ (A0 × A1 × A2))) (l : β → Option α) (k : A0 → A1 → A2 → Option α) : Option α := match f with
  | none => none
  | some (.inl b) => l b
  | some (.inr x) => k x.1 x.2.1 x.2.2
theorem q_s3 {α β A0 A1 A2 : Type} {f : Option (β ⊕ (A0 × A1 × A2))} {l : β → Option α} {k : A0 → A1 → A2 → Option α} {r : α} (h : cs3_ f l k = some r) : ∃ x, f = some x ∧ (∀ (a0 : A0) (a1 : A1) (a2 : A2), some (.inr (a0, a1, a2)) = some x → k a0 a1 a2 = some r) ∧ ∀ b, some (.inl b) = some x → l b = some r := by
  cases f with
  | none => cases h
  | some x => cases x with
    | inl b => exact ⟨_, rfl, (fun a0 a1 a2 e => by cases e), (fun b e => by cases e; exact h)⟩
    | inr x => exact ⟨_, rfl, (fun a0 a1 a2 e => by cases e; exact h), (fun b e => by cases e)⟩
def cl4_ {α A0 A1 A2 A3 : Type} (f : Option (A0 × A1 × A2 × A3)) (k : A0 → A1 → A2 → A3 → Option α) : Option α := match f with
  | none => none
  | some x => k x.1 x.2.1 x.2.2.1 x.2.2.2
theorem q_l4 {α A0 A1 A2 A3 : Type} {f : Option (A0 × A1 × A2 × A3)} {k : A0 → A1 → A2 → A3 → Option α} {r : α} (h : cl4_ f k = some r) : ∃ x, f = some x ∧ ∀ (a0 : A0) (a1 : A1) (a2 : A2) (a3 : A3), some (a0, a1, a2, a3) = some x → k a0 a1 a2 a3 = some r := by
  cases f with
  | none => cases h
  | some x => exact ⟨x, rfl, fun a0 a1 a2 a3 e => by cases e; exact h⟩
def cs4_ {α β A0 A1 A2 A3 : Type} (f : Option (β ⊕ (A0 × A1 × A2 × A3))) (l : β → Option α) (k : A0 → A1 → A2 → A3 → Option α) : Option α := match f with
  | none => none
  | some (.inl b) => l b
  | some (.inr x) => k x.1 x.2.1 x.2.2.1 x.2.2.2
theorem q_s4 {α β A0 A1 A2 A3 : Type} {f : Option (β ⊕ (A0 × A1 × A2 × A3))} {l : β → Option α} {k : A0 → A1 → A2 → A3 → Option α} {r : α} (h : cs4_ f l k = some r) : ∃ x, f = some x ∧ (∀ (a0 : A0) (a1 : A1) (a2 : A2) (a3 : A3), some (.inr (a0, a1, a2, a3)) = some x → k a0 a1 a2 a3 = some r) ∧ ∀ b, some (.inl b) = some x → l b = some r := by
  cases f with
  | none => cases h
  | some x => cases x with
    | inl b => exact ⟨_, rfl, (fun a0 a1 a2 a3 e => by cases e), (fun b e => by cases e; exact h)⟩
    | inr x => exact ⟨_, rfl, (fun a0 a1 a2 a3 e => by cases e; exact h), (fun b e => by cases e)⟩
def cl5_ {α A0 A1 A2 A3 A4 : Type} (f : Option (A0 × A1 × A2 × A3 × A4)) (k : A0 → A1 → A2 → A3 → A4 → Option α) : Option α := match f with
  | none => none
  | some x => k x.1 x.2.1 x.2.2.1 x.2.2.2.1 x.2.2.2.2
theorem q_l5 {α A0 A1 A2 A3 A4 : Type} {f : Option (A0 × A1 × A2 × A3 × A4)} {k : A0 → A1 → A2 → A3 → A4 → Option α} {r : α} (h : cl5_ f k = some r) : ∃ x, f = some x ∧ ∀ (a0 : A0) (a1 : A1) (a2 : A2) (a3 : A3) (a4 : A4), some (a0, a1, a2, a3, a4) = some x → k a0 a1 a2 a3 a4 = some r := by
  cases f with
  | none => cases h
  | some x => exact ⟨x, rfl, fun a0 a1 a2 a3 a4 e => by cases e; exact h⟩
def cs5_ {α β A0 A1 A2 A3 A4 : Type} (f : Option (β ⊕ (A0 × A1 × A2 × A3 × A4))) (l : β → Option α) (k : A0 → A1 → A2 → A3 → A4 → Option α) : Option α := match f with
  | none => none
  | some (.inl b) => l b
  | some (.inr x) => k x.1 x.2.1 x.2.2.1 x.2.2.2.1 x.2.2.2.2
theorem q_s5 {α β A0 A1 A2 A3 A4 : Type} {f : Option (β ⊕ (A0 × A1 × A2 × A3 × A4))} {l : β → Option α} {k : A0 → A1 → A2 → A3 → A4 → Option α} {r : α} (h : cs5_ f l k = some r) : ∃ x, f = some x ∧ (∀ (a0 : A0) (a1 : A1) (a2 : A2) (a3 : A3) (a4 : A4), some (.inr (a0, a1, a2, a3, a4)) = some x → k a0 a1 a2 a3 a4 = some r) ∧ ∀ b, some (.inl b) = some x → l b = some r := by
  cases f with
  | none => cases h
  | some x => cases x with
    | inl b => exact ⟨_, rfl, (fun a0 a1 a2 a3 a4 e => by cases e), (fun b e => by cases e; exact h)⟩
    | inr x => exact ⟨_, rfl, (fun a0 a1 a2 a3 a4 e => by cases e; exact h), (fun b e => by cases e)⟩
def cl6_ {α A0 A1 A2 A3 A4 A5 : Type} (f : Option (A0 × A1 × A2 × A3 × A4 × A5)) (k : A0 → A1 → A2 → A3 → A4 → A5 → Option α) : Option α := match f with
  | none => none
  | some x => k x.1 x.2.1 x.2.2.1 x.2.2.2.1 x.2.2.2.2.1 x.2.2.2.2.2
theorem q_l6 {α A0 A1 A2 A3 A4 A5 : Type} {f : Option (A0 × A1 × A2 × A3 × A4 × A5)} {k : A0 → A1 → A2 → A3 → A4 → A5 → Option α} {r : α} (h : cl6_ f k = some r) : ∃ x, f = some x ∧ ∀ (a0 : A0) (a1 : A1) (a2 : A2) (a3 : A3) (a4 : A4) (a5 : A5), some (a0, a1, a2, a3, a4, a5) = some x → k a0 a1 a2 a3 a4 a5 = some r := by
  cases f with
  | none => cases h
  | some x => exact ⟨x, rfl, fun a0 a1 a2 a3 a4 a5 e => by cases e; exact h⟩
def cs6_ {α β A0 A1 A2 A3 A4 A5 : Type} (f : Option (β ⊕ (A0 × A1 × A2 × A3 × A4 × A5))) (l : β → Option α) (k : A0 → A1 → A2 → A3 → A4 → A5 → Option α) : Option α := match f with
  | none => none
  | some (.inl b) => l b
  | some (.inr x) => k x.1 x.2.1 x.2.2.1 x.2.2.2.1 x.2.2.2.2.1 x.2.2.2.2.2
theorem q_s6 {α β A0 A1 A2 A3 A4 A5 : Type} {f : Option (β ⊕ (A0 × A1 × A2 × A3 × A4 × A5))} {l : β → Option α} {k : A0 → A1 → A2 → A3 → A4 → A5 → Option α} {r : α} (h : cs6_ f l k = some r) : ∃ x, f = some x ∧ (∀ (a0 : A0) (a1 : A1) (a2 : A2) (a3 : A3) (a4 : A4) (a5 : A5), some (.inr (a0, a1, a2, a3, a4, a5)) = some x → k a0 a1 a2 a3 a4 a5 = some r) ∧ ∀ b, some (.inl b) = some x → l b = some r := by
  cases f with
  | none => cases h
  | some x => cases x with
    | inl b => exact ⟨_, rfl, (fun a0 a1 a2 a3 a4 a5 e => by cases e), (fun b e => by cases e; exact h)⟩
    | inr x => exact ⟨_, rfl, (fun a0 a1 a2 a3 a4 a5 e => by cases e; exact h), (fun b e => by cases e)⟩
def cl7_ {α A0 A1 A2 A3 A4 A5 A6 : Type} (f : Option (A0 × A1 × A2 × A3 × A4 × A5 × A6)) (k : A0 → A1 → A2 → A3 → A4 → A5 → A6 → Option α) : Option α := match f with
  | none => none
  | some x => k x.1 x.2.1 x.2.2.1 x.2.2.2.1 x.2.2.2.2.1 x.2.2.2.2.2.1 x.2.2.2.2.2.2
theorem q_l7 {α A0 A1 A2 A3 A4 A5 A6 : Type} {f : Option (A0 × A1 × A2 × A3 × A4 × A5 × A6)} {k : A0 → A1 → A2 → A3 → A4 → A5 → A6 → Option α} {r : α} (h : cl7_ f k = some r) : ∃ x, f = some x ∧ ∀ (a0 : A0) (a1 : A1) (a2 : A2) (a3 : A3) (a4 : A4) (a5 : A5) (a6 : A6), some (a0, a1, a2, a3, a4, a5, a6) = some x → k a0 a1 a2 a3 a4 a5 a6 = some r := by
  cases f with
  | none => cases h
  | some x => exact ⟨x, rfl, fun a0 a1 a2 a3 a4 a5 a6 e => by cases e; exact h⟩
def cs7_ {α β A0 A1 A2 A3 A4 A5 A6 : Type} (f : Option (β ⊕ (A0 × A1 × A2 × A3 × A4 × A5 × A6))) (l : β → Option α) (k : A0 → A1 → A2 → A3 → A4 → A5 → A6 → Option α) : Option α := match f with
  | none => none
  | some (.inl b) => l b
  | some (.inr x) => k x.1 x.2.1 x.2.2.1 x.2.2.2.1 x.2.2.2.2.1 x.2.2.2.2.2.1 x.2.2.2.2.2.2
theorem q_s7 {α β A0 A1 A2 A3 A4 A5 A6 : Type} {f : Option (β ⊕ (A0 × A1 × A2 × A3 × A4 × A5 × A6))} {l : β → Option α} {k : A0 → A1 → A2 → A3 → A4 → A5 → A6 → Option α} {r : α} (h : cs7_ f l k = some r) : ∃ x, f = some x ∧ (∀ (a0 : A0) (a1 : A1) (a2 : A2) (a3 : A3) (a4 : A4) (a5 : A5) (a6 : A6), some (.inr (a0, a1, a2, a3, a4, a5, a6)) = some x → k a0 a1 a2 a3 a4 a5 a6 = some r) ∧ ∀ b, some (.inl b) = some x → l b = some r := by
  cases f with
  | none => cases h
  | some x => cases x with
    | inl b => exact ⟨_, rfl, (fun a0 a1 a2 a3 a4 a5 a6 e => by cases e), (fun b e => by cases e; exact h)⟩
    | inr x => exact ⟨_, rfl, (fun a0 a1 a2 a3 a4 a5 a6 e => by cases e; exact h), (fun b e => by cases e)⟩
def cl8_ {α A0 A1 A2 A3 A4 A5 A6 A7 : Type} (f : Option (A0 × A1 × A2 × A3 × A4 × A5 × A6 × A7)) (k : A0 → A1 → A2 → A3 → A4 → A5 → A6 → A7 → Option α) : Option α := match f with
  | none => none
  | some x => k x.1 x.2.1 x.2.2.1 x.2.2.2.1 x.2.2.2.2.1 x.2.2.2.2.2.1 x.2.2.2.2.2.2.1 x.2.2.2.2.2.2.2
theorem q_l8 {α A0 A1 A2 A3 A4 A5 A6 A7 : Type} {f : Option (A0 × A1 × A2 × A3 × A4 × A5 × A6 × A7)} {k : A0 → A1 → A2 → A3 → A4 → A5 → A6 → A7 → Option α} {r : α} (h : cl8_ f k = some r) : ∃ x, f = some x ∧ ∀ (a0 : A0) (a1 : A1) (a2 : A2) (a3 : A3) (a4 : A4) (a5 : A5) (a6 : A6) (a7 : A7), some (a0, a1, a2, a3, a4, a5, a6, a7) = some x → k a0 a1 a2 a3 a4 a5 a6 a7 = some r := by
  cases f with
  | none => cases h
  | some x => exact ⟨x, rfl, fun a0 a1 a2 a3 a4 a5 a6 a7 e => by cases e; exact h⟩
def cs8_ {α β A0 A1 A2 A3 A4 A5 A6 A7 : Type} (f : Option (β ⊕ (A0 × A1 × A2 × A3 × A4 × A5 × A6 × A7))) (l : β → Option α) (k : A0 → A1 → A2 → A3 → A4 → A5 → A6 → A7 → Option α) : Option α := match f with
  | none => none
  | some (.inl b) => l b
  | some (.inr x) => k x.1 x.2.1 x.2.2.1 x.2.2.2.1 x.2.2.2.2.1 x.2.2.2.2.2.1 x.2.2.2.2.2.2.1 x.2.2.2.2.2.2.2
theorem q_s8 {α β A0 A1 A2 A3 A4 A5 A6 A7 : Type} {f : Option (β ⊕ (A0 × A1 × A2 × A3 × A4 × A5 × A6 × A7))} {l : β → Option α} {k : A0 → A1 → A2 → A3 → A4 → A5 → A6 → A7 → Option α} {r : α} (h : cs8_ f l k = some r) : ∃ x, f = some x ∧ (∀ (a0 : A0) (a1 : A1) (a2 : A2) (a3 : A3) (a4 : A4) (a5 : A5) (a6 : A6) (a7 : A7), some (.inr (a0, a1, a2, a3, a4, a5, a6, a7)) = some x → k a0 a1 a2 a3 a4 a5 a6 a7 = some r) ∧ ∀ b, some (.inl b) = some x → l b = some r := by
  cases f with
  | none => cases h
  | some x => cases x with
    | inl b => exact ⟨_, rfl, (fun a0 a1 a2 a3 a4 a5 a6 a7 e => by cases e), (fun b e => by cases e; exact h)⟩
    | inr x => exact ⟨_, rfl, (fun a0 a1 a2 a3 a4 a5 a6 a7 e => by cases e; exact h), (fun b e => by cases e)⟩
def cl9_ {α A0 A1 A2 A3 A4 A5 A6 A7 A8 : Type} (f : Option (A0 × A1 × A2 × A3 × A4 × A5 × A6 × A7 × A8)) (k : A0 → A1 → A2 → A3 → A4 → A5 → A6 → A7 → A8 → Option α) : Option α := match f with
  | none => none
  | some x => k x.1 x.2.1 x.2.2.1 x.2.2.2.1 x.2.2.2.2.1 x.2.2.2.2.2.1 x.2.2.2.2.2.2.1 x.2.2.2.2.2.2.2.1 x.2.2.2.2.2.2.2.2
theorem q_l9 {α A0 A1 A2 A3 A4 A5 A6 A7 A8 : Type} {f : Option (A0 × A1 × A2 × A3 × A4 × A5 × A6 × A7 × A8)} {k : A0 → A1 → A2 → A3 → A4 → A5 → A6 → A7 → A8 → Option α} {r : α} (h : cl9_ f k = some r) : ∃ x, f = some x ∧ ∀ (a0 : A0) (a1 : A1) (a2 : A2) (a3 : A3) (a4 : A4) (a5 : A5) (a6 : A6) (a7 : A7) (a8 : A8), some (a0, a1, a2, a3, a4, a5, a6, a7, a8) = some x → k a0 a1 a2 a3 a4 a5 a6 a7 a8 = some r := by
  cases f with
  | none => cases h
  | some x => exact ⟨x, rfl, fun a0 a1 a2 a3 a4 a5 a6 a7 a8 e => by cases e; exact h⟩
def cs9_ {α β A0 A1 A2 A3 A4 A5 A6 A7 A8 : Type} (f : Option (β ⊕ (A0 × A1 × A2 × A3 × A4 × A5 × A6 × A7 × A8))) (l : β → Option α) (k : A0 → A1 → A2 → A3 → A4 → A5 → A6 → A7 → A8 → Option α) : Option α := match f with
  | none => none
  | some (.inl b) => l b
  | some (.inr x) => k x.1 x.2.1 x.2.2.1 x.2.2.2.1 x.2.2.2.2.1 x.2.2.2.2.2.1 x.2.2.2.2.2.2.1 x.2.2.2.2.2.2.2.1 x.2.2.2.2.2.2.2.2
theorem q_s9 {α β A0 A1 A2 A3 A4 A5 A6 A7 A8 : Type} {f : Option (β ⊕ (A0 × A1 × A2 × A3 × A4 × A5 × A6 × A7 × A8))} {l : β → Option α} {k : A0 → A1 → A2 → A3 → A4 → A5 → A6 → A7 → A8 → Option α} {r : α} (h : cs9_ f l k = some r) : ∃ x, f = some x ∧ (∀ (a0 : A0) (a1 : A1) (a2 : A2) (a3 : A3) (a4 : A4) (a5 : A5) (a6 : A6) (a7 : A7) (a8 : A8), some (.inr (a0, a1, a2, a3, a4, a5, a6, a7, a8)) = some x → k a0 a1 a2 a3 a4 a5 a6 a7 a8 = some r) ∧ ∀ b, some (.inl b) = some x → l b = some r := by
  cases f with
  | none => cases h
  | some x => cases x with
    | inl b => exact ⟨_, rfl, (fun a0 a1 a2 a3 a4 a5 a6 a7 a8 e => by cases e), (fun b e => by cases e; exact h)⟩
    | inr x => exact ⟨_, rfl, (fun a0 a1 a2 a3 a4 a5 a6 a7 a8 e => by cases e; exact h), (fun b e => by cases e)⟩
def cl10_ {α A0 A1 A2 A3 A4 A5 A6 A7 A8 A9 : Type} (f : Option (A0 × A1 × A2 × A3 × A4 × A5 × A6 × A7 × A8 × A9)) (k : A0 → A1 → A2 → A3 → A4 → A5 → A6 → A7 → A8 → A9 → Option α) : Option α := match f with
  | none => none
  | some x => k x.1 x.2.1 x.2.2.1 x.2.2.2.1 x.2.2.2.2.1 x.2.2.2.2.2.1 x.2.2.2.2.2.2.1 x.2.2.2.2.2.2.2.1 x.2.2.2.2.2.2.2.2.1 x.2.2.2.2.2.2.2.2.2
theorem q_l10 {α A0 A1 A2 A3 A4 A5 A6 A7 A8 A9 : Type} {f : Option (A0 × A1 × A2 × A3 × A4 × A5 × A6 × A7 × A8 × A9)} {k : A0 → A1 → A2 → A3 → A4 → A5 → A6 → A7 → A8 → A9 → Option α} {r : α} (h : cl10_ f k = some r) : ∃ x, f = some x ∧ ∀ (a0 : A0) (a1 : A1) (a2 : A2) (a3 : A3) (a4 : A4) (a5 : A5) (a6 : A6) (a7 : A7) (a8 : A8) (a9 : A9), some (a0, a1, a2, a3, a4, a5, a6, a7, a8, a9) = some x → k a0 a1 a2 a3 a4 a5 a6 a7 a8 a9 = some r := by
  cases f with
  | none => cases h
  | some x => exact ⟨x, rfl, fun a0 a1 a2 a3 a4 a5 a6 a7 a8 a9 e => by cases e; exact h⟩
def cs10_ {α β A0 A1 A2 A3 A4 A5 A6 A7 A8 A9 : Type} (f : Option (β ⊕ (A0 × A1 × A2 × A3 × A4 × A5 × A6 × A7 × A8 × A9))) (l : β → Option α) (k : A0 → A1 → A2 → A3 → A4 → A5 → A6 → A7 → A8 → A9 → Option α) : Option α := match f with
  | none => none
  | some (.inl b) => l b
  | some (.inr x) => k x.1 x.2.1 x.2.2.1 x.2.2.2.1 x.2.2.2.2.1 x.2.2.2.2.2.1 x.2.2.2.2.2.2.1 x.2.2.2.2.2.2.2.1 x.2.2.2.2.2.2.2.2.1 x.2.2.2.2.2.2.2.2.2
theorem q_s10 {α β A0 A1 A2 A3 A4 A5 A6 A7 A8 A9 : Type} {f : Option (β ⊕ (A0 × A1 × A2 × A3 × A4 × A5 × A6 × A7 × A8 × A9))} {l : β → Option α} {k : A0 → A1 → A2 → A3 → A4 → A5 → A6 → A7 → A8 → A9 → Option α} {r : α} (h : cs10_ f l k = some r) : ∃ x, f = some x ∧ (∀ (a0 : A0) (a1 : A1) (a2 : A2) (a3 : A3) (a4 : A4) (a5 : A5) (a6 : A6) (a7 : A7) (a8 : A8) (a9 : A9), some (.inr (a0, a1, a2, a3, a4, a5, a6, a7, a8, a9)) = some x → k a0 a1 a2 a3 a4 a5 a6 a7 a8 a9 = some r) ∧ ∀ b, some (.inl b) = some x → l b = some r := by
  cases f with
  | none => cases h
  | some x => cases x with
    | inl b => exact ⟨_, rfl, (fun a0 a1 a2 a3 a4 a5 a6 a7 a8 a9 e => by cases e), (fun b e => by cases e; exact h)⟩
    | inr x => exact ⟨_, rfl, (fun a0 a1 a2 a3 a4 a5 a6 a7 a8 a9 e => by cases e; exact h), (fun b e => by cases e)⟩
def cl11_ {α A0 A1 A2 A3 A4 A5 A6 A7 A8 A9 A10 : Type} (f : Option (A0 × A1 × A2 × A3 × A4 × A5 × A6 × A7 × A8 × A9 × A10)) (k : A0 → A1 → A2 → A3 → A4 → A5 → A6 → A7 → A8 → A9 → A10 → Option α) : Option α := match f with
  | none => none
  | some x => k x.1 x.2.1 x.2.2.1 x.2.2.2.1 x.2.2.2.2.1 x.2.2.2.2.2.1 x.2.2.2.2.2.2.1 x.2.2.2.2.2.2.2.1 x.2.2.2.2.2.2.2.2.1 x.2.2.2.2.2.2.2.2.2.1 x.2.2.2.2.2.2.2.2.2.2
theorem q_l11 {α A0 A1 A2 A3 A4 A5 A6 A7 A8 A9 A10 : Type} {f : Option (A0 × A1 × A2 × A3 × A4 × A5 × A6 × A7 × A8 × A9 × A10)} {k : A0 → A1 → A2 → A3 → A4 → A5 → A6 → A7 → A8 → A9 → A10 → Option α} {r : α} (h : cl11_ f k = some r) : ∃ x, f = some x ∧ ∀ (a0 : A0) (a1 : A1) (a2 : A2) (a3 : A3) (a4 : A4) (a5 : A5) (a6 : A6) (a7 : A7) (a8 : A8) (a9 : A9) (a10 : A10), some (a0, a1, a2, a3, a4, a5, a6, a7, a8, a9, a10) = some x → k a0 a1 a2 a3 a4 a5 a6 a7 a8 a9 a10 = some r := by
  cases f with
  | none => cases h
  | some x => exact ⟨x, rfl, fun a0 a1 a2 a3 a4 a5 a6 a7 a8 a9 a10 e => by cases e; exact h⟩
def cs11_ {α β A0 A1 A2 A3 A4 A5 A6 A7 A8 A9 A10 : Type} (f : Option (β ⊕ (A0 × A1 × A2 × A3 × A4 × A5 × A6 × A7 × A8 × A9 × A10))) (l : β → Option α) (k : A0 → A1 → A2 → A3 → A4 → A5 → A6 → A7 → A8 → A9 → A10 → Option α) : Option α := match f with
  | none => none
  | some (.inl b) => l b
  | some (.inr x) => k x.1 x.2.1 x.2.2.1 x.2.2.2.1 x.2.2.2.2.1 x.2.2.2.2.2.1 x.2.2.2.2.2.2.1 x.2.2.2.2.2.2.2.1 x.2.2.2.2.2.2.2.2.1 x.2.2.2.2.2.2.2.2.2.1 x.2.2.2.2.2.2.2.2.2.2
theorem q_s11 {α β A0 A1 A2 A3 A4 A5 A6 A7 A8 A9 A10 : Type} {f : Option (β ⊕ (A0 × A1 × A2 × A3 × A4 × A5 × A6 × A7 × A8 × A9 × A10))} {l : β → Option α} {k : A0 → A1 → A2 → A3 → A4 → A5 → A6 → A7 → A8 → A9 → A10 → Option α} {r : α} (h : cs11_ f l k = some r) : ∃ x, f = some x ∧ (∀ (a0 : A0) (a1 : A1) (a2 : A2) (a3 : A3) (a4 : A4) (a5 : A5) (a6 : A6) (a7 : A7) (a8 : A8) (a9 : A9) (a10 : A10), some (.inr (a0, a1, a2, a3, a4, a5, a6, a7, a8, a9, a10)) = some x → k a0 a1 a2 a3 a4 a5 a6 a7 a8 a9 a10 = some r) ∧ ∀ b, some (.inl b) = some x → l b = some r := by
  cases f with
  | none => cases h
  | some x => cases x with
    | inl b => exact ⟨_, rfl, (fun a0 a1 a2 a3 a4 a5 a6 a7 a8 a9 a10 e => by cases e), (fun b e => by cases e; exact h)⟩
    | inr x => exact ⟨_, rfl, (fun a0 a1 a2 a3 a4 a5 a6 a7 a8 a9 a10 e => by cases e; exact h), (fun b e => by cases e)⟩
def cl12_ {α A0 A1 A2 A3 A4 A5 A6 A7 A8 A9 A10 A11 : Type} (f : Option (A0 × A1 × A2 × A3 × A4 × A5 × A6 × A7 × A8 × A9 × A10 × A11)) (k : A0 → A1 → A2 → A3 → A4 → A5 → A6 → A7 → A8 → A9 → A10 → A11 → Option α) : Option α := match f with
  | none => none
  | some x => k x.1 x.2.1 x.2.2.1 x.2.2.2.1 x.2.2.2.2.1 x.2.2.2.2.2.1 x.2.2.2.2.2.2.1 x.2.2.2.2.2.2.2.1 x.2.2.2.2.2.2.2.2.1 x.2.2.2.2.2.2.2.2.2.1 x.2.2.2.2.2.2.2.2.2.2.1 x.2.2.2.2.2.2.2.2.2.2.2
theorem q_l12 {α A0 A1 A2 A3 A4 A5 A6 A7 A8 A9 A10 A11 : Type} {f : Option (A0 × A1 × A2 × A3 × A4 × A5 × A6 × A7 × A8 × A9 × A10 × A11)} {k : A0 → A1 → A2 → A3 → A4 → A5 → A6 → A7 → A8 → A9 → A10 → A11 → Option α} {r : α} (h : cl12_ f k = some r) : ∃ x, f = some x ∧ ∀ (a0 : A0) (a1 : A1) (a2 : A2) (a3 : A3) (a4 : A4) (a5 : A5) (a6 : A6) (a7 : A7) (a8 : A8) (a9 : A9) (a10 : A10) (a11 : A11), some (a0, a1, a2, a3, a4, a5, a6, a7, a8, a9, a10, a11) = some x → k a0 a1 a2 a3 a4 a5 a6 a7 a8 a9 a10 a11 = some r := by
  cases f with
  | none => cases h
  | some x => exact ⟨x, rfl, fun a0 a1 a2 a3 a4 a5 a6 a7 a8 a9 a10 a11 e => by cases e; exact h⟩
def cs12_ {α β A0 A1 A2 A3 A4 A5 A6 A7 A8 A9 A10 A11 : Type} (f : Option (β ⊕ (A0 × A1 × A2 × A3 × A4 × A5 × A6 × A7 × A8 × A9 × A10 × A11))) (l : β → Option α) (k : A0 → A1 → A2 → A3 → A4 → A5 → A6 → A7 → A8 → A9 → A10 → A11 → Option α) : Option α := match f with
  | none => none
  | some (.inl b) => l b
  | some (.inr x) => k x.1 x.2.1 x.2.2.1 x.2.2.2.1 x.2.2.2.2.1 x.2.2.2.2.2.1 x.2.2.2.2.2.2.1 x.2.2.2.2.2.2.2.1 x.2.2.2.2.2.2.2.2.1 x.2.2.2.2.2.2.2.2.2.1 x.2.2.2.2.2.2.2.2.2.2.1 x.2.2.2.2.2.2.2.2.2.2.2
theorem q_s12 {α β A0 A1 A2 A3 A4 A5 A6 A7 A8 A9 A10 A11 : Type} {f : Option (β ⊕ (A0 × A1 × A2 × A3 × A4 × A5 × A6 × A7 × A8 × A9 × A10 × A11))} {l : β → Option α} {k : A0 → A1 → A2 → A3 → A4 → A5 → A6 → A7 → A8 → A9 → A10 → A11 → Option α} {r : α} (h : cs12_ f l k = some r) : ∃ x, f = some x ∧ (∀ (a0 : A0) (a1 : A1) (a2 : A2) (a3 : A3) (a4 : A4) (a5 : A5) (a6 : A6) (a7 : A7) (a8 : A8) (a9 : A9) (a10 : A10) (a11 : A11), some (.inr (a0, a1, a2, a3, a4, a5, a6, a7, a8, a9, a10, a11)) = some x → k a0 a1 a2 a3 a4 a5 a6 a7 a8 a9 a10 a11 = some r) ∧ ∀ b, some (.inl b) = some x → l b = some r := by
  cases f with
  | none => cases h
  | some x => cases x with
    | inl b => exact ⟨_, rfl, (fun a0 a1 a2 a3 a4 a5 a6 a7 a8 a9 a10 a11 e => by cases e), (fun b e => by cases e; exact h)⟩
    | inr x => exact ⟨_, rfl, (fun a0 a1 a2 a3 a4 a5 a6 a7 a8 a9 a10 a11 e => by cases e; exact h), (fun b e => by cases e)⟩
def cl13_ {α A0 A1 A2 A3 A4 A5 A6 A7 A8 A9 A10 A11 A12 : Type} (f : Option (A0 × A1 × A2 × A3 × A4 × A5 × A6 × A7 × A8 × A9 × A10 × A11 × A12)) (k : A0 → A1 → A2 → A3 → A4 → A5 → A6 → A7 → A8 → A9 → A10 → A11 → A12 → Option α) : Option α := match f with
  | none => none
  | some x => k x.1 x.2.1 x.2.2.1 x.2.2.2.1 x.2.2.2.2.1 x.2.2.2.2.2.1 x.2.2.2.2.2.2.1 x.2.2.2.2.2.2.2.1 x.2.2.2.2.2.2.2.2.1 x.2.2.2.2.2.2.2.2.2.1 x.2.2.2.2.2.2.2.2.2.2.1 x.2.2.2.2.2.2.2.2.2.2.2.1 x.2.2.2.2.2.2.2.2.2.2.2.2
theorem q_l13 {α A0 A1 A2 A3 A4 A5 A6 A7 A8 A9 A10 A11 A12 : Type} {f : Option (A0 × A1 × A2 × A3 × A4 × A5 × A6 × A7 × A8 × A9 × A10 × A11 × A12)} {k : A0 → A1 → A2 → A3 → A4 → A5 → A6 → A7 → A8 → A9 → A10 → A11 → A12 → Option α} {r : α} (h : cl13_ f k = some r) : ∃ x, f = some x ∧ ∀ (a0 : A0) (a1 : A1) (a2 : A2) (a3 : A3) (a4 : A4) (a5 : A5) (a6 : A6) (a7 : A7) (a8 : A8) (a9 : A9) (a10 : A10) (a11 : A11) (a12 : A12), some (a0, a1, a2, a3, a4, a5, a6, a7, a8, a9, a10, a11, a12) = some x → k a0 a1 a2 a3 a4 a5 a6 a7 a8 a9 a10 a11 a12 = some r := by
  cases f with
  | none => cases h
  | some x => exact ⟨x, rfl, fun a0 a1 a2 a3 a4 a5 a6 a7 a8 a9 a10 a11 a12 e => by cases e; exact h⟩
def cs13_ {α β A0 A1 A2 A3 A4 A5 A6 A7 A8 A9 A10 A11 A12 : Type} (f : Option (β ⊕ (A0 × A1 × A2 × A3 × A4 × A5 × A6 × A7 × A8 × A9 × A10 × A11 × A12))) (l : β → Option α) (k : A0 → A1 → A2 → A3 → A4 → A5 → A6 → A7 → A8 → A9 → A10 → A11 → A12 → Option α) : Option α := match f with
  | none => none
  | some (.inl b) => l b
  | some (.inr x) => k x.1 x.2.1 x.2.2.1 x.2.2.2.1 x.2.2.2.2.1 x.2.2.2.2.2.1 x.2.2.2.2.2.2.1 x.2.2.2.2.2.2.2.1 x.2.2.2.2.2.2.2.2.1 x.2.2.2.2.2.2.2.2.2.1 x.2.2.2.2.2.2.2.2.2.2.1 x.2.2.2.2.2.2.2.2.2.2.2.1 x.2.2.2.2.2.2.2.2.2.2.2.2
theorem q_s13 {α β A0 A1 A2 A3 A4 A5 A6 A7 A8 A9 A10 A11 A12 : Type} {f : Option (β ⊕ (A0 × A1 × A2 × A3 × A4 × A5 × A6 × A7 × A8 × A9 × A10 × A11 × A12))} {l : β → Option α} {k : A0 → A1 → A2 → A3 → A4 → A5 → A6 → A7 → A8 → A9 → A10 → A11 → A12 → Option α} {r : α} (h : cs13_ f l k = some r) : ∃ x, f = some x ∧ (∀ (a0 : A0) (a1 : A1) (a2 : A2) (a3 : A3) (a4 : A4) (a5 : A5) (a6 : A6) (a7 : A7) (a8 : A8) (a9 : A9) (a10 : A10) (a11 : A11) (a12 : A12), some (.inr (a0, a1, a2, a3, a4, a5, a6, a7, a8, a9, a10, a11, a12)) = some x → k a0 a1 a2 a3 a4 a5 a6 a7 a8 a9 a10 a11 a12 = some r) ∧ ∀ b, some (.inl b) = some x → l b = some r := by
  cases f with
  | none => cases h
  | some x => cases x with
    | inl b => exact ⟨_, rfl, (fun a0 a1 a2 a3 a4 a5 a6 a7 a8 a9 a10 a11 a12 e => by cases e), (fun b e => by cases e; exact h)⟩
    | inr x => exact ⟨_, rfl, (fun a0 a1 a2 a3 a4 a5 a6 a7 a8 a9 a10 a11 a12 e => by cases e; exact h), (fun b e => by cases e)⟩
def cl14_ {α A0 A1 A2 A3 A4 A5 A6 A7 A8 A9 A10 A11 A12 A13 : Type} (f : Option (A0 × A1 × A2 × A3 × A4 × A5 × A6 × A7 × A8 × A9 × A10 × A11 × A12 × A13)) (k : A0 → A1 → A2 → A3 → A4 → A5 → A6 → A7 → A8 → A9 → A10 → A11 → A12 → A13 → Option α) : Option α := match f with
  | none => none
  | some x => k x.1 x.2.1 x.2.2.1 x.2.2.2.1 x.2.2.2.2.1 x.2.2.2.2.2.1 x.2.2.2.2.2.2.1 x.2.2.2.2.2.2.2.1 x.2.2.2.2.2.2.2.2.1 x.2.2.2.2.2.2.2.2.2.1 x.2.2.2.2.2.2.2.2.2.2.1 x.2.2.2.2.2.2.2.2.2.2.2.1 x.2.2.2.2.2.2.2.2.2.2.2.2.1 x.2.2.2.2.2.2.2.2.2.2.2.2.2
theorem q_l14 {α A0 A1 A2 A3 A4 A5 A6 A7 A8 A9 A10 A11 A12 A13 : Type} {f : Option (A0 × A1 × A2 × A3 × A4 × A5 × A6 × A7 × A8 × A9 × A10 × A11 × A12 × A13)} {k : A0 → A1 → A2 → A3 → A4 → A5 → A6 → A7 → A8 → A9 → A10 → A11 → A12 → A13 → Option α} {r : α} (h : cl14_ f k = some r) : ∃ x, f = some x ∧ ∀ (a0 : A0) (a1 : A1) (a2 : A2) (a3 : A3) (a4 : A4) (a5 : A5) (a6 : A6) (a7 : A7) (a8 : A8) (a9 : A9) (a10 : A10) (a11 : A11) (a12 : A12) (a13 : A13), some (a0, a1, a2, a3, a4, a5, a6, a7, a8, a9, a10, a11, a12, a13) = some x → k a0 a1 a2 a3 a4 a5 a6 a7 a8 a9 a10 a11 a12 a13 = some r := by
  cases f with
  | none => cases h
  | some x => exact ⟨x, rfl, fun a0 a1 a2 a3 a4 a5 a6 a7 a8 a9 a10 a11 a12 a13 e => by cases e; exact h⟩
def cs14_ {α β A0 A1 A2 A3 A4 A5 A6 A7 A8 A9 A10 A11 A12 A13 : Type} (f : Option (β ⊕ (A0 × A1 × A2 × A3 × A4 × A5 × A6 × A7 × A8 × A9 × A10 × A11 × A12 × A13))) (l : β → Option α) (k : A0 → A1 → A2 → A3 → A4 → A5 → A6 → A7 → A8 → A9 → A10 → A11 → A12 → A13 → Option α) : Option α := match f with
  | none => none
  | some (.inl b) => l b
  | some (.inr x) => k x.1 x.2.1 x.2.2.1 x.2.2.2.1 x.2.2.2.2.1 x.2.2.2.2.2.1 x.2.2.2.2.2.2.1 x.2.2.2.2.2.2.2.1 x.2.2.2.2.2.2.2.2.1 x.2.2.2.2.2.2.2.2.2.1 x.2.2.2.2.2.2.2.2.2.2.1 x.2.2.2.2.2.2.2.2.2.2.2.1 x.2.2.2.2.2.2.2.2.2.2.2.2.1 x.2.2.2.2.2.2.2.2.2.2.2.2.2
theorem q_s14 {α β A0 A1 A2 A3 A4 A5 A6 A7 A8 A9 A10 A11 A12 A13 : Type} {f : Option (β ⊕ (A0 × A1 × A2 × A3 × A4 × A5 × A6 × A7 × A8 × A9 × A10 × A11 × A12 × A13))} {l : β → Option α} {k : A0 → A1 → A2 → A3 → A4 → A5 → A6 → A7 → A8 → A9 → A10 → A11 → A12 → A13 → Option α} {r : α} (h : cs14_ f l k = some r) : ∃ x, f = some x ∧ (∀ (a0 : A0) (a1 : A1) (a2 : A2) (a3 : A3) (a4 : A4) (a5 : A5) (a6 : A6) (a7 : A7) (a8 : A8) (a9 : A9) (a10 : A10) (a11 : A11) (a12 : A12) (a13 : A13), some (.inr (a0, a1, a2, a3, a4, a5, a6, a7, a8, a9, a10, a11, a12, a13)) = some x → k a0 a1 a2 a3 a4 a5 a6 a7 a8 a9 a10 a11 a12 a13 = some r) ∧ ∀ b, some (.inl b) = some x → l b = some r := by
  cases f with
  | none => cases h
  | some x => cases x with
    | inl b => exact ⟨_, rfl, (fun a0 a1 a2 a3 a4 a5 a6 a7 a8 a9 a10 a11 a12 a13 e => by cases e), (fun b e => by cases e; exact h)⟩
    | inr x => exact ⟨_, rfl, (fun a0 a1 a2 a3 a4 a5 a6 a7 a8 a9 a10 a11 a12 a13 e => by cases e; exact h), (fun b e => by cases e)⟩
