/-! the law: its walk over the contracts -/
def lj_J (K : bz_K) (pc : Nat) (lv : List (Nat × Value)) (st : List Value) (M : bz_Mm) : Prop := match K with
  | ((l, ad, cA, D, A), p, e, R, s, m, args, below, meth, c, Q) => ∀ (ls : Array Slot) (H : Heap) (locs : List Loc), lv_has ls 4 lv → va_P D bz_cls (bz_ws ad cA M) H → va_S A s.heap H locs → W p l e R s m args below meth c H locs 600000 7302250 Q (F0 m pc ls st)
def lj_X (K : bz_K) (E : bz_E) (b L : Nat) (xs : Nat → Int32) : Prop := K.1 = E ∧ match K with
  | ((_, ad, cA, D, A), p, _, R, s, m, args, below, meth, c, Q) => p.tables.exec = Jvm.exec ∧ c.code = code ∧ c.maxLocals = 4 ∧ s.vm.findClass "UnitsWrongLaw" = some m.cls ∧ (∀ w ∈ bz_T, w.before args s = true) ∧ bz_Sf ad cA D A s ∧ R = bn_rm 14 568 600000 7302250 ∧ va_X b L xs s s.heap ∧ b < s.heap.size ∧ ¬ A b ∧ L ≤ 3072 ∧ meth.sig.returnType = ret ∧ meth.locks = false ∧ A = (fun q => s.heap.size ≤ q) ∧ args = #[Value.ref b] ∧ Q = lw_Z below #[Value.ref b] s
abbrev lj_lv (E : bz_E) (b i : Nat) : List (Nat × Value) := [(3, .int (nI i)), (2, bz_rf E 81), (1, bz_rf E 0), (0, .ref b)]
abbrev lj_a (xs : Nat → Int32) (i : Nat) : Int := (xs i).toInt
section LJ
variable {K : bz_K} {E : bz_E} {b L : Nat} {xs : Nat → Int32} {i pc : Nat} {st stk : List Value} {M M2 : bz_Mm}
theorem lj_self (X : lj_X K E b L xs) {q : Fin 4} {j a : Nat} (hd : decode code pc = .ok (.aload_n q, 1)) (hi : (q : Nat) = j) (n : Nat) (hk : (lj_lv E b i)[n]? = some (j, bz_rf E a)) (k : lj_J K (pc + 1) (lj_lv E b i) (bz_rf E a :: st) M) : lj_J K pc (lj_lv E b i) st M := by
  obtain ⟨⟨l, ad, cA, D, A⟩, p, e, R, s, m, args, below, meth, c, Q⟩ := K
  obtain ⟨rfl, hx, hb, hml, hown, hts, hSf, rfl, hX, hbl, hbA, hL, y1, y2, y3, y4, y5⟩ := X
  intro ls H locs hl hP hS
  exact lv_aload_n hx hb hd hi (lv_at hl n hk) (k ls H locs hl hP hS)
theorem lj_arg (X : lj_X K E b L xs) {k : Nat} {n : Int} (d0 : decode code pc = .ok (.aload_n 0, 1)) (d1 : decode code (pc + 1) = .ok (.iload_n 3, 1)) (d2 : decode code (pc + 1 + 1) = .ok (.iconst n, 1)) (d3 : decode code (pc + 1 + 1 + 1) = .ok (.iadd, 1)) (d4 : decode code (pc + 1 + 1 + 1 + 1) = .ok (.iaload, 1)) (hn : Int32.ofInt n = nI k) (hi : i + k < L)
    (kk : lj_J K (pc + 1 + 1 + 1 + 1 + 1) (lj_lv E b i) (bz_i (lj_a xs (i + k)) :: st) M) : lj_J K pc (lj_lv E b i) st M := by
  obtain ⟨⟨l, ad, cA, D, A⟩, p, e, R, s, m, args, below, meth, c, Q⟩ := K
  obtain ⟨rfl, hx, hb, hml, hown, hts, hSf, rfl, hX, hbl, hbA, hL, y1, y2, y3, y4, y5⟩ := X
  intro ls H locs hl hP hS
  refine lv_aload_n hx hb d0 rfl (lv_at hl 3 rfl) ?_
  refine lv_iload_n hx hb d1 rfl (lv_at hl 0 rfl) ?_
  refine lv_iconst (v := nI k) hx hb d2 hn ?_
  refine lv_iadd hx hb d3 ?_
  rw [nI_add]
  refine va_sld hx hb hX hbl hbA hS (nI_in hi (by omega)) d4 ?_
  rw [nI_clamp (by omega)]
  have e1 : Int32.ofInt (lj_a xs (i + k)) = xs (i + k) := Int32.ofInt_toInt _
  have := kk ls H locs hl hP hS
  rw [show bz_i (lj_a xs (i + k)) = .int (xs (i + k)) from by show Value.int _ = _; rw [e1]] at this
  exact this
theorem lj_ran {l : Launch} {ad : Nat → Nat} {cA : Nat → ClassId} {D : va_G} {A : Nat → Prop} {p : Program} {e : Env} {R : Room} {s : State} {m : MethodId} {args : Array Value} {below : List Frame} {meth : Method} {c : Code} {H : Heap} {locs : List Loc} {Q : State → Prop} {ls : Array Slot} {a : Array Value} {rv : Option Value} {stk st : List Value} {ce sl : Nat}
    (hr : va_Run p l e R s m args below meth c H locs ce sl 0 0 (F0 m pc ls stk) st (bz_Qc ad cA D A rv M2 a) A) (hS : va_S A s.heap H locs)
    (kk : ∀ (H1 : Heap) (locs1 : List Loc), va_P D bz_cls (bz_ws ad cA M2) H1 → va_S A s.heap H1 locs1 → W p l e R s m args below meth c H1 locs1 ce sl Q (F0 m (pc + 3) ls (rv.toList ++ st))) : W p l e R s m args below meth c H locs ce sl Q (F0 m pc ls stk) := by
  intro T hT X
  obtain ⟨v, st₀, t, T', L, h0, X', hL, e1, e2, ⟨hv, hp, hz, hk⟩, go⟩ := hr T hT X
  cases hv
  rw [h0] at hz hk
  obtain ⟨t2, a1, b1⟩ := kk T'.heap (locs ++ L) (by rw [e1]; exact hp)
    ⟨Nat.le_trans hS.1 (by rw [e1]; exact hz), fun q h1 h2 => by rw [e1, hk q (Nat.lt_of_lt_of_le h1 hS.1) h2]; exact hS.2.1 q h1 h2, fun q hq => by
      rcases List.mem_append.mp hq with h | h
      · exact hS.2.2 q h
      · exact hL q h⟩ T' rfl X'
  exact ⟨t2, go t2 a1, b1⟩
theorem lj_cv (X : lj_X K E b L xs) {y : MethodName} {bytes : ByteArray} {maxL : Nat} {ret2 : Option FieldType} {fr2 lo2 j a n : Nat} {As : List Value} {v2 : Value} (hM : bz_Ct E y (.code y bytes maxL ret2) fr2 lo2 (bz_rf E a :: As) M (some v2) M2) (hy : bz_Gy y bytes maxL ret2 n) (hv : bz_Gv y a) (hn : As.length = n) (hfr : fr2 + 1 ≤ 14) (hlo : 8 + (maxL + 11) + lo2 ≤ 568) (hlink : Cond.methodLink "UnitsWrongLaw" j y ∈ bz_T)
    (hstk : As.reverse ++ bz_rf E a :: st = stk) (hst : (st.map fun v => v.category).sum ≤ 8) (hd : decode code pc = .ok (.invokevirtual j, 3)) (k : lj_J K (pc + 3) (lj_lv E b i) (v2 :: st) M2) : lj_J K pc (lj_lv E b i) stk M := by
  subst hn
  obtain ⟨⟨l, ad, cA, D, A⟩, p, e, R, s, m, args, below, meth, c, Q⟩ := K
  obtain ⟨rfl, hx, hb, hml, hown, hts, hSf, rfl, hX, hbl, hbA, hL, y1, y2, y3, y4, y5⟩ := X
  obtain ⟨c1, c2, c3, c4⟩ := hy
  obtain ⟨b1, b2, ci, N, T, fs, b3, b4⟩ := hv
  intro ls H locs hl hP hS
  subst hstk
  have hrecv : ∃ cell : Cell, H[ad a]? = some cell ∧ cell.vm.isStatics = false ∧ s.vm.findClass y.cls = some cell.cls := va_recv hSf.1 hP (ci := ci) (q0 := a) b3 (bz_get b4)
  refine lj_ran (M2 := M2) (rv := some v2) (va_runV (C := y.cls) ⟨hx, hb, hml, hown, hts⟩ hM ⟨⟨rfl, rfl, hfr, hlo, ?_, List.mem_cons_self, hts _ c1, hts _ c2, c3, ?_, hts _ hlink⟩, hts _ b1, hts _ b2⟩ ⟨bz_blind, hrecv, fun U hU hW => ⟨rfl, by rw [hU]; exact hP, hSf.go hW hS hU⟩⟩ rfl rfl hl.1 rfl (lv_room hst) hd ⟨Nat.le_refl _, Nat.le_refl _⟩) hS (fun H1 locs1 hP1 hS1 => k ls H1 locs1 hl hP1 hS1)
  · intro w hw a' U hW
    rcases List.mem_cons.mp hw with h | h
    · rw [h]; exact pay_in hts bz_goodT _ c1 a' U hW
    · exact pay_in hts bz_goodT _ h a' U hW
  · intro sig h
    rw [h] at c4
    exact (Option.some.inj c4).symm
theorem lj_eq (X : lj_X K E b L xs) {x y off : Int} {tgt : Nat} (hd : decode code pc = .ok (.if_icmp .eq off, 3)) (ht : (pc : Int) + off = (tgt : Int)) (he : w32 x = w32 y) (k : lj_J K tgt (lj_lv E b i) st M) : lj_J K pc (lj_lv E b i) (bz_i y :: bz_i x :: st) M := by
  obtain ⟨⟨l, ad, cA, D, A⟩, p, e, R, s, m, args, below, meth, c, Q⟩ := K
  obtain ⟨rfl, hx, hb, hml, hown, hts, hSf, rfl, hX, hbl, hbA, hL, y1, y2, y3, y4, y5⟩ := X
  intro ls H locs hl hP hS
  have e1 : Int32.ofInt x = Int32.ofInt y := Int32.toInt_inj.mp (by rw [w32_of, w32_of]; exact he)
  exact lv_icmp_eq hx hb hd ht (fun _ => k ls H locs hl hP hS) (fun h => absurd e1 h)
end LJ

theorem lj_rng (x : Int32) : -2147483648 ≤ x.toInt ∧ x.toInt ≤ 2147483647 := ⟨by have := Int32.le_toInt x; omega, by have := Int32.toInt_lt x; omega⟩
def wq_0 (F : Nat) (Inv : Nat → bz_Mm → Prop) : Prop := ∀ (n : Nat) (M : bz_Mm) (a1 : Int) (a2 : Int), n < 512 → Inv n M → (-2147483648 ≤ a1 ∧ a1 ≤ 2147483647) → (-2147483648 ≤ a2 ∧ a2 ≤ 2147483647) → ∃ (x : Int × bz_Mm) (y : Int × bz_Mm), fU_paper F M a1 a2 = some x ∧ fM_paper F x.2 a1 a2 = some y ∧ w32 x.1 = w32 y.1 ∧ Inv (n + 1) y.2
def wq_1 (F : Nat) (Inv : Nat → bz_Mm → Prop) : Prop := ∀ (n : Nat) (M : bz_Mm) (a1 : Int), n < 512 → Inv n M → (-2147483648 ≤ a1 ∧ a1 ≤ 2147483647) → ∃ (x : Int × bz_Mm) (y : Int × bz_Mm), fU_fund F M a1 = some x ∧ fM_fund F x.2 a1 = some y ∧ w32 x.1 = w32 y.1 ∧ Inv (n + 1) y.2
def wq_2 (F : Nat) (Inv : Nat → bz_Mm → Prop) : Prop := ∀ (n : Nat) (M : bz_Mm) (a1 : Int), n < 512 → Inv n M → (-2147483648 ≤ a1 ∧ a1 ≤ 2147483647) → ∃ (x : Int × bz_Mm) (y : Int × bz_Mm), fU_holder F M a1 = some x ∧ fM_holder F x.2 a1 = some y ∧ w32 x.1 = w32 y.1 ∧ Inv (n + 1) y.2
def wq_3 (F : Nat) (Inv : Nat → bz_Mm → Prop) : Prop := ∀ (n : Nat) (M : bz_Mm) (a1 : Int), n < 512 → Inv n M → (-2147483648 ≤ a1 ∧ a1 ≤ 2147483647) → ∃ (x : Int × bz_Mm) (y : Int × bz_Mm), fU_holiday F M a1 = some x ∧ fM_holiday F x.2 a1 = some y ∧ w32 x.1 = w32 y.1 ∧ Inv (n + 1) y.2
def wq_4 (F : Nat) (Inv : Nat → bz_Mm → Prop) : Prop := ∀ (n : Nat) (M : bz_Mm) (a1 : Int), n < 512 → Inv n M → (-2147483648 ≤ a1 ∧ a1 ≤ 2147483647) → ∃ (x : Int) (y : Int), fU_open F M a1 = some x ∧ fM_open F M a1 = some y ∧ w32 x = w32 y ∧ Inv (n + 1) M
def wq_5 (F : Nat) (Inv : Nat → bz_Mm → Prop) : Prop := ∀ (n : Nat) (M : bz_Mm) (a1 : Int) (a2 : Int) (a3 : Int) (a4 : Int), n < 512 → Inv n M → (-2147483648 ≤ a1 ∧ a1 ≤ 2147483647) → (-2147483648 ≤ a2 ∧ a2 ≤ 2147483647) → (-2147483648 ≤ a3 ∧ a3 ≤ 2147483647) → (-2147483648 ≤ a4 ∧ a4 ≤ 2147483647) → ∃ (x : Int × bz_Mm) (y : Int × bz_Mm), fU_tell F M a1 a2 a3 a4 = some x ∧ fM_tell F x.2 a1 a2 a3 a4 = some y ∧ w32 x.1 = w32 y.1 ∧ Inv (n + 1) y.2
def wq_6 (F : Nat) (Inv : Nat → bz_Mm → Prop) : Prop := ∀ (n : Nat) (M : bz_Mm) (a1 : Int) (a2 : Int) (a3 : Int) (a4 : Int), n < 512 → Inv n M → (-2147483648 ≤ a1 ∧ a1 ≤ 2147483647) → (-2147483648 ≤ a2 ∧ a2 ≤ 2147483647) → (-2147483648 ≤ a3 ∧ a3 ≤ 2147483647) → (-2147483648 ≤ a4 ∧ a4 ≤ 2147483647) → ∃ (x : Int) (y : Int), fU_known F M a1 a2 a3 a4 = some x ∧ fM_known1 F M a1 a2 a3 a4 = some y ∧ w32 x = w32 y ∧ Inv (n + 1) M
def wq_7 (F : Nat) (Inv : Nat → bz_Mm → Prop) : Prop := ∀ (n : Nat) (M : bz_Mm) (a1 : Int) (a2 : Int) (a3 : Int) (a4 : Int), n < 512 → Inv n M → (-2147483648 ≤ a1 ∧ a1 ≤ 2147483647) → (-2147483648 ≤ a2 ∧ a2 ≤ 2147483647) → (-2147483648 ≤ a3 ∧ a3 ≤ 2147483647) → (-2147483648 ≤ a4 ∧ a4 ≤ 2147483647) → ∃ (x : Int) (y : Int), fU_stale F M a1 a2 a3 a4 = some x ∧ fM_stale F M a1 a2 a3 a4 = some y ∧ w32 x = w32 y ∧ Inv (n + 1) M
def wq_8 (F : Nat) (Inv : Nat → bz_Mm → Prop) : Prop := ∀ (n : Nat) (M : bz_Mm) (a1 : Int) (a2 : Int) (a3 : Int) (a4 : Int) (a5 : Int), n < 512 → Inv n M → (-2147483648 ≤ a1 ∧ a1 ≤ 2147483647) → (-2147483648 ≤ a2 ∧ a2 ≤ 2147483647) → (-2147483648 ≤ a3 ∧ a3 ≤ 2147483647) → (-2147483648 ≤ a4 ∧ a4 ≤ 2147483647) → (-2147483648 ≤ a5 ∧ a5 ≤ 2147483647) → ∃ (x : Int × bz_Mm) (y : Int × bz_Mm), fU_trade F M a1 a2 a3 a4 a5 = some x ∧ fM_trade F x.2 a1 a2 a3 a4 a5 = some y ∧ w32 x.1 = w32 y.1 ∧ Inv (n + 1) y.2
def wq_9 (F : Nat) (Inv : Nat → bz_Mm → Prop) : Prop := ∀ (n : Nat) (M : bz_Mm) (a1 : Int) (a2 : Int) (a3 : Int) (a4 : Int), n < 512 → Inv n M → (-2147483648 ≤ a1 ∧ a1 ≤ 2147483647) → (-2147483648 ≤ a2 ∧ a2 ≤ 2147483647) → (-2147483648 ≤ a3 ∧ a3 ≤ 2147483647) → (-2147483648 ≤ a4 ∧ a4 ≤ 2147483647) → ∃ (x : Int × bz_Mm) (y : Int × bz_Mm), fU_deal F M a1 a2 a3 a4 = some x ∧ fM_deal F x.2 a1 a2 a3 a4 = some y ∧ w32 x.1 = w32 y.1 ∧ Inv (n + 1) y.2
def wq_10 (F : Nat) (Inv : Nat → bz_Mm → Prop) : Prop := ∀ (n : Nat) (M : bz_Mm) (a1 : Int) (a2 : Int) (a3 : Int) (a4 : Int) (a5 : Int), n < 512 → Inv n M → (-2147483648 ≤ a1 ∧ a1 ≤ 2147483647) → (-2147483648 ≤ a2 ∧ a2 ≤ 2147483647) → (-2147483648 ≤ a3 ∧ a3 ≤ 2147483647) → (-2147483648 ≤ a4 ∧ a4 ≤ 2147483647) → (-2147483648 ≤ a5 ∧ a5 ≤ 2147483647) → ∃ (x : Int × bz_Mm) (y : Int × bz_Mm), fU_feed F M a1 a2 a3 a4 a5 = some x ∧ fM_feed F x.2 a1 a2 a3 a4 a5 = some y ∧ w32 x.1 = w32 y.1 ∧ Inv (n + 1) y.2
def wq_11 (F : Nat) (Inv : Nat → bz_Mm → Prop) : Prop := ∀ (n : Nat) (M : bz_Mm) (a1 : Int), n < 512 → Inv n M → (-2147483648 ≤ a1 ∧ a1 ≤ 2147483647) → ∃ (x : Int × bz_Mm) (y : Int × bz_Mm), fU_end F M a1 = some x ∧ fM_end F x.2 a1 = some y ∧ w32 x.1 = w32 y.1 ∧ Inv (n + 1) y.2
def wq_12 (F : Nat) (Inv : Nat → bz_Mm → Prop) : Prop := ∀ (n : Nat) (M : bz_Mm), n < 512 → Inv n M → ∃ (x : Int × bz_Mm) (y : Int × bz_Mm), fU_fault F M = some x ∧ fM_fault F x.2 = some y ∧ w32 x.1 = w32 y.1 ∧ Inv (n + 1) y.2
def wq_13 (F : Nat) (Inv : Nat → bz_Mm → Prop) : Prop := ∀ (n : Nat) (M : bz_Mm), n < 512 → Inv n M → ∃ (x : Int × bz_Mm) (y : Int × bz_Mm), fU_take F M = some x ∧ fM_take F x.2 = some y ∧ w32 x.1 = w32 y.1 ∧ Inv (n + 1) y.2
def wq_14 (F : Nat) (Inv : Nat → bz_Mm → Prop) : Prop := ∀ (n : Nat) (M : bz_Mm) (a1 : Int) (a2 : Int) (a3 : Int), n < 512 → Inv n M → (-2147483648 ≤ a1 ∧ a1 ≤ 2147483647) → (-2147483648 ≤ a2 ∧ a2 ≤ 2147483647) → (-2147483648 ≤ a3 ∧ a3 ≤ 2147483647) → ∃ (x : Int) (y : Int), fU_rule F M a1 a2 a3 = some x ∧ fM_rule1 F M a1 a2 a3 = some y ∧ w32 x = w32 y ∧ Inv (n + 1) M
def wq_15 (F : Nat) (Inv : Nat → bz_Mm → Prop) : Prop := ∀ (n : Nat) (M : bz_Mm) (a1 : Int), n < 512 → Inv n M → (-2147483648 ≤ a1 ∧ a1 ≤ 2147483647) → ∃ (x : Int × bz_Mm) (y : Int × bz_Mm), fU_go F M a1 = some x ∧ fM_go F x.2 a1 = some y ∧ w32 x.1 = w32 y.1 ∧ Inv (n + 1) y.2
def wq_16 (F : Nat) (Inv : Nat → bz_Mm → Prop) : Prop := ∀ (n : Nat) (M : bz_Mm) (a1 : Int) (a2 : Int), n < 512 → Inv n M → (-2147483648 ≤ a1 ∧ a1 ≤ 2147483647) → (-2147483648 ≤ a2 ∧ a2 ≤ 2147483647) → ∃ (x : Int) (y : Int), fU_booked F M a1 a2 = some x ∧ fM_booked F M a1 a2 = some y ∧ w32 x = w32 y ∧ Inv (n + 1) M
def wq_17 (F : Nat) (Inv : Nat → bz_Mm → Prop) : Prop := ∀ (n : Nat) (M : bz_Mm) (a1 : Int) (a2 : Int) (a3 : Int), n < 512 → Inv n M → (-2147483648 ≤ a1 ∧ a1 ≤ 2147483647) → (-2147483648 ≤ a2 ∧ a2 ≤ 2147483647) → (-2147483648 ≤ a3 ∧ a3 ≤ 2147483647) → ∃ (x : Int × bz_Mm) (y : Int × bz_Mm), fU_right F M a1 a2 a3 = some x ∧ fM_right F x.2 a1 a2 a3 = some y ∧ w32 x.1 = w32 y.1 ∧ Inv (n + 1) y.2
def wq_18 (F : Nat) (Inv : Nat → bz_Mm → Prop) : Prop := ∀ (n : Nat) (M : bz_Mm) (a1 : Int) (a2 : Int) (a3 : Int), n < 512 → Inv n M → (-2147483648 ≤ a1 ∧ a1 ≤ 2147483647) → (-2147483648 ≤ a2 ∧ a2 ≤ 2147483647) → (-2147483648 ≤ a3 ∧ a3 ≤ 2147483647) → ∃ (x : Int × bz_Mm) (y : Int × bz_Mm), fU_fee F M a1 a2 a3 = some x ∧ fM_fee F x.2 a1 a2 a3 = some y ∧ w32 x.1 = w32 y.1 ∧ Inv (n + 1) y.2
def wq_19 (F : Nat) (Inv : Nat → bz_Mm → Prop) : Prop := ∀ (n : Nat) (M : bz_Mm) (a1 : Int) (a2 : Int) (a3 : Int), n < 512 → Inv n M → (-2147483648 ≤ a1 ∧ a1 ≤ 2147483647) → (-2147483648 ≤ a2 ∧ a2 ≤ 2147483647) → (-2147483648 ≤ a3 ∧ a3 ≤ 2147483647) → ∃ (x : Int × bz_Mm) (y : Int × bz_Mm), fU_error F M a1 a2 a3 = some x ∧ fM_error F x.2 a1 a2 a3 = some y ∧ w32 x.1 = w32 y.1 ∧ Inv (n + 1) y.2
def wq_20 (F : Nat) (Inv : Nat → bz_Mm → Prop) : Prop := ∀ (n : Nat) (M : bz_Mm) (a1 : Int), n < 512 → Inv n M → (-2147483648 ≤ a1 ∧ a1 ≤ 2147483647) → ∃ (x : Int × bz_Mm) (y : Int × bz_Mm), fU_errors F M a1 = some x ∧ fM_errors F x.2 a1 = some y ∧ w32 x.1 = w32 y.1 ∧ Inv (n + 1) y.2
def wq_21 (F : Nat) (Inv : Nat → bz_Mm → Prop) : Prop := ∀ (n : Nat) (M : bz_Mm) (a1 : Int) (a2 : Int), n < 512 → Inv n M → (-2147483648 ≤ a1 ∧ a1 ≤ 2147483647) → (-2147483648 ≤ a2 ∧ a2 ≤ 2147483647) → ∃ (x : Int) (y : Int), fU_units F M a1 a2 = some x ∧ fM_units F M a1 a2 = some y ∧ w32 x = w32 y ∧ Inv (n + 1) M
def wq_22 (F : Nat) (Inv : Nat → bz_Mm → Prop) : Prop := ∀ (n : Nat) (M : bz_Mm) (a1 : Int) (a2 : Int) (a3 : Int) (a4 : Int), n < 512 → Inv n M → (-2147483648 ≤ a1 ∧ a1 ≤ 2147483647) → (-2147483648 ≤ a2 ∧ a2 ≤ 2147483647) → (-2147483648 ≤ a3 ∧ a3 ≤ 2147483647) → (-2147483648 ≤ a4 ∧ a4 ≤ 2147483647) → ∃ (x : Int × bz_Mm) (y : Int × bz_Mm), fU_claim F M a1 a2 a3 a4 = some x ∧ fM_claim F x.2 a1 a2 a3 a4 = some y ∧ w32 x.1 = w32 y.1 ∧ Inv (n + 1) y.2
def wq_23 (F : Nat) (Inv : Nat → bz_Mm → Prop) : Prop := ∀ (n : Nat) (M : bz_Mm) (a1 : Int) (a2 : Int), n < 512 → Inv n M → (-2147483648 ≤ a1 ∧ a1 ≤ 2147483647) → (-2147483648 ≤ a2 ∧ a2 ≤ 2147483647) → ∃ (x : Int × bz_Mm) (y : Int × bz_Mm), fU_house F M a1 a2 = some x ∧ fM_house F x.2 a1 a2 = some y ∧ w32 x.1 = w32 y.1 ∧ Inv (n + 1) y.2
def wq_24 (F : Nat) (Inv : Nat → bz_Mm → Prop) : Prop := ∀ (n : Nat) (M : bz_Mm) (a1 : Int) (a2 : Int), n < 512 → Inv n M → (-2147483648 ≤ a1 ∧ a1 ≤ 2147483647) → (-2147483648 ≤ a2 ∧ a2 ≤ 2147483647) → ∃ (x : Int × bz_Mm) (y : Int × bz_Mm), fU_cash F M a1 a2 = some x ∧ fM_cash F x.2 a1 a2 = some y ∧ w32 x.1 = w32 y.1 ∧ Inv (n + 1) y.2
def wq_25 (F : Nat) (Inv : Nat → bz_Mm → Prop) : Prop := ∀ (n : Nat) (M : bz_Mm) (a1 : Int) (a2 : Int), n < 512 → Inv n M → (-2147483648 ≤ a1 ∧ a1 ≤ 2147483647) → (-2147483648 ≤ a2 ∧ a2 ≤ 2147483647) → ∃ (x : Int × bz_Mm) (y : Int × bz_Mm), fU_dealt F M a1 a2 = some x ∧ fM_dealt F x.2 a1 a2 = some y ∧ w32 x.1 = w32 y.1 ∧ Inv (n + 1) y.2
def wq_26 (F : Nat) (Inv : Nat → bz_Mm → Prop) : Prop := ∀ (n : Nat) (M : bz_Mm) (a1 : Int), n < 512 → Inv n M → (-2147483648 ≤ a1 ∧ a1 ≤ 2147483647) → ∃ (x : Int × bz_Mm) (y : Int × bz_Mm), fU_gone F M a1 = some x ∧ fM_gone F x.2 a1 = some y ∧ w32 x.1 = w32 y.1 ∧ Inv (n + 1) y.2
def wq_27 (F : Nat) (Inv : Nat → bz_Mm → Prop) : Prop := ∀ (n : Nat) (M : bz_Mm) (a1 : Int), n < 512 → Inv n M → (-2147483648 ≤ a1 ∧ a1 ≤ 2147483647) → ∃ (x : Int × bz_Mm) (y : Int × bz_Mm), fU_found F M a1 = some x ∧ fM_found F x.2 a1 = some y ∧ w32 x.1 = w32 y.1 ∧ Inv (n + 1) y.2
def wq_28 (F : Nat) (Inv : Nat → bz_Mm → Prop) : Prop := ∀ (n : Nat) (M : bz_Mm) (a1 : Int), n < 512 → Inv n M → (-2147483648 ≤ a1 ∧ a1 ≤ 2147483647) → ∃ (x : Int) (y : Int), fU_due F M a1 = some x ∧ fM_due F M a1 = some y ∧ w32 x = w32 y ∧ Inv (n + 1) M
def wq_29 (F : Nat) (Inv : Nat → bz_Mm → Prop) : Prop := ∀ (n : Nat) (M : bz_Mm) (a1 : Int) (a2 : Int) (a3 : Int), n < 512 → Inv n M → (-2147483648 ≤ a1 ∧ a1 ≤ 2147483647) → (-2147483648 ≤ a2 ∧ a2 ≤ 2147483647) → (-2147483648 ≤ a3 ∧ a3 ≤ 2147483647) → ∃ (x : Int × bz_Mm) (y : Int × bz_Mm), fU_audit F M a1 a2 a3 = some x ∧ fM_audit F x.2 a1 a2 a3 = some y ∧ w32 x.1 = w32 y.1 ∧ Inv (n + 1) y.2
def wq_30 (F : Nat) (Inv : Nat → bz_Mm → Prop) : Prop := ∀ (n : Nat) (M : bz_Mm) (a1 : Int) (a2 : Int) (a3 : Int) (a4 : Int), n < 512 → Inv n M → (-2147483648 ≤ a1 ∧ a1 ≤ 2147483647) → (-2147483648 ≤ a2 ∧ a2 ≤ 2147483647) → (-2147483648 ≤ a3 ∧ a3 ≤ 2147483647) → (-2147483648 ≤ a4 ∧ a4 ≤ 2147483647) → ∃ (x : Int × bz_Mm) (y : Int × bz_Mm), fU_suspect F M a1 a2 a3 a4 = some x ∧ fM_suspect F x.2 a1 a2 a3 a4 = some y ∧ w32 x.1 = w32 y.1 ∧ Inv (n + 1) y.2
def wq_31 (F : Nat) (Inv : Nat → bz_Mm → Prop) : Prop := ∀ (n : Nat) (M : bz_Mm), n < 512 → Inv n M → ∃ (x : Int × bz_Mm) (y : Int × bz_Mm), fU_forget F M = some x ∧ fM_forget F x.2 = some y ∧ w32 x.1 = w32 y.1 ∧ Inv (n + 1) y.2
def wq_32 (F : Nat) (Inv : Nat → bz_Mm → Prop) : Prop := ∀ (n : Nat) (M : bz_Mm), n < 512 → Inv n M → ∃ (x : Int × bz_Mm) (y : Int × bz_Mm), fU_explain F M = some x ∧ fM_explain F x.2 = some y ∧ w32 x.1 = w32 y.1 ∧ Inv (n + 1) y.2
def wq_33 (F : Nat) (Inv : Nat → bz_Mm → Prop) : Prop := ∀ (n : Nat) (M : bz_Mm), n < 512 → Inv n M → ∃ (x : Int × bz_Mm) (y : Int × bz_Mm), fU_rivals F M = some x ∧ fM_rivals F x.2 = some y ∧ w32 x.1 = w32 y.1 ∧ Inv (n + 1) y.2
def wq_34 (F : Nat) (Inv : Nat → bz_Mm → Prop) : Prop := ∀ (n : Nat) (M : bz_Mm) (a1 : Int) (a2 : Int), n < 512 → Inv n M → (-2147483648 ≤ a1 ∧ a1 ≤ 2147483647) → (-2147483648 ≤ a2 ∧ a2 ≤ 2147483647) → ∃ (x : Int) (y : Int), fU_alarm F M a1 a2 = some x ∧ fM_alarm F M a1 a2 = some y ∧ w32 x = w32 y ∧ Inv (n + 1) M
def wq_35 (F : Nat) (Inv : Nat → bz_Mm → Prop) : Prop := ∀ (n : Nat) (M : bz_Mm) (a1 : Int) (a2 : Int), n < 512 → Inv n M → (-2147483648 ≤ a1 ∧ a1 ≤ 2147483647) → (-2147483648 ≤ a2 ∧ a2 ≤ 2147483647) → ∃ (x : Int × bz_Mm) (y : Int × bz_Mm), fU_beside F M a1 a2 = some x ∧ fM_beside F x.2 a1 a2 = some y ∧ w32 x.1 = w32 y.1 ∧ Inv (n + 1) y.2
def wq_36 (F : Nat) (Inv : Nat → bz_Mm → Prop) : Prop := ∀ (n : Nat) (M : bz_Mm) (a1 : Int) (a2 : Int), n < 512 → Inv n M → (-2147483648 ≤ a1 ∧ a1 ≤ 2147483647) → (-2147483648 ≤ a2 ∧ a2 ≤ 2147483647) → ∃ (x : Int × bz_Mm) (y : Int × bz_Mm), fU_balance F M a1 a2 = some x ∧ fM_balance F x.2 a1 a2 = some y ∧ w32 x.1 = w32 y.1 ∧ Inv (n + 1) y.2
def wq_37 (F : Nat) (Inv : Nat → bz_Mm → Prop) : Prop := ∀ (n : Nat) (M : bz_Mm) (a1 : Int), n < 512 → Inv n M → (-2147483648 ≤ a1 ∧ a1 ≤ 2147483647) → ∃ (x : Int × bz_Mm) (y : Int × bz_Mm), fU_payments F M a1 = some x ∧ fM_payments F x.2 a1 = some y ∧ w32 x.1 = w32 y.1 ∧ Inv (n + 1) y.2
def wq_38 (F : Nat) (Inv : Nat → bz_Mm → Prop) : Prop := ∀ (n : Nat) (M : bz_Mm) (a1 : Int) (a2 : Int) (a3 : Int), n < 512 → Inv n M → (-2147483648 ≤ a1 ∧ a1 ≤ 2147483647) → (-2147483648 ≤ a2 ∧ a2 ≤ 2147483647) → (-2147483648 ≤ a3 ∧ a3 ≤ 2147483647) → ∃ (x : Int × bz_Mm) (y : Int × bz_Mm), fU_payment F M a1 a2 a3 = some x ∧ fM_payment F x.2 a1 a2 a3 = some y ∧ w32 x.1 = w32 y.1 ∧ Inv (n + 1) y.2
def wq_39 (F : Nat) (Inv : Nat → bz_Mm → Prop) : Prop := ∀ (n : Nat) (M : bz_Mm) (a1 : Int), n < 512 → Inv n M → (-2147483648 ≤ a1 ∧ a1 ≤ 2147483647) → ∃ (x : Int) (y : Int), fU_count F M a1 = some x ∧ fM_count F M a1 = some y ∧ w32 x = w32 y ∧ Inv (n + 1) M
set_option maxHeartbeats 1000000 in
theorem lo_0 {K : bz_K} {E : bz_E} {b L : Nat} {xs : Nat → Int32} {i n : Nat} {M : bz_Mm} {F : Nat} {Inv : Nat → bz_Mm → Prop} (X : lj_X K E b L xs) (hi : i + 6 ≤ L) (hn : n < 512) (hw : wq_0 F Inv) (hM : Inv n M) (kk : ∀ M, Inv (n + 1) M → lj_J K 1548 (lj_lv E b i) [] M) : lj_J K 208 (lj_lv E b i) [] M := by
  obtain ⟨x, y, h1, h2, he, hI⟩ := hw n M (lj_a xs (i + 1)) (lj_a xs (i + 2)) hn hM (lj_rng _) (lj_rng _)
  refine lj_self X dL_208 rfl 2 rfl ?_
  refine lj_arg X (k := 1) dL_209 dL_210 dL_211 dL_212 dL_213 rfl (by omega) ?_
  refine lj_arg X (k := 2) dL_214 dL_215 dL_216 dL_217 dL_218 rfl (by omega) ?_
  refine lj_cv X (cU_paper E F h1) gLU_paper vLU_paper rfl (by decide) (by decide) mL_13 rfl (Nat.le_of_ble_eq_true rfl) dL_219 ?_
  refine lj_self X dL_222 rfl 1 rfl ?_
  refine lj_arg X (k := 1) dL_223 dL_224 dL_225 dL_226 dL_227 rfl (by omega) ?_
  refine lj_arg X (k := 2) dL_228 dL_229 dL_230 dL_231 dL_232 rfl (by omega) ?_
  refine lj_cv X (cM_paper E F h2) gLM_paper vLM_paper rfl (by decide) (by decide) mL_17 rfl (Nat.le_of_ble_eq_true rfl) dL_233 ?_
  exact lj_eq X (tgt := 1548) dL_236 (by decide) he (kk _ hI)
set_option maxHeartbeats 1000000 in
theorem lo_1 {K : bz_K} {E : bz_E} {b L : Nat} {xs : Nat → Int32} {i n : Nat} {M : bz_Mm} {F : Nat} {Inv : Nat → bz_Mm → Prop} (X : lj_X K E b L xs) (hi : i + 6 ≤ L) (hn : n < 512) (hw : wq_1 F Inv) (hM : Inv n M) (kk : ∀ M, Inv (n + 1) M → lj_J K 1548 (lj_lv E b i) [] M) : lj_J K 241 (lj_lv E b i) [] M := by
  obtain ⟨x, y, h1, h2, he, hI⟩ := hw n M (lj_a xs (i + 1)) hn hM (lj_rng _)
  refine lj_self X dL_241 rfl 2 rfl ?_
  refine lj_arg X (k := 1) dL_242 dL_243 dL_244 dL_245 dL_246 rfl (by omega) ?_
  refine lj_cv X (cU_fund E F h1) gLU_fund vLU_fund rfl (by decide) (by decide) mL_18 rfl (Nat.le_of_ble_eq_true rfl) dL_247 ?_
  refine lj_self X dL_250 rfl 1 rfl ?_
  refine lj_arg X (k := 1) dL_251 dL_252 dL_253 dL_254 dL_255 rfl (by omega) ?_
  refine lj_cv X (cM_fund E F h2) gLM_fund vLM_fund rfl (by decide) (by decide) mL_22 rfl (Nat.le_of_ble_eq_true rfl) dL_256 ?_
  exact lj_eq X (tgt := 1548) dL_259 (by decide) he (kk _ hI)
set_option maxHeartbeats 1000000 in
theorem lo_2 {K : bz_K} {E : bz_E} {b L : Nat} {xs : Nat → Int32} {i n : Nat} {M : bz_Mm} {F : Nat} {Inv : Nat → bz_Mm → Prop} (X : lj_X K E b L xs) (hi : i + 6 ≤ L) (hn : n < 512) (hw : wq_2 F Inv) (hM : Inv n M) (kk : ∀ M, Inv (n + 1) M → lj_J K 1548 (lj_lv E b i) [] M) : lj_J K 264 (lj_lv E b i) [] M := by
  obtain ⟨x, y, h1, h2, he, hI⟩ := hw n M (lj_a xs (i + 1)) hn hM (lj_rng _)
  refine lj_self X dL_264 rfl 2 rfl ?_
  refine lj_arg X (k := 1) dL_265 dL_266 dL_267 dL_268 dL_269 rfl (by omega) ?_
  refine lj_cv X (cU_holder E F h1) gLU_holder vLU_holder rfl (by decide) (by decide) mL_23 rfl (Nat.le_of_ble_eq_true rfl) dL_270 ?_
  refine lj_self X dL_273 rfl 1 rfl ?_
  refine lj_arg X (k := 1) dL_274 dL_275 dL_276 dL_277 dL_278 rfl (by omega) ?_
  refine lj_cv X (cM_holder E F h2) gLM_holder vLM_holder rfl (by decide) (by decide) mL_26 rfl (Nat.le_of_ble_eq_true rfl) dL_279 ?_
  exact lj_eq X (tgt := 1548) dL_282 (by decide) he (kk _ hI)
set_option maxHeartbeats 1000000 in
theorem lo_3 {K : bz_K} {E : bz_E} {b L : Nat} {xs : Nat → Int32} {i n : Nat} {M : bz_Mm} {F : Nat} {Inv : Nat → bz_Mm → Prop} (X : lj_X K E b L xs) (hi : i + 6 ≤ L) (hn : n < 512) (hw : wq_3 F Inv) (hM : Inv n M) (kk : ∀ M, Inv (n + 1) M → lj_J K 1548 (lj_lv E b i) [] M) : lj_J K 287 (lj_lv E b i) [] M := by
  obtain ⟨x, y, h1, h2, he, hI⟩ := hw n M (lj_a xs (i + 1)) hn hM (lj_rng _)
  refine lj_self X dL_287 rfl 2 rfl ?_
  refine lj_arg X (k := 1) dL_288 dL_289 dL_290 dL_291 dL_292 rfl (by omega) ?_
  refine lj_cv X (cU_holiday E F h1) gLU_holiday vLU_holiday rfl (by decide) (by decide) mL_27 rfl (Nat.le_of_ble_eq_true rfl) dL_293 ?_
  refine lj_self X dL_296 rfl 1 rfl ?_
  refine lj_arg X (k := 1) dL_297 dL_298 dL_299 dL_300 dL_301 rfl (by omega) ?_
  refine lj_cv X (cM_holiday E F h2) gLM_holiday vLM_holiday rfl (by decide) (by decide) mL_31 rfl (Nat.le_of_ble_eq_true rfl) dL_302 ?_
  exact lj_eq X (tgt := 1548) dL_305 (by decide) he (kk _ hI)
set_option maxHeartbeats 1000000 in
theorem lo_4 {K : bz_K} {E : bz_E} {b L : Nat} {xs : Nat → Int32} {i n : Nat} {M : bz_Mm} {F : Nat} {Inv : Nat → bz_Mm → Prop} (X : lj_X K E b L xs) (hi : i + 6 ≤ L) (hn : n < 512) (hw : wq_4 F Inv) (hM : Inv n M) (kk : ∀ M, Inv (n + 1) M → lj_J K 1548 (lj_lv E b i) [] M) : lj_J K 310 (lj_lv E b i) [] M := by
  obtain ⟨x, y, h1, h2, he, hI⟩ := hw n M (lj_a xs (i + 1)) hn hM (lj_rng _)
  refine lj_self X dL_310 rfl 2 rfl ?_
  refine lj_arg X (k := 1) dL_311 dL_312 dL_313 dL_314 dL_315 rfl (by omega) ?_
  refine lj_cv X (cU_open E F h1) gLU_open vLU_open rfl (by decide) (by decide) mL_32 rfl (Nat.le_of_ble_eq_true rfl) dL_316 ?_
  refine lj_self X dL_319 rfl 1 rfl ?_
  refine lj_arg X (k := 1) dL_320 dL_321 dL_322 dL_323 dL_324 rfl (by omega) ?_
  refine lj_cv X (cM_open E F h2) gLM_open vLM_open rfl (by decide) (by decide) mL_35 rfl (Nat.le_of_ble_eq_true rfl) dL_325 ?_
  exact lj_eq X (tgt := 1548) dL_328 (by decide) he (kk _ hI)
set_option maxHeartbeats 1000000 in
theorem lo_5 {K : bz_K} {E : bz_E} {b L : Nat} {xs : Nat → Int32} {i n : Nat} {M : bz_Mm} {F : Nat} {Inv : Nat → bz_Mm → Prop} (X : lj_X K E b L xs) (hi : i + 6 ≤ L) (hn : n < 512) (hw : wq_5 F Inv) (hM : Inv n M) (kk : ∀ M, Inv (n + 1) M → lj_J K 1548 (lj_lv E b i) [] M) : lj_J K 333 (lj_lv E b i) [] M := by
  obtain ⟨x, y, h1, h2, he, hI⟩ := hw n M (lj_a xs (i + 1)) (lj_a xs (i + 2)) (lj_a xs (i + 3)) (lj_a xs (i + 4)) hn hM (lj_rng _) (lj_rng _) (lj_rng _) (lj_rng _)
  refine lj_self X dL_333 rfl 2 rfl ?_
  refine lj_arg X (k := 1) dL_334 dL_335 dL_336 dL_337 dL_338 rfl (by omega) ?_
  refine lj_arg X (k := 2) dL_339 dL_340 dL_341 dL_342 dL_343 rfl (by omega) ?_
  refine lj_arg X (k := 3) dL_344 dL_345 dL_346 dL_347 dL_348 rfl (by omega) ?_
  refine lj_arg X (k := 4) dL_349 dL_350 dL_351 dL_352 dL_353 rfl (by omega) ?_
  refine lj_cv X (cU_tell E F h1) gLU_tell vLU_tell rfl (by decide) (by decide) mL_36 rfl (Nat.le_of_ble_eq_true rfl) dL_354 ?_
  refine lj_self X dL_357 rfl 1 rfl ?_
  refine lj_arg X (k := 1) dL_358 dL_359 dL_360 dL_361 dL_362 rfl (by omega) ?_
  refine lj_arg X (k := 2) dL_363 dL_364 dL_365 dL_366 dL_367 rfl (by omega) ?_
  refine lj_arg X (k := 3) dL_368 dL_369 dL_370 dL_371 dL_372 rfl (by omega) ?_
  refine lj_arg X (k := 4) dL_373 dL_374 dL_375 dL_376 dL_377 rfl (by omega) ?_
  refine lj_cv X (cM_tell E F h2) gLM_tell vLM_tell rfl (by decide) (by decide) mL_40 rfl (Nat.le_of_ble_eq_true rfl) dL_378 ?_
  exact lj_eq X (tgt := 1548) dL_381 (by decide) he (kk _ hI)
set_option maxHeartbeats 1000000 in
theorem lo_6 {K : bz_K} {E : bz_E} {b L : Nat} {xs : Nat → Int32} {i n : Nat} {M : bz_Mm} {F : Nat} {Inv : Nat → bz_Mm → Prop} (X : lj_X K E b L xs) (hi : i + 6 ≤ L) (hn : n < 512) (hw : wq_6 F Inv) (hM : Inv n M) (kk : ∀ M, Inv (n + 1) M → lj_J K 1548 (lj_lv E b i) [] M) : lj_J K 386 (lj_lv E b i) [] M := by
  obtain ⟨x, y, h1, h2, he, hI⟩ := hw n M (lj_a xs (i + 1)) (lj_a xs (i + 2)) (lj_a xs (i + 3)) (lj_a xs (i + 4)) hn hM (lj_rng _) (lj_rng _) (lj_rng _) (lj_rng _)
  refine lj_self X dL_386 rfl 2 rfl ?_
  refine lj_arg X (k := 1) dL_387 dL_388 dL_389 dL_390 dL_391 rfl (by omega) ?_
  refine lj_arg X (k := 2) dL_392 dL_393 dL_394 dL_395 dL_396 rfl (by omega) ?_
  refine lj_arg X (k := 3) dL_397 dL_398 dL_399 dL_400 dL_401 rfl (by omega) ?_
  refine lj_arg X (k := 4) dL_402 dL_403 dL_404 dL_405 dL_406 rfl (by omega) ?_
  refine lj_cv X (cU_known E F h1) gLU_known vLU_known rfl (by decide) (by decide) mL_41 rfl (Nat.le_of_ble_eq_true rfl) dL_407 ?_
  refine lj_self X dL_410 rfl 1 rfl ?_
  refine lj_arg X (k := 1) dL_411 dL_412 dL_413 dL_414 dL_415 rfl (by omega) ?_
  refine lj_arg X (k := 2) dL_416 dL_417 dL_418 dL_419 dL_420 rfl (by omega) ?_
  refine lj_arg X (k := 3) dL_421 dL_422 dL_423 dL_424 dL_425 rfl (by omega) ?_
  refine lj_arg X (k := 4) dL_426 dL_427 dL_428 dL_429 dL_430 rfl (by omega) ?_
  refine lj_cv X (cM_known1 E F h2) gLM_known1 vLM_known1 rfl (by decide) (by decide) mL_44 rfl (Nat.le_of_ble_eq_true rfl) dL_431 ?_
  exact lj_eq X (tgt := 1548) dL_434 (by decide) he (kk _ hI)
set_option maxHeartbeats 1000000 in
theorem lo_7 {K : bz_K} {E : bz_E} {b L : Nat} {xs : Nat → Int32} {i n : Nat} {M : bz_Mm} {F : Nat} {Inv : Nat → bz_Mm → Prop} (X : lj_X K E b L xs) (hi : i + 6 ≤ L) (hn : n < 512) (hw : wq_7 F Inv) (hM : Inv n M) (kk : ∀ M, Inv (n + 1) M → lj_J K 1548 (lj_lv E b i) [] M) : lj_J K 439 (lj_lv E b i) [] M := by
  obtain ⟨x, y, h1, h2, he, hI⟩ := hw n M (lj_a xs (i + 1)) (lj_a xs (i + 2)) (lj_a xs (i + 3)) (lj_a xs (i + 4)) hn hM (lj_rng _) (lj_rng _) (lj_rng _) (lj_rng _)
  refine lj_self X dL_439 rfl 2 rfl ?_
  refine lj_arg X (k := 1) dL_440 dL_441 dL_442 dL_443 dL_444 rfl (by omega) ?_
  refine lj_arg X (k := 2) dL_445 dL_446 dL_447 dL_448 dL_449 rfl (by omega) ?_
  refine lj_arg X (k := 3) dL_450 dL_451 dL_452 dL_453 dL_454 rfl (by omega) ?_
  refine lj_arg X (k := 4) dL_455 dL_456 dL_457 dL_458 dL_459 rfl (by omega) ?_
  refine lj_cv X (cU_stale E F h1) gLU_stale vLU_stale rfl (by decide) (by decide) mL_45 rfl (Nat.le_of_ble_eq_true rfl) dL_460 ?_
  refine lj_self X dL_463 rfl 1 rfl ?_
  refine lj_arg X (k := 1) dL_464 dL_465 dL_466 dL_467 dL_468 rfl (by omega) ?_
  refine lj_arg X (k := 2) dL_469 dL_470 dL_471 dL_472 dL_473 rfl (by omega) ?_
  refine lj_arg X (k := 3) dL_474 dL_475 dL_476 dL_477 dL_478 rfl (by omega) ?_
  refine lj_arg X (k := 4) dL_479 dL_480 dL_481 dL_482 dL_483 rfl (by omega) ?_
  refine lj_cv X (cM_stale E F h2) gLM_stale vLM_stale rfl (by decide) (by decide) mL_49 rfl (Nat.le_of_ble_eq_true rfl) dL_484 ?_
  exact lj_eq X (tgt := 1548) dL_487 (by decide) he (kk _ hI)
set_option maxHeartbeats 1000000 in
theorem lo_8 {K : bz_K} {E : bz_E} {b L : Nat} {xs : Nat → Int32} {i n : Nat} {M : bz_Mm} {F : Nat} {Inv : Nat → bz_Mm → Prop} (X : lj_X K E b L xs) (hi : i + 6 ≤ L) (hn : n < 512) (hw : wq_8 F Inv) (hM : Inv n M) (kk : ∀ M, Inv (n + 1) M → lj_J K 1548 (lj_lv E b i) [] M) : lj_J K 492 (lj_lv E b i) [] M := by
  obtain ⟨x, y, h1, h2, he, hI⟩ := hw n M (lj_a xs (i + 1)) (lj_a xs (i + 2)) (lj_a xs (i + 3)) (lj_a xs (i + 4)) (lj_a xs (i + 5)) hn hM (lj_rng _) (lj_rng _) (lj_rng _) (lj_rng _) (lj_rng _)
  refine lj_self X dL_492 rfl 2 rfl ?_
  refine lj_arg X (k := 1) dL_493 dL_494 dL_495 dL_496 dL_497 rfl (by omega) ?_
  refine lj_arg X (k := 2) dL_498 dL_499 dL_500 dL_501 dL_502 rfl (by omega) ?_
  refine lj_arg X (k := 3) dL_503 dL_504 dL_505 dL_506 dL_507 rfl (by omega) ?_
  refine lj_arg X (k := 4) dL_508 dL_509 dL_510 dL_511 dL_512 rfl (by omega) ?_
  refine lj_arg X (k := 5) dL_513 dL_514 dL_515 dL_516 dL_517 rfl (by omega) ?_
  refine lj_cv X (cU_trade E F h1) gLU_trade vLU_trade rfl (by decide) (by decide) mL_50 rfl (Nat.le_of_ble_eq_true rfl) dL_518 ?_
  refine lj_self X dL_521 rfl 1 rfl ?_
  refine lj_arg X (k := 1) dL_522 dL_523 dL_524 dL_525 dL_526 rfl (by omega) ?_
  refine lj_arg X (k := 2) dL_527 dL_528 dL_529 dL_530 dL_531 rfl (by omega) ?_
  refine lj_arg X (k := 3) dL_532 dL_533 dL_534 dL_535 dL_536 rfl (by omega) ?_
  refine lj_arg X (k := 4) dL_537 dL_538 dL_539 dL_540 dL_541 rfl (by omega) ?_
  refine lj_arg X (k := 5) dL_542 dL_543 dL_544 dL_545 dL_546 rfl (by omega) ?_
  refine lj_cv X (cM_trade E F h2) gLM_trade vLM_trade rfl (by decide) (by decide) mL_54 rfl (Nat.le_of_ble_eq_true rfl) dL_547 ?_
  exact lj_eq X (tgt := 1548) dL_550 (by decide) he (kk _ hI)
set_option maxHeartbeats 1000000 in
theorem lo_9 {K : bz_K} {E : bz_E} {b L : Nat} {xs : Nat → Int32} {i n : Nat} {M : bz_Mm} {F : Nat} {Inv : Nat → bz_Mm → Prop} (X : lj_X K E b L xs) (hi : i + 6 ≤ L) (hn : n < 512) (hw : wq_9 F Inv) (hM : Inv n M) (kk : ∀ M, Inv (n + 1) M → lj_J K 1548 (lj_lv E b i) [] M) : lj_J K 555 (lj_lv E b i) [] M := by
  obtain ⟨x, y, h1, h2, he, hI⟩ := hw n M (lj_a xs (i + 1)) (lj_a xs (i + 2)) (lj_a xs (i + 3)) (lj_a xs (i + 4)) hn hM (lj_rng _) (lj_rng _) (lj_rng _) (lj_rng _)
  refine lj_self X dL_555 rfl 2 rfl ?_
  refine lj_arg X (k := 1) dL_556 dL_557 dL_558 dL_559 dL_560 rfl (by omega) ?_
  refine lj_arg X (k := 2) dL_561 dL_562 dL_563 dL_564 dL_565 rfl (by omega) ?_
  refine lj_arg X (k := 3) dL_566 dL_567 dL_568 dL_569 dL_570 rfl (by omega) ?_
  refine lj_arg X (k := 4) dL_571 dL_572 dL_573 dL_574 dL_575 rfl (by omega) ?_
  refine lj_cv X (cU_deal E F h1) gLU_deal vLU_deal rfl (by decide) (by decide) mL_55 rfl (Nat.le_of_ble_eq_true rfl) dL_576 ?_
  refine lj_self X dL_579 rfl 1 rfl ?_
  refine lj_arg X (k := 1) dL_580 dL_581 dL_582 dL_583 dL_584 rfl (by omega) ?_
  refine lj_arg X (k := 2) dL_585 dL_586 dL_587 dL_588 dL_589 rfl (by omega) ?_
  refine lj_arg X (k := 3) dL_590 dL_591 dL_592 dL_593 dL_594 rfl (by omega) ?_
  refine lj_arg X (k := 4) dL_595 dL_596 dL_597 dL_598 dL_599 rfl (by omega) ?_
  refine lj_cv X (cM_deal E F h2) gLM_deal vLM_deal rfl (by decide) (by decide) mL_58 rfl (Nat.le_of_ble_eq_true rfl) dL_600 ?_
  exact lj_eq X (tgt := 1548) dL_603 (by decide) he (kk _ hI)
set_option maxHeartbeats 1000000 in
theorem lo_10 {K : bz_K} {E : bz_E} {b L : Nat} {xs : Nat → Int32} {i n : Nat} {M : bz_Mm} {F : Nat} {Inv : Nat → bz_Mm → Prop} (X : lj_X K E b L xs) (hi : i + 6 ≤ L) (hn : n < 512) (hw : wq_10 F Inv) (hM : Inv n M) (kk : ∀ M, Inv (n + 1) M → lj_J K 1548 (lj_lv E b i) [] M) : lj_J K 608 (lj_lv E b i) [] M := by
  obtain ⟨x, y, h1, h2, he, hI⟩ := hw n M (lj_a xs (i + 1)) (lj_a xs (i + 2)) (lj_a xs (i + 3)) (lj_a xs (i + 4)) (lj_a xs (i + 5)) hn hM (lj_rng _) (lj_rng _) (lj_rng _) (lj_rng _) (lj_rng _)
  refine lj_self X dL_608 rfl 2 rfl ?_
  refine lj_arg X (k := 1) dL_609 dL_610 dL_611 dL_612 dL_613 rfl (by omega) ?_
  refine lj_arg X (k := 2) dL_614 dL_615 dL_616 dL_617 dL_618 rfl (by omega) ?_
  refine lj_arg X (k := 3) dL_619 dL_620 dL_621 dL_622 dL_623 rfl (by omega) ?_
  refine lj_arg X (k := 4) dL_624 dL_625 dL_626 dL_627 dL_628 rfl (by omega) ?_
  refine lj_arg X (k := 5) dL_629 dL_630 dL_631 dL_632 dL_633 rfl (by omega) ?_
  refine lj_cv X (cU_feed E F h1) gLU_feed vLU_feed rfl (by decide) (by decide) mL_59 rfl (Nat.le_of_ble_eq_true rfl) dL_634 ?_
  refine lj_self X dL_637 rfl 1 rfl ?_
  refine lj_arg X (k := 1) dL_638 dL_639 dL_640 dL_641 dL_642 rfl (by omega) ?_
  refine lj_arg X (k := 2) dL_643 dL_644 dL_645 dL_646 dL_647 rfl (by omega) ?_
  refine lj_arg X (k := 3) dL_648 dL_649 dL_650 dL_651 dL_652 rfl (by omega) ?_
  refine lj_arg X (k := 4) dL_653 dL_654 dL_655 dL_656 dL_657 rfl (by omega) ?_
  refine lj_arg X (k := 5) dL_658 dL_659 dL_660 dL_661 dL_662 rfl (by omega) ?_
  refine lj_cv X (cM_feed E F h2) gLM_feed vLM_feed rfl (by decide) (by decide) mL_62 rfl (Nat.le_of_ble_eq_true rfl) dL_663 ?_
  exact lj_eq X (tgt := 1548) dL_666 (by decide) he (kk _ hI)
set_option maxHeartbeats 1000000 in
theorem lo_11 {K : bz_K} {E : bz_E} {b L : Nat} {xs : Nat → Int32} {i n : Nat} {M : bz_Mm} {F : Nat} {Inv : Nat → bz_Mm → Prop} (X : lj_X K E b L xs) (hi : i + 6 ≤ L) (hn : n < 512) (hw : wq_11 F Inv) (hM : Inv n M) (kk : ∀ M, Inv (n + 1) M → lj_J K 1548 (lj_lv E b i) [] M) : lj_J K 671 (lj_lv E b i) [] M := by
  obtain ⟨x, y, h1, h2, he, hI⟩ := hw n M (lj_a xs (i + 1)) hn hM (lj_rng _)
  refine lj_self X dL_671 rfl 2 rfl ?_
  refine lj_arg X (k := 1) dL_672 dL_673 dL_674 dL_675 dL_676 rfl (by omega) ?_
  refine lj_cv X (cU_end E F h1) gLU_end vLU_end rfl (by decide) (by decide) mL_63 rfl (Nat.le_of_ble_eq_true rfl) dL_677 ?_
  refine lj_self X dL_680 rfl 1 rfl ?_
  refine lj_arg X (k := 1) dL_681 dL_682 dL_683 dL_684 dL_685 rfl (by omega) ?_
  refine lj_cv X (cM_end E F h2) gLM_end vLM_end rfl (by decide) (by decide) mL_66 rfl (Nat.le_of_ble_eq_true rfl) dL_686 ?_
  exact lj_eq X (tgt := 1548) dL_689 (by decide) he (kk _ hI)
set_option maxHeartbeats 1000000 in
theorem lo_12 {K : bz_K} {E : bz_E} {b L : Nat} {xs : Nat → Int32} {i n : Nat} {M : bz_Mm} {F : Nat} {Inv : Nat → bz_Mm → Prop} (X : lj_X K E b L xs) (hi : i + 6 ≤ L) (hn : n < 512) (hw : wq_12 F Inv) (hM : Inv n M) (kk : ∀ M, Inv (n + 1) M → lj_J K 1548 (lj_lv E b i) [] M) : lj_J K 694 (lj_lv E b i) [] M := by
  obtain ⟨x, y, h1, h2, he, hI⟩ := hw n M  hn hM 
  refine lj_self X dL_694 rfl 2 rfl ?_
  refine lj_cv X (cU_fault E F h1) gLU_fault vLU_fault rfl (by decide) (by decide) mL_67 rfl (Nat.le_of_ble_eq_true rfl) dL_695 ?_
  refine lj_self X dL_698 rfl 1 rfl ?_
  refine lj_cv X (cM_fault E F h2) gLM_fault vLM_fault rfl (by decide) (by decide) mL_71 rfl (Nat.le_of_ble_eq_true rfl) dL_699 ?_
  exact lj_eq X (tgt := 1548) dL_702 (by decide) he (kk _ hI)
set_option maxHeartbeats 1000000 in
theorem lo_13 {K : bz_K} {E : bz_E} {b L : Nat} {xs : Nat → Int32} {i n : Nat} {M : bz_Mm} {F : Nat} {Inv : Nat → bz_Mm → Prop} (X : lj_X K E b L xs) (hi : i + 6 ≤ L) (hn : n < 512) (hw : wq_13 F Inv) (hM : Inv n M) (kk : ∀ M, Inv (n + 1) M → lj_J K 1548 (lj_lv E b i) [] M) : lj_J K 707 (lj_lv E b i) [] M := by
  obtain ⟨x, y, h1, h2, he, hI⟩ := hw n M  hn hM 
  refine lj_self X dL_707 rfl 2 rfl ?_
  refine lj_cv X (cU_take E F h1) gLU_take vLU_take rfl (by decide) (by decide) mL_72 rfl (Nat.le_of_ble_eq_true rfl) dL_708 ?_
  refine lj_self X dL_711 rfl 1 rfl ?_
  refine lj_cv X (cM_take E F h2) gLM_take vLM_take rfl (by decide) (by decide) mL_75 rfl (Nat.le_of_ble_eq_true rfl) dL_712 ?_
  exact lj_eq X (tgt := 1548) dL_715 (by decide) he (kk _ hI)
set_option maxHeartbeats 1000000 in
theorem lo_14 {K : bz_K} {E : bz_E} {b L : Nat} {xs : Nat → Int32} {i n : Nat} {M : bz_Mm} {F : Nat} {Inv : Nat → bz_Mm → Prop} (X : lj_X K E b L xs) (hi : i + 6 ≤ L) (hn : n < 512) (hw : wq_14 F Inv) (hM : Inv n M) (kk : ∀ M, Inv (n + 1) M → lj_J K 1548 (lj_lv E b i) [] M) : lj_J K 720 (lj_lv E b i) [] M := by
  obtain ⟨x, y, h1, h2, he, hI⟩ := hw n M (lj_a xs (i + 1)) (lj_a xs (i + 2)) (lj_a xs (i + 3)) hn hM (lj_rng _) (lj_rng _) (lj_rng _)
  refine lj_self X dL_720 rfl 2 rfl ?_
  refine lj_arg X (k := 1) dL_721 dL_722 dL_723 dL_724 dL_725 rfl (by omega) ?_
  refine lj_arg X (k := 2) dL_726 dL_727 dL_728 dL_729 dL_730 rfl (by omega) ?_
  refine lj_arg X (k := 3) dL_731 dL_732 dL_733 dL_734 dL_735 rfl (by omega) ?_
  refine lj_cv X (cU_rule E F h1) gLU_rule vLU_rule rfl (by decide) (by decide) mL_76 rfl (Nat.le_of_ble_eq_true rfl) dL_736 ?_
  refine lj_self X dL_739 rfl 1 rfl ?_
  refine lj_arg X (k := 1) dL_740 dL_741 dL_742 dL_743 dL_744 rfl (by omega) ?_
  refine lj_arg X (k := 2) dL_745 dL_746 dL_747 dL_748 dL_749 rfl (by omega) ?_
  refine lj_arg X (k := 3) dL_750 dL_751 dL_752 dL_753 dL_754 rfl (by omega) ?_
  refine lj_cv X (cM_rule1 E F h2) gLM_rule1 vLM_rule1 rfl (by decide) (by decide) mL_80 rfl (Nat.le_of_ble_eq_true rfl) dL_755 ?_
  exact lj_eq X (tgt := 1548) dL_758 (by decide) he (kk _ hI)
set_option maxHeartbeats 1000000 in
theorem lo_15 {K : bz_K} {E : bz_E} {b L : Nat} {xs : Nat → Int32} {i n : Nat} {M : bz_Mm} {F : Nat} {Inv : Nat → bz_Mm → Prop} (X : lj_X K E b L xs) (hi : i + 6 ≤ L) (hn : n < 512) (hw : wq_15 F Inv) (hM : Inv n M) (kk : ∀ M, Inv (n + 1) M → lj_J K 1548 (lj_lv E b i) [] M) : lj_J K 763 (lj_lv E b i) [] M := by
  obtain ⟨x, y, h1, h2, he, hI⟩ := hw n M (lj_a xs (i + 1)) hn hM (lj_rng _)
  refine lj_self X dL_763 rfl 2 rfl ?_
  refine lj_arg X (k := 1) dL_764 dL_765 dL_766 dL_767 dL_768 rfl (by omega) ?_
  refine lj_cv X (cU_go E F h1) gLU_go vLU_go rfl (by decide) (by decide) mL_81 rfl (Nat.le_of_ble_eq_true rfl) dL_769 ?_
  refine lj_self X dL_772 rfl 1 rfl ?_
  refine lj_arg X (k := 1) dL_773 dL_774 dL_775 dL_776 dL_777 rfl (by omega) ?_
  refine lj_cv X (cM_go E F h2) gLM_go vLM_go rfl (by decide) (by decide) mL_84 rfl (Nat.le_of_ble_eq_true rfl) dL_778 ?_
  exact lj_eq X (tgt := 1548) dL_781 (by decide) he (kk _ hI)
set_option maxHeartbeats 1000000 in
theorem lo_16 {K : bz_K} {E : bz_E} {b L : Nat} {xs : Nat → Int32} {i n : Nat} {M : bz_Mm} {F : Nat} {Inv : Nat → bz_Mm → Prop} (X : lj_X K E b L xs) (hi : i + 6 ≤ L) (hn : n < 512) (hw : wq_16 F Inv) (hM : Inv n M) (kk : ∀ M, Inv (n + 1) M → lj_J K 1548 (lj_lv E b i) [] M) : lj_J K 786 (lj_lv E b i) [] M := by
  obtain ⟨x, y, h1, h2, he, hI⟩ := hw n M (lj_a xs (i + 1)) (lj_a xs (i + 2)) hn hM (lj_rng _) (lj_rng _)
  refine lj_self X dL_786 rfl 2 rfl ?_
  refine lj_arg X (k := 1) dL_787 dL_788 dL_789 dL_790 dL_791 rfl (by omega) ?_
  refine lj_arg X (k := 2) dL_792 dL_793 dL_794 dL_795 dL_796 rfl (by omega) ?_
  refine lj_cv X (cU_booked E F h1) gLU_booked vLU_booked rfl (by decide) (by decide) mL_85 rfl (Nat.le_of_ble_eq_true rfl) dL_797 ?_
  refine lj_self X dL_800 rfl 1 rfl ?_
  refine lj_arg X (k := 1) dL_801 dL_802 dL_803 dL_804 dL_805 rfl (by omega) ?_
  refine lj_arg X (k := 2) dL_806 dL_807 dL_808 dL_809 dL_810 rfl (by omega) ?_
  refine lj_cv X (cM_booked E F h2) gLM_booked vLM_booked rfl (by decide) (by decide) mL_89 rfl (Nat.le_of_ble_eq_true rfl) dL_811 ?_
  exact lj_eq X (tgt := 1548) dL_814 (by decide) he (kk _ hI)
set_option maxHeartbeats 1000000 in
theorem lo_17 {K : bz_K} {E : bz_E} {b L : Nat} {xs : Nat → Int32} {i n : Nat} {M : bz_Mm} {F : Nat} {Inv : Nat → bz_Mm → Prop} (X : lj_X K E b L xs) (hi : i + 6 ≤ L) (hn : n < 512) (hw : wq_17 F Inv) (hM : Inv n M) (kk : ∀ M, Inv (n + 1) M → lj_J K 1548 (lj_lv E b i) [] M) : lj_J K 819 (lj_lv E b i) [] M := by
  obtain ⟨x, y, h1, h2, he, hI⟩ := hw n M (lj_a xs (i + 1)) (lj_a xs (i + 2)) (lj_a xs (i + 3)) hn hM (lj_rng _) (lj_rng _) (lj_rng _)
  refine lj_self X dL_819 rfl 2 rfl ?_
  refine lj_arg X (k := 1) dL_820 dL_821 dL_822 dL_823 dL_824 rfl (by omega) ?_
  refine lj_arg X (k := 2) dL_825 dL_826 dL_827 dL_828 dL_829 rfl (by omega) ?_
  refine lj_arg X (k := 3) dL_830 dL_831 dL_832 dL_833 dL_834 rfl (by omega) ?_
  refine lj_cv X (cU_right E F h1) gLU_right vLU_right rfl (by decide) (by decide) mL_90 rfl (Nat.le_of_ble_eq_true rfl) dL_835 ?_
  refine lj_self X dL_838 rfl 1 rfl ?_
  refine lj_arg X (k := 1) dL_839 dL_840 dL_841 dL_842 dL_843 rfl (by omega) ?_
  refine lj_arg X (k := 2) dL_844 dL_845 dL_846 dL_847 dL_848 rfl (by omega) ?_
  refine lj_arg X (k := 3) dL_849 dL_850 dL_851 dL_852 dL_853 rfl (by omega) ?_
  refine lj_cv X (cM_right E F h2) gLM_right vLM_right rfl (by decide) (by decide) mL_93 rfl (Nat.le_of_ble_eq_true rfl) dL_854 ?_
  exact lj_eq X (tgt := 1548) dL_857 (by decide) he (kk _ hI)
set_option maxHeartbeats 1000000 in
theorem lo_18 {K : bz_K} {E : bz_E} {b L : Nat} {xs : Nat → Int32} {i n : Nat} {M : bz_Mm} {F : Nat} {Inv : Nat → bz_Mm → Prop} (X : lj_X K E b L xs) (hi : i + 6 ≤ L) (hn : n < 512) (hw : wq_18 F Inv) (hM : Inv n M) (kk : ∀ M, Inv (n + 1) M → lj_J K 1548 (lj_lv E b i) [] M) : lj_J K 862 (lj_lv E b i) [] M := by
  obtain ⟨x, y, h1, h2, he, hI⟩ := hw n M (lj_a xs (i + 1)) (lj_a xs (i + 2)) (lj_a xs (i + 3)) hn hM (lj_rng _) (lj_rng _) (lj_rng _)
  refine lj_self X dL_862 rfl 2 rfl ?_
  refine lj_arg X (k := 1) dL_863 dL_864 dL_865 dL_866 dL_867 rfl (by omega) ?_
  refine lj_arg X (k := 2) dL_868 dL_869 dL_870 dL_871 dL_872 rfl (by omega) ?_
  refine lj_arg X (k := 3) dL_873 dL_874 dL_875 dL_876 dL_877 rfl (by omega) ?_
  refine lj_cv X (cU_fee E F h1) gLU_fee vLU_fee rfl (by decide) (by decide) mL_94 rfl (Nat.le_of_ble_eq_true rfl) dL_878 ?_
  refine lj_self X dL_881 rfl 1 rfl ?_
  refine lj_arg X (k := 1) dL_882 dL_883 dL_884 dL_885 dL_886 rfl (by omega) ?_
  refine lj_arg X (k := 2) dL_887 dL_888 dL_889 dL_890 dL_891 rfl (by omega) ?_
  refine lj_arg X (k := 3) dL_892 dL_893 dL_894 dL_895 dL_896 rfl (by omega) ?_
  refine lj_cv X (cM_fee E F h2) gLM_fee vLM_fee rfl (by decide) (by decide) mL_97 rfl (Nat.le_of_ble_eq_true rfl) dL_897 ?_
  exact lj_eq X (tgt := 1548) dL_900 (by decide) he (kk _ hI)
set_option maxHeartbeats 1000000 in
theorem lo_19 {K : bz_K} {E : bz_E} {b L : Nat} {xs : Nat → Int32} {i n : Nat} {M : bz_Mm} {F : Nat} {Inv : Nat → bz_Mm → Prop} (X : lj_X K E b L xs) (hi : i + 6 ≤ L) (hn : n < 512) (hw : wq_19 F Inv) (hM : Inv n M) (kk : ∀ M, Inv (n + 1) M → lj_J K 1548 (lj_lv E b i) [] M) : lj_J K 905 (lj_lv E b i) [] M := by
  obtain ⟨x, y, h1, h2, he, hI⟩ := hw n M (lj_a xs (i + 1)) (lj_a xs (i + 2)) (lj_a xs (i + 3)) hn hM (lj_rng _) (lj_rng _) (lj_rng _)
  refine lj_self X dL_905 rfl 2 rfl ?_
  refine lj_arg X (k := 1) dL_906 dL_907 dL_908 dL_909 dL_910 rfl (by omega) ?_
  refine lj_arg X (k := 2) dL_911 dL_912 dL_913 dL_914 dL_915 rfl (by omega) ?_
  refine lj_arg X (k := 3) dL_916 dL_917 dL_918 dL_919 dL_920 rfl (by omega) ?_
  refine lj_cv X (cU_error E F h1) gLU_error vLU_error rfl (by decide) (by decide) mL_98 rfl (Nat.le_of_ble_eq_true rfl) dL_921 ?_
  refine lj_self X dL_924 rfl 1 rfl ?_
  refine lj_arg X (k := 1) dL_925 dL_926 dL_927 dL_928 dL_929 rfl (by omega) ?_
  refine lj_arg X (k := 2) dL_930 dL_931 dL_932 dL_933 dL_934 rfl (by omega) ?_
  refine lj_arg X (k := 3) dL_935 dL_936 dL_937 dL_938 dL_939 rfl (by omega) ?_
  refine lj_cv X (cM_error E F h2) gLM_error vLM_error rfl (by decide) (by decide) mL_101 rfl (Nat.le_of_ble_eq_true rfl) dL_940 ?_
  exact lj_eq X (tgt := 1548) dL_943 (by decide) he (kk _ hI)
set_option maxHeartbeats 1000000 in
theorem lo_20 {K : bz_K} {E : bz_E} {b L : Nat} {xs : Nat → Int32} {i n : Nat} {M : bz_Mm} {F : Nat} {Inv : Nat → bz_Mm → Prop} (X : lj_X K E b L xs) (hi : i + 6 ≤ L) (hn : n < 512) (hw : wq_20 F Inv) (hM : Inv n M) (kk : ∀ M, Inv (n + 1) M → lj_J K 1548 (lj_lv E b i) [] M) : lj_J K 948 (lj_lv E b i) [] M := by
  obtain ⟨x, y, h1, h2, he, hI⟩ := hw n M (lj_a xs (i + 1)) hn hM (lj_rng _)
  refine lj_self X dL_948 rfl 2 rfl ?_
  refine lj_arg X (k := 1) dL_949 dL_950 dL_951 dL_952 dL_953 rfl (by omega) ?_
  refine lj_cv X (cU_errors E F h1) gLU_errors vLU_errors rfl (by decide) (by decide) mL_102 rfl (Nat.le_of_ble_eq_true rfl) dL_954 ?_
  refine lj_self X dL_957 rfl 1 rfl ?_
  refine lj_arg X (k := 1) dL_958 dL_959 dL_960 dL_961 dL_962 rfl (by omega) ?_
  refine lj_cv X (cM_errors E F h2) gLM_errors vLM_errors rfl (by decide) (by decide) mL_105 rfl (Nat.le_of_ble_eq_true rfl) dL_963 ?_
  exact lj_eq X (tgt := 1548) dL_966 (by decide) he (kk _ hI)
set_option maxHeartbeats 1000000 in
theorem lo_21 {K : bz_K} {E : bz_E} {b L : Nat} {xs : Nat → Int32} {i n : Nat} {M : bz_Mm} {F : Nat} {Inv : Nat → bz_Mm → Prop} (X : lj_X K E b L xs) (hi : i + 6 ≤ L) (hn : n < 512) (hw : wq_21 F Inv) (hM : Inv n M) (kk : ∀ M, Inv (n + 1) M → lj_J K 1548 (lj_lv E b i) [] M) : lj_J K 971 (lj_lv E b i) [] M := by
  obtain ⟨x, y, h1, h2, he, hI⟩ := hw n M (lj_a xs (i + 1)) (lj_a xs (i + 2)) hn hM (lj_rng _) (lj_rng _)
  refine lj_self X dL_971 rfl 2 rfl ?_
  refine lj_arg X (k := 1) dL_972 dL_973 dL_974 dL_975 dL_976 rfl (by omega) ?_
  refine lj_arg X (k := 2) dL_977 dL_978 dL_979 dL_980 dL_981 rfl (by omega) ?_
  refine lj_cv X (cU_units E F h1) gLU_units vLU_units rfl (by decide) (by decide) mL_106 rfl (Nat.le_of_ble_eq_true rfl) dL_982 ?_
  refine lj_self X dL_985 rfl 1 rfl ?_
  refine lj_arg X (k := 1) dL_986 dL_987 dL_988 dL_989 dL_990 rfl (by omega) ?_
  refine lj_arg X (k := 2) dL_991 dL_992 dL_993 dL_994 dL_995 rfl (by omega) ?_
  refine lj_cv X (cM_units E F h2) gLM_units vLM_units rfl (by decide) (by decide) mL_109 rfl (Nat.le_of_ble_eq_true rfl) dL_996 ?_
  exact lj_eq X (tgt := 1548) dL_999 (by decide) he (kk _ hI)
set_option maxHeartbeats 1000000 in
theorem lo_22 {K : bz_K} {E : bz_E} {b L : Nat} {xs : Nat → Int32} {i n : Nat} {M : bz_Mm} {F : Nat} {Inv : Nat → bz_Mm → Prop} (X : lj_X K E b L xs) (hi : i + 6 ≤ L) (hn : n < 512) (hw : wq_22 F Inv) (hM : Inv n M) (kk : ∀ M, Inv (n + 1) M → lj_J K 1548 (lj_lv E b i) [] M) : lj_J K 1004 (lj_lv E b i) [] M := by
  obtain ⟨x, y, h1, h2, he, hI⟩ := hw n M (lj_a xs (i + 1)) (lj_a xs (i + 2)) (lj_a xs (i + 3)) (lj_a xs (i + 4)) hn hM (lj_rng _) (lj_rng _) (lj_rng _) (lj_rng _)
  refine lj_self X dL_1004 rfl 2 rfl ?_
  refine lj_arg X (k := 1) dL_1005 dL_1006 dL_1007 dL_1008 dL_1009 rfl (by omega) ?_
  refine lj_arg X (k := 2) dL_1010 dL_1011 dL_1012 dL_1013 dL_1014 rfl (by omega) ?_
  refine lj_arg X (k := 3) dL_1015 dL_1016 dL_1017 dL_1018 dL_1019 rfl (by omega) ?_
  refine lj_arg X (k := 4) dL_1020 dL_1021 dL_1022 dL_1023 dL_1024 rfl (by omega) ?_
  refine lj_cv X (cU_claim E F h1) gLU_claim vLU_claim rfl (by decide) (by decide) mL_110 rfl (Nat.le_of_ble_eq_true rfl) dL_1025 ?_
  refine lj_self X dL_1028 rfl 1 rfl ?_
  refine lj_arg X (k := 1) dL_1029 dL_1030 dL_1031 dL_1032 dL_1033 rfl (by omega) ?_
  refine lj_arg X (k := 2) dL_1034 dL_1035 dL_1036 dL_1037 dL_1038 rfl (by omega) ?_
  refine lj_arg X (k := 3) dL_1039 dL_1040 dL_1041 dL_1042 dL_1043 rfl (by omega) ?_
  refine lj_arg X (k := 4) dL_1044 dL_1045 dL_1046 dL_1047 dL_1048 rfl (by omega) ?_
  refine lj_cv X (cM_claim E F h2) gLM_claim vLM_claim rfl (by decide) (by decide) mL_113 rfl (Nat.le_of_ble_eq_true rfl) dL_1049 ?_
  exact lj_eq X (tgt := 1548) dL_1052 (by decide) he (kk _ hI)
set_option maxHeartbeats 1000000 in
theorem lo_23 {K : bz_K} {E : bz_E} {b L : Nat} {xs : Nat → Int32} {i n : Nat} {M : bz_Mm} {F : Nat} {Inv : Nat → bz_Mm → Prop} (X : lj_X K E b L xs) (hi : i + 6 ≤ L) (hn : n < 512) (hw : wq_23 F Inv) (hM : Inv n M) (kk : ∀ M, Inv (n + 1) M → lj_J K 1548 (lj_lv E b i) [] M) : lj_J K 1057 (lj_lv E b i) [] M := by
  obtain ⟨x, y, h1, h2, he, hI⟩ := hw n M (lj_a xs (i + 1)) (lj_a xs (i + 2)) hn hM (lj_rng _) (lj_rng _)
  refine lj_self X dL_1057 rfl 2 rfl ?_
  refine lj_arg X (k := 1) dL_1058 dL_1059 dL_1060 dL_1061 dL_1062 rfl (by omega) ?_
  refine lj_arg X (k := 2) dL_1063 dL_1064 dL_1065 dL_1066 dL_1067 rfl (by omega) ?_
  refine lj_cv X (cU_house E F h1) gLU_house vLU_house rfl (by decide) (by decide) mL_114 rfl (Nat.le_of_ble_eq_true rfl) dL_1068 ?_
  refine lj_self X dL_1071 rfl 1 rfl ?_
  refine lj_arg X (k := 1) dL_1072 dL_1073 dL_1074 dL_1075 dL_1076 rfl (by omega) ?_
  refine lj_arg X (k := 2) dL_1077 dL_1078 dL_1079 dL_1080 dL_1081 rfl (by omega) ?_
  refine lj_cv X (cM_house E F h2) gLM_house vLM_house rfl (by decide) (by decide) mL_117 rfl (Nat.le_of_ble_eq_true rfl) dL_1082 ?_
  exact lj_eq X (tgt := 1548) dL_1085 (by decide) he (kk _ hI)
set_option maxHeartbeats 1000000 in
theorem lo_24 {K : bz_K} {E : bz_E} {b L : Nat} {xs : Nat → Int32} {i n : Nat} {M : bz_Mm} {F : Nat} {Inv : Nat → bz_Mm → Prop} (X : lj_X K E b L xs) (hi : i + 6 ≤ L) (hn : n < 512) (hw : wq_24 F Inv) (hM : Inv n M) (kk : ∀ M, Inv (n + 1) M → lj_J K 1548 (lj_lv E b i) [] M) : lj_J K 1090 (lj_lv E b i) [] M := by
  obtain ⟨x, y, h1, h2, he, hI⟩ := hw n M (lj_a xs (i + 1)) (lj_a xs (i + 2)) hn hM (lj_rng _) (lj_rng _)
  refine lj_self X dL_1090 rfl 2 rfl ?_
  refine lj_arg X (k := 1) dL_1091 dL_1092 dL_1093 dL_1094 dL_1095 rfl (by omega) ?_
  refine lj_arg X (k := 2) dL_1096 dL_1097 dL_1098 dL_1099 dL_1100 rfl (by omega) ?_
  refine lj_cv X (cU_cash E F h1) gLU_cash vLU_cash rfl (by decide) (by decide) mL_118 rfl (Nat.le_of_ble_eq_true rfl) dL_1101 ?_
  refine lj_self X dL_1104 rfl 1 rfl ?_
  refine lj_arg X (k := 1) dL_1105 dL_1106 dL_1107 dL_1108 dL_1109 rfl (by omega) ?_
  refine lj_arg X (k := 2) dL_1110 dL_1111 dL_1112 dL_1113 dL_1114 rfl (by omega) ?_
  refine lj_cv X (cM_cash E F h2) gLM_cash vLM_cash rfl (by decide) (by decide) mL_121 rfl (Nat.le_of_ble_eq_true rfl) dL_1115 ?_
  exact lj_eq X (tgt := 1548) dL_1118 (by decide) he (kk _ hI)
set_option maxHeartbeats 1000000 in
theorem lo_25 {K : bz_K} {E : bz_E} {b L : Nat} {xs : Nat → Int32} {i n : Nat} {M : bz_Mm} {F : Nat} {Inv : Nat → bz_Mm → Prop} (X : lj_X K E b L xs) (hi : i + 6 ≤ L) (hn : n < 512) (hw : wq_25 F Inv) (hM : Inv n M) (kk : ∀ M, Inv (n + 1) M → lj_J K 1548 (lj_lv E b i) [] M) : lj_J K 1123 (lj_lv E b i) [] M := by
  obtain ⟨x, y, h1, h2, he, hI⟩ := hw n M (lj_a xs (i + 1)) (lj_a xs (i + 2)) hn hM (lj_rng _) (lj_rng _)
  refine lj_self X dL_1123 rfl 2 rfl ?_
  refine lj_arg X (k := 1) dL_1124 dL_1125 dL_1126 dL_1127 dL_1128 rfl (by omega) ?_
  refine lj_arg X (k := 2) dL_1129 dL_1130 dL_1131 dL_1132 dL_1133 rfl (by omega) ?_
  refine lj_cv X (cU_dealt E F h1) gLU_dealt vLU_dealt rfl (by decide) (by decide) mL_122 rfl (Nat.le_of_ble_eq_true rfl) dL_1134 ?_
  refine lj_self X dL_1137 rfl 1 rfl ?_
  refine lj_arg X (k := 1) dL_1138 dL_1139 dL_1140 dL_1141 dL_1142 rfl (by omega) ?_
  refine lj_arg X (k := 2) dL_1143 dL_1144 dL_1145 dL_1146 dL_1147 rfl (by omega) ?_
  refine lj_cv X (cM_dealt E F h2) gLM_dealt vLM_dealt rfl (by decide) (by decide) mL_125 rfl (Nat.le_of_ble_eq_true rfl) dL_1148 ?_
  exact lj_eq X (tgt := 1548) dL_1151 (by decide) he (kk _ hI)
set_option maxHeartbeats 1000000 in
theorem lo_26 {K : bz_K} {E : bz_E} {b L : Nat} {xs : Nat → Int32} {i n : Nat} {M : bz_Mm} {F : Nat} {Inv : Nat → bz_Mm → Prop} (X : lj_X K E b L xs) (hi : i + 6 ≤ L) (hn : n < 512) (hw : wq_26 F Inv) (hM : Inv n M) (kk : ∀ M, Inv (n + 1) M → lj_J K 1548 (lj_lv E b i) [] M) : lj_J K 1156 (lj_lv E b i) [] M := by
  obtain ⟨x, y, h1, h2, he, hI⟩ := hw n M (lj_a xs (i + 1)) hn hM (lj_rng _)
  refine lj_self X dL_1156 rfl 2 rfl ?_
  refine lj_arg X (k := 1) dL_1157 dL_1158 dL_1159 dL_1160 dL_1161 rfl (by omega) ?_
  refine lj_cv X (cU_gone E F h1) gLU_gone vLU_gone rfl (by decide) (by decide) mL_126 rfl (Nat.le_of_ble_eq_true rfl) dL_1162 ?_
  refine lj_self X dL_1165 rfl 1 rfl ?_
  refine lj_arg X (k := 1) dL_1166 dL_1167 dL_1168 dL_1169 dL_1170 rfl (by omega) ?_
  refine lj_cv X (cM_gone E F h2) gLM_gone vLM_gone rfl (by decide) (by decide) mL_129 rfl (Nat.le_of_ble_eq_true rfl) dL_1171 ?_
  exact lj_eq X (tgt := 1548) dL_1174 (by decide) he (kk _ hI)
set_option maxHeartbeats 1000000 in
theorem lo_27 {K : bz_K} {E : bz_E} {b L : Nat} {xs : Nat → Int32} {i n : Nat} {M : bz_Mm} {F : Nat} {Inv : Nat → bz_Mm → Prop} (X : lj_X K E b L xs) (hi : i + 6 ≤ L) (hn : n < 512) (hw : wq_27 F Inv) (hM : Inv n M) (kk : ∀ M, Inv (n + 1) M → lj_J K 1548 (lj_lv E b i) [] M) : lj_J K 1179 (lj_lv E b i) [] M := by
  obtain ⟨x, y, h1, h2, he, hI⟩ := hw n M (lj_a xs (i + 1)) hn hM (lj_rng _)
  refine lj_self X dL_1179 rfl 2 rfl ?_
  refine lj_arg X (k := 1) dL_1180 dL_1181 dL_1182 dL_1183 dL_1184 rfl (by omega) ?_
  refine lj_cv X (cU_found E F h1) gLU_found vLU_found rfl (by decide) (by decide) mL_130 rfl (Nat.le_of_ble_eq_true rfl) dL_1185 ?_
  refine lj_self X dL_1188 rfl 1 rfl ?_
  refine lj_arg X (k := 1) dL_1189 dL_1190 dL_1191 dL_1192 dL_1193 rfl (by omega) ?_
  refine lj_cv X (cM_found E F h2) gLM_found vLM_found rfl (by decide) (by decide) mL_133 rfl (Nat.le_of_ble_eq_true rfl) dL_1194 ?_
  exact lj_eq X (tgt := 1548) dL_1197 (by decide) he (kk _ hI)
set_option maxHeartbeats 1000000 in
theorem lo_28 {K : bz_K} {E : bz_E} {b L : Nat} {xs : Nat → Int32} {i n : Nat} {M : bz_Mm} {F : Nat} {Inv : Nat → bz_Mm → Prop} (X : lj_X K E b L xs) (hi : i + 6 ≤ L) (hn : n < 512) (hw : wq_28 F Inv) (hM : Inv n M) (kk : ∀ M, Inv (n + 1) M → lj_J K 1548 (lj_lv E b i) [] M) : lj_J K 1202 (lj_lv E b i) [] M := by
  obtain ⟨x, y, h1, h2, he, hI⟩ := hw n M (lj_a xs (i + 1)) hn hM (lj_rng _)
  refine lj_self X dL_1202 rfl 2 rfl ?_
  refine lj_arg X (k := 1) dL_1203 dL_1204 dL_1205 dL_1206 dL_1207 rfl (by omega) ?_
  refine lj_cv X (cU_due E F h1) gLU_due vLU_due rfl (by decide) (by decide) mL_134 rfl (Nat.le_of_ble_eq_true rfl) dL_1208 ?_
  refine lj_self X dL_1211 rfl 1 rfl ?_
  refine lj_arg X (k := 1) dL_1212 dL_1213 dL_1214 dL_1215 dL_1216 rfl (by omega) ?_
  refine lj_cv X (cM_due E F h2) gLM_due vLM_due rfl (by decide) (by decide) mL_137 rfl (Nat.le_of_ble_eq_true rfl) dL_1217 ?_
  exact lj_eq X (tgt := 1548) dL_1220 (by decide) he (kk _ hI)
set_option maxHeartbeats 1000000 in
theorem lo_29 {K : bz_K} {E : bz_E} {b L : Nat} {xs : Nat → Int32} {i n : Nat} {M : bz_Mm} {F : Nat} {Inv : Nat → bz_Mm → Prop} (X : lj_X K E b L xs) (hi : i + 6 ≤ L) (hn : n < 512) (hw : wq_29 F Inv) (hM : Inv n M) (kk : ∀ M, Inv (n + 1) M → lj_J K 1548 (lj_lv E b i) [] M) : lj_J K 1225 (lj_lv E b i) [] M := by
  obtain ⟨x, y, h1, h2, he, hI⟩ := hw n M (lj_a xs (i + 1)) (lj_a xs (i + 2)) (lj_a xs (i + 3)) hn hM (lj_rng _) (lj_rng _) (lj_rng _)
  refine lj_self X dL_1225 rfl 2 rfl ?_
  refine lj_arg X (k := 1) dL_1226 dL_1227 dL_1228 dL_1229 dL_1230 rfl (by omega) ?_
  refine lj_arg X (k := 2) dL_1231 dL_1232 dL_1233 dL_1234 dL_1235 rfl (by omega) ?_
  refine lj_arg X (k := 3) dL_1236 dL_1237 dL_1238 dL_1239 dL_1240 rfl (by omega) ?_
  refine lj_cv X (cU_audit E F h1) gLU_audit vLU_audit rfl (by decide) (by decide) mL_138 rfl (Nat.le_of_ble_eq_true rfl) dL_1241 ?_
  refine lj_self X dL_1244 rfl 1 rfl ?_
  refine lj_arg X (k := 1) dL_1245 dL_1246 dL_1247 dL_1248 dL_1249 rfl (by omega) ?_
  refine lj_arg X (k := 2) dL_1250 dL_1251 dL_1252 dL_1253 dL_1254 rfl (by omega) ?_
  refine lj_arg X (k := 3) dL_1255 dL_1256 dL_1257 dL_1258 dL_1259 rfl (by omega) ?_
  refine lj_cv X (cM_audit E F h2) gLM_audit vLM_audit rfl (by decide) (by decide) mL_141 rfl (Nat.le_of_ble_eq_true rfl) dL_1260 ?_
  exact lj_eq X (tgt := 1548) dL_1263 (by decide) he (kk _ hI)
set_option maxHeartbeats 1000000 in
theorem lo_30 {K : bz_K} {E : bz_E} {b L : Nat} {xs : Nat → Int32} {i n : Nat} {M : bz_Mm} {F : Nat} {Inv : Nat → bz_Mm → Prop} (X : lj_X K E b L xs) (hi : i + 6 ≤ L) (hn : n < 512) (hw : wq_30 F Inv) (hM : Inv n M) (kk : ∀ M, Inv (n + 1) M → lj_J K 1548 (lj_lv E b i) [] M) : lj_J K 1268 (lj_lv E b i) [] M := by
  obtain ⟨x, y, h1, h2, he, hI⟩ := hw n M (lj_a xs (i + 1)) (lj_a xs (i + 2)) (lj_a xs (i + 3)) (lj_a xs (i + 4)) hn hM (lj_rng _) (lj_rng _) (lj_rng _) (lj_rng _)
  refine lj_self X dL_1268 rfl 2 rfl ?_
  refine lj_arg X (k := 1) dL_1269 dL_1270 dL_1271 dL_1272 dL_1273 rfl (by omega) ?_
  refine lj_arg X (k := 2) dL_1274 dL_1275 dL_1276 dL_1277 dL_1278 rfl (by omega) ?_
  refine lj_arg X (k := 3) dL_1279 dL_1280 dL_1281 dL_1282 dL_1283 rfl (by omega) ?_
  refine lj_arg X (k := 4) dL_1284 dL_1285 dL_1286 dL_1287 dL_1288 rfl (by omega) ?_
  refine lj_cv X (cU_suspect E F h1) gLU_suspect vLU_suspect rfl (by decide) (by decide) mL_142 rfl (Nat.le_of_ble_eq_true rfl) dL_1289 ?_
  refine lj_self X dL_1292 rfl 1 rfl ?_
  refine lj_arg X (k := 1) dL_1293 dL_1294 dL_1295 dL_1296 dL_1297 rfl (by omega) ?_
  refine lj_arg X (k := 2) dL_1298 dL_1299 dL_1300 dL_1301 dL_1302 rfl (by omega) ?_
  refine lj_arg X (k := 3) dL_1303 dL_1304 dL_1305 dL_1306 dL_1307 rfl (by omega) ?_
  refine lj_arg X (k := 4) dL_1308 dL_1309 dL_1310 dL_1311 dL_1312 rfl (by omega) ?_
  refine lj_cv X (cM_suspect E F h2) gLM_suspect vLM_suspect rfl (by decide) (by decide) mL_145 rfl (Nat.le_of_ble_eq_true rfl) dL_1313 ?_
  exact lj_eq X (tgt := 1548) dL_1316 (by decide) he (kk _ hI)
set_option maxHeartbeats 1000000 in
theorem lo_31 {K : bz_K} {E : bz_E} {b L : Nat} {xs : Nat → Int32} {i n : Nat} {M : bz_Mm} {F : Nat} {Inv : Nat → bz_Mm → Prop} (X : lj_X K E b L xs) (hi : i + 6 ≤ L) (hn : n < 512) (hw : wq_31 F Inv) (hM : Inv n M) (kk : ∀ M, Inv (n + 1) M → lj_J K 1548 (lj_lv E b i) [] M) : lj_J K 1321 (lj_lv E b i) [] M := by
  obtain ⟨x, y, h1, h2, he, hI⟩ := hw n M  hn hM 
  refine lj_self X dL_1321 rfl 2 rfl ?_
  refine lj_cv X (cU_forget E F h1) gLU_forget vLU_forget rfl (by decide) (by decide) mL_146 rfl (Nat.le_of_ble_eq_true rfl) dL_1322 ?_
  refine lj_self X dL_1325 rfl 1 rfl ?_
  refine lj_cv X (cM_forget E F h2) gLM_forget vLM_forget rfl (by decide) (by decide) mL_149 rfl (Nat.le_of_ble_eq_true rfl) dL_1326 ?_
  exact lj_eq X (tgt := 1548) dL_1329 (by decide) he (kk _ hI)
set_option maxHeartbeats 1000000 in
theorem lo_32 {K : bz_K} {E : bz_E} {b L : Nat} {xs : Nat → Int32} {i n : Nat} {M : bz_Mm} {F : Nat} {Inv : Nat → bz_Mm → Prop} (X : lj_X K E b L xs) (hi : i + 6 ≤ L) (hn : n < 512) (hw : wq_32 F Inv) (hM : Inv n M) (kk : ∀ M, Inv (n + 1) M → lj_J K 1548 (lj_lv E b i) [] M) : lj_J K 1334 (lj_lv E b i) [] M := by
  obtain ⟨x, y, h1, h2, he, hI⟩ := hw n M  hn hM 
  refine lj_self X dL_1334 rfl 2 rfl ?_
  refine lj_cv X (cU_explain E F h1) gLU_explain vLU_explain rfl (by decide) (by decide) mL_150 rfl (Nat.le_of_ble_eq_true rfl) dL_1335 ?_
  refine lj_self X dL_1338 rfl 1 rfl ?_
  refine lj_cv X (cM_explain E F h2) gLM_explain vLM_explain rfl (by decide) (by decide) mL_153 rfl (Nat.le_of_ble_eq_true rfl) dL_1339 ?_
  exact lj_eq X (tgt := 1548) dL_1342 (by decide) he (kk _ hI)
set_option maxHeartbeats 1000000 in
theorem lo_33 {K : bz_K} {E : bz_E} {b L : Nat} {xs : Nat → Int32} {i n : Nat} {M : bz_Mm} {F : Nat} {Inv : Nat → bz_Mm → Prop} (X : lj_X K E b L xs) (hi : i + 6 ≤ L) (hn : n < 512) (hw : wq_33 F Inv) (hM : Inv n M) (kk : ∀ M, Inv (n + 1) M → lj_J K 1548 (lj_lv E b i) [] M) : lj_J K 1347 (lj_lv E b i) [] M := by
  obtain ⟨x, y, h1, h2, he, hI⟩ := hw n M  hn hM 
  refine lj_self X dL_1347 rfl 2 rfl ?_
  refine lj_cv X (cU_rivals E F h1) gLU_rivals vLU_rivals rfl (by decide) (by decide) mL_154 rfl (Nat.le_of_ble_eq_true rfl) dL_1348 ?_
  refine lj_self X dL_1351 rfl 1 rfl ?_
  refine lj_cv X (cM_rivals E F h2) gLM_rivals vLM_rivals rfl (by decide) (by decide) mL_157 rfl (Nat.le_of_ble_eq_true rfl) dL_1352 ?_
  exact lj_eq X (tgt := 1548) dL_1355 (by decide) he (kk _ hI)
set_option maxHeartbeats 1000000 in
theorem lo_34 {K : bz_K} {E : bz_E} {b L : Nat} {xs : Nat → Int32} {i n : Nat} {M : bz_Mm} {F : Nat} {Inv : Nat → bz_Mm → Prop} (X : lj_X K E b L xs) (hi : i + 6 ≤ L) (hn : n < 512) (hw : wq_34 F Inv) (hM : Inv n M) (kk : ∀ M, Inv (n + 1) M → lj_J K 1548 (lj_lv E b i) [] M) : lj_J K 1360 (lj_lv E b i) [] M := by
  obtain ⟨x, y, h1, h2, he, hI⟩ := hw n M (lj_a xs (i + 1)) (lj_a xs (i + 2)) hn hM (lj_rng _) (lj_rng _)
  refine lj_self X dL_1360 rfl 2 rfl ?_
  refine lj_arg X (k := 1) dL_1361 dL_1362 dL_1363 dL_1364 dL_1365 rfl (by omega) ?_
  refine lj_arg X (k := 2) dL_1366 dL_1367 dL_1368 dL_1369 dL_1370 rfl (by omega) ?_
  refine lj_cv X (cU_alarm E F h1) gLU_alarm vLU_alarm rfl (by decide) (by decide) mL_158 rfl (Nat.le_of_ble_eq_true rfl) dL_1371 ?_
  refine lj_self X dL_1374 rfl 1 rfl ?_
  refine lj_arg X (k := 1) dL_1375 dL_1376 dL_1377 dL_1378 dL_1379 rfl (by omega) ?_
  refine lj_arg X (k := 2) dL_1380 dL_1381 dL_1382 dL_1383 dL_1384 rfl (by omega) ?_
  refine lj_cv X (cM_alarm E F h2) gLM_alarm vLM_alarm rfl (by decide) (by decide) mL_161 rfl (Nat.le_of_ble_eq_true rfl) dL_1385 ?_
  exact lj_eq X (tgt := 1548) dL_1388 (by decide) he (kk _ hI)
set_option maxHeartbeats 1000000 in
theorem lo_35 {K : bz_K} {E : bz_E} {b L : Nat} {xs : Nat → Int32} {i n : Nat} {M : bz_Mm} {F : Nat} {Inv : Nat → bz_Mm → Prop} (X : lj_X K E b L xs) (hi : i + 6 ≤ L) (hn : n < 512) (hw : wq_35 F Inv) (hM : Inv n M) (kk : ∀ M, Inv (n + 1) M → lj_J K 1548 (lj_lv E b i) [] M) : lj_J K 1393 (lj_lv E b i) [] M := by
  obtain ⟨x, y, h1, h2, he, hI⟩ := hw n M (lj_a xs (i + 1)) (lj_a xs (i + 2)) hn hM (lj_rng _) (lj_rng _)
  refine lj_self X dL_1393 rfl 2 rfl ?_
  refine lj_arg X (k := 1) dL_1394 dL_1395 dL_1396 dL_1397 dL_1398 rfl (by omega) ?_
  refine lj_arg X (k := 2) dL_1399 dL_1400 dL_1401 dL_1402 dL_1403 rfl (by omega) ?_
  refine lj_cv X (cU_beside E F h1) gLU_beside vLU_beside rfl (by decide) (by decide) mL_162 rfl (Nat.le_of_ble_eq_true rfl) dL_1404 ?_
  refine lj_self X dL_1407 rfl 1 rfl ?_
  refine lj_arg X (k := 1) dL_1408 dL_1409 dL_1410 dL_1411 dL_1412 rfl (by omega) ?_
  refine lj_arg X (k := 2) dL_1413 dL_1414 dL_1415 dL_1416 dL_1417 rfl (by omega) ?_
  refine lj_cv X (cM_beside E F h2) gLM_beside vLM_beside rfl (by decide) (by decide) mL_165 rfl (Nat.le_of_ble_eq_true rfl) dL_1418 ?_
  exact lj_eq X (tgt := 1548) dL_1421 (by decide) he (kk _ hI)
set_option maxHeartbeats 1000000 in
theorem lo_36 {K : bz_K} {E : bz_E} {b L : Nat} {xs : Nat → Int32} {i n : Nat} {M : bz_Mm} {F : Nat} {Inv : Nat → bz_Mm → Prop} (X : lj_X K E b L xs) (hi : i + 6 ≤ L) (hn : n < 512) (hw : wq_36 F Inv) (hM : Inv n M) (kk : ∀ M, Inv (n + 1) M → lj_J K 1548 (lj_lv E b i) [] M) : lj_J K 1426 (lj_lv E b i) [] M := by
  obtain ⟨x, y, h1, h2, he, hI⟩ := hw n M (lj_a xs (i + 1)) (lj_a xs (i + 2)) hn hM (lj_rng _) (lj_rng _)
  refine lj_self X dL_1426 rfl 2 rfl ?_
  refine lj_arg X (k := 1) dL_1427 dL_1428 dL_1429 dL_1430 dL_1431 rfl (by omega) ?_
  refine lj_arg X (k := 2) dL_1432 dL_1433 dL_1434 dL_1435 dL_1436 rfl (by omega) ?_
  refine lj_cv X (cU_balance E F h1) gLU_balance vLU_balance rfl (by decide) (by decide) mL_166 rfl (Nat.le_of_ble_eq_true rfl) dL_1437 ?_
  refine lj_self X dL_1440 rfl 1 rfl ?_
  refine lj_arg X (k := 1) dL_1441 dL_1442 dL_1443 dL_1444 dL_1445 rfl (by omega) ?_
  refine lj_arg X (k := 2) dL_1446 dL_1447 dL_1448 dL_1449 dL_1450 rfl (by omega) ?_
  refine lj_cv X (cM_balance E F h2) gLM_balance vLM_balance rfl (by decide) (by decide) mL_169 rfl (Nat.le_of_ble_eq_true rfl) dL_1451 ?_
  exact lj_eq X (tgt := 1548) dL_1454 (by decide) he (kk _ hI)
set_option maxHeartbeats 1000000 in
theorem lo_37 {K : bz_K} {E : bz_E} {b L : Nat} {xs : Nat → Int32} {i n : Nat} {M : bz_Mm} {F : Nat} {Inv : Nat → bz_Mm → Prop} (X : lj_X K E b L xs) (hi : i + 6 ≤ L) (hn : n < 512) (hw : wq_37 F Inv) (hM : Inv n M) (kk : ∀ M, Inv (n + 1) M → lj_J K 1548 (lj_lv E b i) [] M) : lj_J K 1459 (lj_lv E b i) [] M := by
  obtain ⟨x, y, h1, h2, he, hI⟩ := hw n M (lj_a xs (i + 1)) hn hM (lj_rng _)
  refine lj_self X dL_1459 rfl 2 rfl ?_
  refine lj_arg X (k := 1) dL_1460 dL_1461 dL_1462 dL_1463 dL_1464 rfl (by omega) ?_
  refine lj_cv X (cU_payments E F h1) gLU_payments vLU_payments rfl (by decide) (by decide) mL_170 rfl (Nat.le_of_ble_eq_true rfl) dL_1465 ?_
  refine lj_self X dL_1468 rfl 1 rfl ?_
  refine lj_arg X (k := 1) dL_1469 dL_1470 dL_1471 dL_1472 dL_1473 rfl (by omega) ?_
  refine lj_cv X (cM_payments E F h2) gLM_payments vLM_payments rfl (by decide) (by decide) mL_173 rfl (Nat.le_of_ble_eq_true rfl) dL_1474 ?_
  exact lj_eq X (tgt := 1548) dL_1477 (by decide) he (kk _ hI)
set_option maxHeartbeats 1000000 in
theorem lo_38 {K : bz_K} {E : bz_E} {b L : Nat} {xs : Nat → Int32} {i n : Nat} {M : bz_Mm} {F : Nat} {Inv : Nat → bz_Mm → Prop} (X : lj_X K E b L xs) (hi : i + 6 ≤ L) (hn : n < 512) (hw : wq_38 F Inv) (hM : Inv n M) (kk : ∀ M, Inv (n + 1) M → lj_J K 1548 (lj_lv E b i) [] M) : lj_J K 1482 (lj_lv E b i) [] M := by
  obtain ⟨x, y, h1, h2, he, hI⟩ := hw n M (lj_a xs (i + 1)) (lj_a xs (i + 2)) (lj_a xs (i + 3)) hn hM (lj_rng _) (lj_rng _) (lj_rng _)
  refine lj_self X dL_1482 rfl 2 rfl ?_
  refine lj_arg X (k := 1) dL_1483 dL_1484 dL_1485 dL_1486 dL_1487 rfl (by omega) ?_
  refine lj_arg X (k := 2) dL_1488 dL_1489 dL_1490 dL_1491 dL_1492 rfl (by omega) ?_
  refine lj_arg X (k := 3) dL_1493 dL_1494 dL_1495 dL_1496 dL_1497 rfl (by omega) ?_
  refine lj_cv X (cU_payment E F h1) gLU_payment vLU_payment rfl (by decide) (by decide) mL_174 rfl (Nat.le_of_ble_eq_true rfl) dL_1498 ?_
  refine lj_self X dL_1501 rfl 1 rfl ?_
  refine lj_arg X (k := 1) dL_1502 dL_1503 dL_1504 dL_1505 dL_1506 rfl (by omega) ?_
  refine lj_arg X (k := 2) dL_1507 dL_1508 dL_1509 dL_1510 dL_1511 rfl (by omega) ?_
  refine lj_arg X (k := 3) dL_1512 dL_1513 dL_1514 dL_1515 dL_1516 rfl (by omega) ?_
  refine lj_cv X (cM_payment E F h2) gLM_payment vLM_payment rfl (by decide) (by decide) mL_177 rfl (Nat.le_of_ble_eq_true rfl) dL_1517 ?_
  exact lj_eq X (tgt := 1548) dL_1520 (by decide) he (kk _ hI)
set_option maxHeartbeats 1000000 in
theorem lo_39 {K : bz_K} {E : bz_E} {b L : Nat} {xs : Nat → Int32} {i n : Nat} {M : bz_Mm} {F : Nat} {Inv : Nat → bz_Mm → Prop} (X : lj_X K E b L xs) (hi : i + 6 ≤ L) (hn : n < 512) (hw : wq_39 F Inv) (hM : Inv n M) (kk : ∀ M, Inv (n + 1) M → lj_J K 1548 (lj_lv E b i) [] M) : lj_J K 1525 (lj_lv E b i) [] M := by
  obtain ⟨x, y, h1, h2, he, hI⟩ := hw n M (lj_a xs (i + 1)) hn hM (lj_rng _)
  refine lj_self X dL_1525 rfl 2 rfl ?_
  refine lj_arg X (k := 1) dL_1526 dL_1527 dL_1528 dL_1529 dL_1530 rfl (by omega) ?_
  refine lj_cv X (cU_count E F h1) gLU_count vLU_count rfl (by decide) (by decide) mL_178 rfl (Nat.le_of_ble_eq_true rfl) dL_1531 ?_
  refine lj_self X dL_1534 rfl 1 rfl ?_
  refine lj_arg X (k := 1) dL_1535 dL_1536 dL_1537 dL_1538 dL_1539 rfl (by omega) ?_
  refine lj_cv X (cM_count E F h2) gLM_count vLM_count rfl (by decide) (by decide) mL_181 rfl (Nat.le_of_ble_eq_true rfl) dL_1540 ?_
  exact lj_eq X (tgt := 1548) dL_1543 (by decide) he (kk _ hI)
