/-! the start: what the Statement gives, as the words of the store -/
def st_tm : List Term := [.string "UnitsWrong$Text" 41, .string "UnitsWrong$Text" 107, .string "UnitsWrong$Text" 109, .string "UnitsWrong$Text" 65, .string "UnitsWrong$Text" 67, .string "UnitsWrong$Text" 69, .string "UnitsWrong$Text" 75, .string "UnitsWrong$Text" 77, .string "UnitsWrong$Text" 79, .string "UnitsWrong$Text" 81, .string "UnitsWrong$Text" 84, .string "UnitsWrong$Text" 90, .string "UnitsWrong$Text" 95, .string "UnitsWrong$Text" 97, .string "UnitsWrong$Text" 99, .string "UnitsWrong$Text" 101, .string "UnitsWrong$Text" 103, .string "UnitsWrong$Text" 105]
def st_fl : List Cond := flatC (Jvm.Cond.and given_1 narrow_1)
abbrev st_t (i : Nat) : Term := st_tm.getD i (.arg 0)
abbrev st_v (i : Nat) : Term := .field (st_t i) "java/lang/String" "value" "[B"
theorem st_m1 : ∀ i, i < 18 → Cond.exactly (st_t i) "java/lang/String" ∈ st_fl := by decide +kernel
theorem st_m2 : ∀ i, i < 18 → Cond.eq (.field (st_t i) "java/lang/String" "coder" "B") (.int 0) ∈ st_fl := by decide +kernel
theorem st_m3 : ∀ i, i < 18 → Cond.arrayOf (st_v i) .byte ∈ st_fl := by decide +kernel
theorem st_m4 : ∀ i, i < 18 → Cond.eq (.length (st_v i)) (.int (Int32.ofNat (bz_str.getD i []).length)) ∈ st_fl := by decide +kernel
theorem st_m5 : ∀ i, i < 18 → ∀ j, j < (bz_str.getD i []).length → Cond.eq (.elem (st_v i) (.int (Int32.ofNat j))) (.int ((bz_str.getD i []).getD j 0)) ∈ st_fl := by decide +kernel
theorem st_m6 : ∀ q ∈ bz_rs, (Term.string q.1 q.2.1 = st_t q.2.2.2 ∨ Cond.eq (st_t q.2.2.2) (.string q.1 q.2.1) ∈ st_fl) ∧ q.2.2.2 < 18 := by decide +kernel
theorem st_m7 : ∀ q ∈ bz_rs, Cond.stringRef q.1 q.2.1 q.2.2.1 ∈ tables_1 := by decide +kernel
abbrev st_wo : Term := .static "UnitsWrong$Laws" "WITHOUT" "[I"
theorem st_m8 : Cond.arrayOf st_wo .int ∈ st_fl ∧ Cond.eq (.length st_wo) (.int (Int32.ofNat 12)) ∈ st_fl := by decide +kernel
theorem st_m9 : ∀ j, j < 12 → Cond.eq (.elem st_wo (.int (Int32.ofNat j))) (.int (Int32.ofInt (bz_wo.getD j 0))) ∈ st_fl := by decide +kernel
theorem st_m10 : Cond.eq (.static "java/lang/String" "COMPACT_STRINGS" "Z") (.int 1) ∈ st_fl ∧ Cond.isRef (.static "jdk/internal/util/Preconditions" "SIOOBE_FORMATTER" "Ljava/util/function/BiFunction;") ∈ st_fl := by decide +kernel
theorem st_w1 : Cond.laysStatic "UnitsWrong$Laws" "WITHOUT" "[I" ∈ tables_1 ∧ Cond.laysStatic "java/lang/String" "COMPACT_STRINGS" "Z" ∈ tables_1 ∧ Cond.laysStatic "jdk/internal/util/Preconditions" "SIOOBE_FORMATTER" "Ljava/util/function/BiFunction;" ∈ tables_1 := by decide +kernel
theorem st_w2 : Cond.initialized "UnitsWrong$Laws" ∈ tables_1 ∧ Cond.initialized "java/lang/String" ∈ tables_1 ∧ Cond.initialized "jdk/internal/util/Preconditions" ∈ tables_1 := by decide +kernel
theorem st_w3 : Cond.arrayClass .int ∈ tables_1 ∧ Cond.arrayClass .long ∈ tables_1 ∧ Cond.arrayClass .boolean ∈ tables_1 ∧ Cond.arrayClass .byte ∈ tables_1 := by decide +kernel
theorem st_w4 : ∀ ty ∈ bn_ao, Cond.arrayOver ty ∈ tables_1 := by decide +kernel
theorem st_pi : ∀ i, i < 235 → ∀ j, j < 235 → bn_pos i = bn_pos j → i = j := by decide +kernel
theorem st_len : bz_shl.length = 235 := by decide +kernel
theorem st_ac {s : State} {args : Array Value} {ty : FieldType} (h : (Cond.arrayClass ty).before args s = true) (hty : ∀ c, s.vm.findClass ("[" ++ ty.toString) = some c → va_RA s c ty) : ∃ c, ArrOfT s c ty ∧ va_RA s c ty := by
  obtain ⟨c, k, comp, h1, h2, h3⟩ := Cond.arrayClass_spec h
  exact ⟨c, fun n z => ⟨fun k h => (by cases h), k, h2, comp, h3⟩, hty c h1⟩
theorem st_ao {s : State} {args : Array Value} {t : FieldType} (h : (Cond.arrayOver (.array t)).before args s = true) : ∃ c, ArrOfT s c (.array t) ∧ va_RA s c (.array t) := by
  obtain ⟨comp, c, k, h1, h2, h3, h4⟩ := Cond.arrayOver_specA h
  exact ⟨c, fun n z => ⟨fun k h => (by cases h), k, h2, comp, h3⟩, h4⟩
theorem st_as {s : State} {args : Array Value} {C : String} (h : (Cond.arrayOver (.object C)).before args s = true) : ∃ c, ArrOfT s c (.object C) ∧ va_RA s c (.object C) := by
  obtain ⟨comp, c, k, h1, h2, h3, h4, h5⟩ := Cond.arrayOver_spec h
  exact ⟨c, fun n z => ⟨fun k h => (by cases h), k, h3, comp, h4⟩, k, comp, h3, h4, h1, h5⟩
theorem st_one {args : Array Value} {s : State} {A : Nat → Prop} {tm : Term} {bs : List Int32} (hN : bs.length < 2 ^ 31) (hex : (Cond.exactly tm "java/lang/String").before args s = true) (hco : (Cond.eq (.field tm "java/lang/String" "coder" "B") (.int 0)).before args s = true) (har : (Cond.arrayOf (.field tm "java/lang/String" "value" "[B") .byte).before args s = true) (hle : (Cond.eq (.length (.field tm "java/lang/String" "value" "[B")) (.int (Int32.ofNat bs.length))).before args s = true)
    (hel : ∀ j : Nat, j < bs.length → (Cond.eq (.elem (.field tm "java/lang/String" "value" "[B") (.int (Int32.ofNat j))) (.int (bs.getD j 0))).before args s = true) (hA : ∀ a : Nat, a < s.heap.size → ¬ A a) :
    ∃ q : Nat × Nat, tm.eval args s none [] s = some (.ref q.1) ∧ va_O "java/lang/String" q.1 A s s.heap ∧ va_OF "java/lang/String" "coder" "B" (.int 0) q.1 A s s.heap ∧ va_OF "java/lang/String" "value" "[B" (.ref q.2) q.1 A s s.heap ∧ va_T .byte q.2 bs.length (fun j => .int (bs.getD j 0)) A s s.heap := by
  obtain ⟨a, c, cA, kA, q1, q2, q3, q4, q5, q6, -⟩ := Cond.exactly_spec (args := args) (first := s) (o := none) (s := s) (idx := []) (t := tm) (cls := "java/lang/String") hex
  obtain ⟨t, ht, hT⟩ := va_Tof (f := fun j => .int (bs.getD j 0)) (A := A) hN har (va_eqt hle) (fun j hj => va_eqt (hel j hj)) hA
  exact ⟨(a, t), q1, ⟨cA, q3, q5, by rw [q6]; exact q2, hA a (Array.getElem?_eq_some_iff.mp q3).1⟩, vk_OFof q1 (va_eqt hco) hA, vk_OFof q1 ht hA, hT⟩
theorem st_cls {s : State} {args : Array Value} (hts : ∀ w ∈ bz_T, w.before args s = true) : ∃ D : va_G, ∀ (c : Nat) (q : vw_C), bz_cls[c]? = some q → u_Kn s q.1 q.2.1 q.2.2 (D.1 c) (D.2 c) := by
  obtain ⟨c0, i0, hK0⟩ := u_known (C := rc_0) (T := rt_0) (N := 8) (n := 8) hts ri_0 (hts (.instantiable "UnitsWrong$Audits" 8) (bz_in 467 (by decide +kernel) rfl))
  obtain ⟨c1, i1, hK1⟩ := u_known (C := rc_1) (T := rt_1) (N := 3) (n := 3) hts ri_1 (hts (.instantiable "UnitsWrong$ByDay" 3) (bz_in 43 (by decide +kernel) rfl))
  obtain ⟨c2, i2, hK2⟩ := u_known (C := rc_2) (T := rt_2) (N := 5) (n := 5) hts ri_2 (hts (.instantiable "UnitsWrong$Claims" 5) (bz_in 404 (by decide +kernel) rfl))
  obtain ⟨c3, i3, hK3⟩ := u_known (C := rc_3) (T := rt_3) (N := 19) (n := 19) hts ri_3 (hts (.instantiable "UnitsWrong$Course" 19) (bz_in 333 (by decide +kernel) rfl))
  obtain ⟨c4, i4, hK4⟩ := u_known (C := rc_4) (T := rt_4) (N := 9) (n := 9) hts ri_4 (hts (.instantiable "UnitsWrong$Deals" 9) (bz_in 136 (by decide +kernel) rfl))
  obtain ⟨c5, i5, hK5⟩ := u_known (C := rc_5) (T := rt_5) (N := 3) (n := 3) hts ri_5 (hts (.instantiable "UnitsWrong$Laws" 3) (bz_in 192 (by decide +kernel) rfl))
  obtain ⟨c6, i6, hK6⟩ := u_known (C := rc_6) (T := rt_6) (N := 9) (n := 9) hts ri_6 (hts (.instantiable "UnitsWrong$Settlement" 9) (bz_in 429 (by decide +kernel) rfl))
  obtain ⟨c7, i7, hK7⟩ := u_known (C := rc_7) (T := rt_7) (N := 18) (n := 18) hts ri_7 (hts (.instantiable "UnitsWrong$State" 18) (bz_in 31 (by decide +kernel) rfl))
  obtain ⟨c8, i8, hK8⟩ := u_known (C := rc_8) (T := rt_8) (N := 5) (n := 5) hts ri_8 (hts (.instantiable "UnitsWrong$Tellings" 5) (bz_in 37 (by decide +kernel) rfl))
  obtain ⟨c9, i9, hK9⟩ := u_known (C := rc_9) (T := rt_9) (N := 8) (n := 8) hts ri_9 (hts (.instantiable "UnitsWrong$Text" 8) (bz_in 300 (by decide +kernel) rfl))
  obtain ⟨c10, i10, hK10⟩ := u_known (C := rc_10) (T := rt_10) (N := 6) (n := 6) hts ri_10 (hts (.instantiable "UnitsWrong$Trades" 6) (bz_in 100 (by decide +kernel) rfl))
  obtain ⟨c11, i11, hK11⟩ := u_known (C := rc_11) (T := rt_11) (N := 6) (n := 6) hts ri_11 (hts (.instantiable "UnitsWrong" 6) (bz_in 23 (by decide +kernel) rfl))
  obtain ⟨c12, i12, hK12⟩ := u_known (C := rc_12) (T := rt_12) (N := 79) (n := 79) hts ri_12 (hts (.instantiable "UnitsWrongModel" 79) (bz_in 1149 (by decide +kernel) rfl))
  refine ⟨(fun k => [c0, c1, c2, c3, c4, c5, c6, c7, c8, c9, c10, c11, c12].getD k c0, fun k => [i0, i1, i2, i3, i4, i5, i6, i7, i8, i9, i10, i11, i12].getD k i0), ?_⟩
  intro c q hq
  match c, hq with
  | 0, hq => cases hq; exact hK0
  | 1, hq => cases hq; exact hK1
  | 2, hq => cases hq; exact hK2
  | 3, hq => cases hq; exact hK3
  | 4, hq => cases hq; exact hK4
  | 5, hq => cases hq; exact hK5
  | 6, hq => cases hq; exact hK6
  | 7, hq => cases hq; exact hK7
  | 8, hq => cases hq; exact hK8
  | 9, hq => cases hq; exact hK9
  | 10, hq => cases hq; exact hK10
  | 11, hq => cases hq; exact hK11
  | 12, hq => cases hq; exact hK12
  | c + 13, hq => simp [bz_cls] at hq
theorem st_tys {s : State} {args : Array Value} (htl : ∀ w ∈ tables_1, w.before args s = true) : ∃ cA : Nat → ClassId, ∀ (k : Nat) (q : ClassId × FieldType), (bz_tys cA)[k]? = some q → ArrOfT s q.1 q.2 ∧ va_RA s q.1 q.2 := by
  obtain ⟨c0, h0⟩ := st_ac (htl _ st_w3.1) (fun c h => h)
  obtain ⟨c1, h1⟩ := st_ac (htl _ st_w3.2.1) (fun c h => h)
  obtain ⟨c2, h2⟩ := st_ac (htl _ st_w3.2.2.1) (fun c h => h)
  obtain ⟨c3, h3⟩ := st_ac (htl _ st_w3.2.2.2) (fun c h => h)
  obtain ⟨c4, h4⟩ := st_ao (htl _ (st_w4 (.array .int) (by decide)))
  obtain ⟨c5, h5⟩ := st_ao (htl _ (st_w4 (.array .long) (by decide)))
  obtain ⟨c6, h6⟩ := st_ao (htl _ (st_w4 (.array (.array .int)) (by decide)))
  obtain ⟨c7, h7⟩ := st_as (htl _ (st_w4 (.object "java/lang/String") (by decide)))
  refine ⟨fun k => [c0, c1, c2, c3, c4, c5, c6, c7].getD k c0, ?_⟩
  intro k q hq
  match k, hq with
  | 0, hq => cases hq; exact h0
  | 1, hq => cases hq; exact h1
  | 2, hq => cases hq; exact h2
  | 3, hq => cases hq; exact h3
  | 4, hq => cases hq; exact h4
  | 5, hq => cases hq; exact h5
  | 6, hq => cases hq; exact h6
  | 7, hq => cases hq; exact h7
  | k + 8, hq => simp [bz_tys] at hq
theorem st_T {s : State} {args : Array Value} (hts : ∀ w ∈ lw_tbl, w.before args s = true) : ∀ w ∈ bz_T, w.before args s = true := by
  intro w hw
  rcases List.mem_append.mp hw with h | h
  · exact hts w (List.mem_append_left _ h)
  · exact hts w (List.mem_append_right _ (List.mem_filter.mp h).1)
theorem st_NL {s : State} {args : Array Value} (htl : ∀ w ∈ tables_1, w.before args s = true) : ∀ w ∈ bz_NL, va_Nw w s := by
  intro w hw
  obtain ⟨h1, h2⟩ := List.mem_filter.mp hw
  refine va_Nw.of ?_ (htl w h1)
  cases w <;> first | rfl | (simp [bz_isN] at h2)
theorem st_all {s : State} {args : Array Value} (hts : ∀ w ∈ lw_tbl, w.before args s = true) (hgv : (Jvm.Cond.and given_1 narrow_1).before args s = true) : ∃ (ad : Nat → Nat) (cA : Nat → ClassId) (D : va_G), bn_Sf ad cA D (fun q => s.heap.size ≤ q) s.heap.size s ∧ bz_Sf ad cA D (fun q => s.heap.size ≤ q) s ∧ ∀ i, i < 235 → ad i = s.heap.size + bn_pos i := by
  have htT := st_T hts
  have htl : ∀ w ∈ tables_1, w.before args s = true := fun w hw => hts w (List.mem_append_right _ hw)
  have hs : ∀ c ∈ st_fl, c.before args s = true := flat_of_before _ hgv
  have hA : ∀ a : Nat, a < s.heap.size → ¬ (fun q => s.heap.size ≤ q) a := fun a h => Nat.not_le.mpr h
  obtain ⟨D, hD⟩ := st_cls htT
  obtain ⟨cA, hcA⟩ := st_tys htl
  have h0 : ∀ i : Nat, ∃ q : Nat × Nat, i < 18 → (st_t i).eval args s none [] s = some (.ref q.1) ∧ va_O "java/lang/String" q.1 (fun q => s.heap.size ≤ q) s s.heap ∧ va_OF "java/lang/String" "coder" "B" (.int 0) q.1 (fun q => s.heap.size ≤ q) s s.heap ∧ va_OF "java/lang/String" "value" "[B" (.ref q.2) q.1 (fun q => s.heap.size ≤ q) s s.heap ∧ va_T .byte q.2 (bz_str.getD i []).length (fun j => .int ((bz_str.getD i []).getD j 0)) (fun q => s.heap.size ≤ q) s s.heap := by
    intro i
    by_cases hi : i < 18
    · have hl : (bz_str.getD i []).length < 2 ^ 31 := (by decide +kernel : ∀ i, i < 18 → (bz_str.getD i []).length < 2 ^ 31) i hi
      obtain ⟨q, hq⟩ := st_one (A := fun q => s.heap.size ≤ q) hl (hs _ (st_m1 i hi)) (hs _ (st_m2 i hi)) (hs _ (st_m3 i hi)) (hs _ (st_m4 i hi)) (fun j hj => hs _ (st_m5 i hi j hj)) hA
      exact ⟨q, fun _ => hq⟩
    · exact ⟨(0, 0), fun h => absurd h hi⟩
  obtain ⟨aw, haw⟩ := Classical.axiomOfChoice h0
  obtain ⟨tw, htw, hTw⟩ := va_Tof (f := fun j => bz_i (bz_wo.getD j 0)) (A := fun q => s.heap.size ≤ q) (by decide : 12 < 2 ^ 31) (hs _ st_m8.1) (va_eqt (hs _ st_m8.2)) (fun j hj => va_eqt (hs _ (st_m9 j hj))) hA
  let ad : Nat → Nat := fun i => if i < 235 then s.heap.size + bn_pos i else if i < 950 then (aw (i - 900)).1 else if i < 990 then (aw (i - 950)).2 else tw
  have a1 : ∀ i, i < 235 → ad i = s.heap.size + bn_pos i := fun i hi => if_pos hi
  have a2 : ∀ i, i < 18 → ad (900 + i) = (aw i).1 := fun i hi => by
    show (if 900 + i < 235 then _ else if 900 + i < 950 then _ else _) = _
    rw [if_neg (by omega), if_pos (by omega), Nat.add_sub_cancel_left]
  have a3 : ∀ i, i < 18 → ad (950 + i) = (aw i).2 := fun i hi => by
    show (if 950 + i < 235 then _ else if 950 + i < 950 then _ else if 950 + i < 990 then _ else _) = _
    rw [if_neg (by omega), if_neg (by omega), if_pos (by omega), Nat.add_sub_cancel_left]
  have a4 : ad 990 = tw := rfl
  have hEs : bz_Es ad (fun q => s.heap.size ≤ q) s s.heap := by
    refine ⟨fun i hi => ?_, fun q hq => ?_, ?_, ?_, ?_, ?_⟩
    · rw [a2 i hi, a3 i hi]; exact (haw i hi).2
    · obtain ⟨h1, h2⟩ := st_m6 q hq
      refine vk_R.of (htl _ (st_m7 q hq)) ?_
      rw [a2 _ h2]
      rcases h1 with h1 | h1
      · rw [h1]; exact (haw _ h2).1
      · exact va_eqR (hs _ h1) (haw _ h2).1
    · rw [a4]; exact va_Zof (htl _ st_w1.1) (htl _ st_w2.1) htw hA
    · rw [a4]; exact hTw
    · exact va_Zof (htl _ st_w1.2.1) (htl _ st_w2.2.1) (va_eqi (hs _ st_m10.1)) hA
    · rcases va_Zqof (htl _ st_w1.2.2) (htl _ st_w2.2.2) (hs _ st_m10.2) hA with h | ⟨t, h⟩
      · exact ⟨.null, rfl, h⟩
      · exact ⟨.ref t, rfl, h⟩
  have hAd : bz_Ad ad (fun q => s.heap.size ≤ q) := by
    refine ⟨fun i j hi hj e => ?_, fun i hi => ?_⟩
    · rw [st_len] at hi hj
      rw [a1 i hi, a1 j hj] at e
      exact st_pi i hi j hj (by omega)
    · rw [st_len] at hi
      show s.heap.size ≤ ad i
      rw [a1 i hi]; omega
  have hNL := st_NL htl
  exact ⟨ad, cA, D, ⟨⟨hD, hcA⟩, fun q h => h, hNL, hEs, Nat.le_refl _, fun ty ht => bn_aog (Vm.Alike.refl s.vm) (htl _ (st_w4 ty ht))⟩, ⟨⟨hD, hcA⟩, hAd, hNL, hEs⟩, a1⟩
