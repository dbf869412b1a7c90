/-! new T[n][m] while making -/
theorem mu_outer (c : ClassId) (N h0 : Nat) : ∀ i : Nat, i ≤ N → Jvm.Free.Multi.outerC c N h0 i = arrV c N (fun j => if j < i then .ref (h0 + 1 + j) else .null)
  | 0, _ => by
    show ({ cls := c, slots := Array.replicate N .null, vm := .none } : Cell) = _
    rw [arrV_new]
    refine congrArg (arrV c N) (funext fun j => ?_)
    simp
  | i + 1, h => by
    show (Jvm.Free.Multi.outerC c N h0 i).setSlot i (.ref (h0 + 1 + i)) = _
    rw [mu_outer c N h0 i (by omega), arrV_store]
    refine congrArg (arrV c N) (funext fun j => ?_)
    by_cases e : j = i
    · subst e
      simp [updV]
    · by_cases h : j < i
      · simp [updV, e, h, Nat.lt_succ_of_lt h]
      · simp [updV, e, h, show ¬ j < i + 1 by omega]
theorem mu_ref {eg : Nat} (h : 4 ≤ eg) (ad : Nat → Nat) (b : Nat) (m : Nat → Int) : bz_arr ad eg b m = .inr (.inr (.inr (.inr (fun j => some (ad (b + j)))))) := by
  match eg, h with
  | q + 4, _ => rfl
theorem mu_cong (c : ClassId) (N : Nat) {f g : Nat → Value} (h : ∀ j, j < N → f j = g j) : arrV c N f = arrV c N g := by
  unfold arrV
  congr 1
  apply Array.ext
  · simp
  · intro i h1 h2
    simp at h1
    simp [h i h1]
theorem mu_app {ad : Nat → Nat} {cA : Nat → ClassId} {b0 : Nat} {S R : List bz_Sh} {M : bz_Mm} {D : va_G} {H H1 : Heap} (hP : va_P D bz_cls (bn_ws ad cA b0 S M) H) (hz : H.size = b0 + S.length) (hold : ∀ x, x < H.size → H1[x]? = H[x]?) (hnew : ∀ i s, R[i]? = some s → va_at D bz_cls (b0 + (S.length + i), bn_ent ad cA s (M (bn_id (S.length + i)))) H1) : va_P D bz_cls (bn_ws ad cA b0 (S ++ R) M) H1 := by
  intro k q hk
  unfold bn_ws at hk
  rw [List.getElem?_mapIdx] at hk
  cases hs : (S ++ R)[k]? with
  | none => rw [hs] at hk; cases hk
  | some s =>
    rw [hs] at hk
    have hq := (Option.some.inj hk).symm
    by_cases hl : k < S.length
    · rw [List.getElem?_append_left hl] at hs
      have h0 := hP k q (by unfold bn_ws; rw [List.getElem?_mapIdx, hs]; exact hk)
      exact h0.kept (hold _ (h0.lt))
    · rw [List.getElem?_append_right (by omega)] at hs
      have h0 := hnew _ _ hs
      rw [show S.length + (k - S.length) = k by omega] at h0
      rw [hq]; exact h0
section MU
variable {K : bz_K} {E : bz_E} {b0 nL pc fr lo mc ms ce sl : Nat} {cc : ByteArray} {own : String} {S : List bz_Sh} {M : bz_Mm} {lv : List (Nat × Value)} {st : List Value}
theorem n_m2 (X : bn_X K E b0 cc nL own fr lo mc ms) {ty : FieldType} {to tr i N1 N2 L base : Nat} {z1 z2 : Int} (hL : S.length = L) (hz1 : Int32.ofInt z1 = nI N1) (hz2 : Int32.ofInt z2 = nI N2) (hn1 : N1 < 10000) (hn2 : N2 < 10000) (hb : ∀ i, i < N1 → E.2.1 (base + i) = b0 + (L + 1 + i)) (hM : ∀ i, i < N1 + 1 → ∀ j, M (bn_id (L + i)) j = 0) (hc : ce + (1 + N1) ≤ mc) (hs : sl + (N1 + N1 * N2) ≤ ms)
    (hto : ∀ cA, (bz_tys cA)[to]? = some (cA to, .array ty)) (htr : ∀ cA, (bz_tys cA)[tr]? = some (cA tr, ty)) (h4 : 4 ≤ to) (hv : ∀ (ad : Nat → Nat) (c : ClassId), vp_cell c (N2, bz_arr ad tr 0 (fun _ => 0)) = arrV c N2 (fun _ => defaultValue ty)) (hRo : ∀ (U : State) (c d : ClassId), va_RA U c (.array ty) → U.vm.findClass ("[" ++ (FieldType.array ty).toString) = some d → c = d) (hRr : ∀ (U : State) (c d : ClassId), va_RA U c ty → U.vm.findClass (FieldType.array ty).toString = some d → c = d)
    (hcb : componentBytes ty ≤ 8) (hdf : fits ty (defaultValue ty) = true) (hdd : (defaultValue ty).isDefault = true)
    (hcl : Cond.classLink own i ("[" ++ (FieldType.array ty).toString) ∈ bz_T) (hov : (.array ty) ∈ bn_ao) (har : Cond.arrayClass ty ∈ bz_T) (hd : decode cc pc = .ok (.multianewarray i 2, 4))
    (k : bn_J K b0 nL (pc + 4) (ce + 1 + N1) (sl + N1 + N1 * N2) lv (.ref (b0 + L) :: st) (S ++ (.inl (to, N1, base) :: List.replicate N1 (.inl (tr, N2, 0)))) M) : bn_J K b0 nL pc ce sl lv (bz_i z2 :: bz_i z1 :: st) S M := by
  obtain ⟨⟨l, ad, cA, D, A⟩, p, e, R, s, m, args, below, meth, c, Q⟩ := K
  obtain ⟨rfl, hx, hb0, hml, hown, hts, hSf, rfl⟩ := X
  intro ls H locs hl hz hP hS T hT Xs
  subst hL
  have k1 : (nI N1).toNatClampNeg = N1 := nI_clamp (by omega)
  have k2 : (nI N2).toNatClampNeg = N2 := nI_clamp (by omega)
  have hby : N2 * componentBytes ty ≤ N2 * 8 := Nat.mul_le_mul_left _ hcb
  show ∃ t, Steps p.tables e below (T.setTop (F0 m pc ls (.int (Int32.ofInt z2) :: .int (Int32.ofInt z1) :: st))) t ∧ Q t
  rw [hz1, hz2]
  obtain ⟨vm₁, cO, comp, -, fA, fC, -, -, X1, step⟩ := Xs.multianewarray2F hx hown (hts _ hcl) (bn_aog (Vm.Alike.refl s.vm) (hSf.2.2.2.2.2 _ hov)) (hts _ har) (g := F0 m pc ls (.int (nI N2) :: .int (nI N1) :: st)) rfl (by rw [hb0]; exact hd) rfl (nI_pos (by omega)) (nI_pos (by omega)) (by rw [k1]; omega) (by rw [k2]; omega) (by rw [k2]; omega) hdf hdd (by rw [k1]; exact hc) (by rw [k1, k2]; exact hs)
  rw [k1, k2] at X1 step
  have eO : cA to = cO := hRo s _ _ (hSf.1.2 to _ (hto cA)).2 fA
  have eC : cA tr = comp := hRr s _ _ (hSf.1.2 tr _ (htr cA)).2 fC
  subst eO; subst eC
  have hTh : (T.setVm vm₁).heap = H := hT
  obtain ⟨f1, f2, -, -⟩ := Jvm.Free.Multi.fill_facts (T.setVm vm₁) (cA to) (cA tr) N1 N2 (defaultValue ty) N1
  have hold : ∀ x : Nat, x < H.size → (Jvm.Free.Multi.fill (T.setVm vm₁) (cA to) (cA tr) N1 N2 (defaultValue ty) N1).heap[x]? = H[x]? := fun x hx9 => by
    have := Jvm.Free.Multi.fill_old (T.setVm vm₁) (cA to) (cA tr) N1 N2 (defaultValue ty) (a := x) (by rw [hTh]; exact hx9) N1
    rw [hTh] at this
    exact this
  have hrow := Jvm.Free.Multi.fill_inner (T.setVm vm₁) (cA to) (cA tr) N1 N2 (defaultValue ty) N1
  rw [hTh] at f1 f2 hrow
  have hsz : T.heap.size = b0 + S.length := by rw [hT]; exact hz
  rw [hsz] at step
  rw [hz] at f1 f2 hrow
  have hnew : ∀ (q : Nat) (sq : bz_Sh), (.inl (to, N1, base) :: List.replicate N1 (.inl (tr, N2, 0)) : List bz_Sh)[q]? = some sq → va_at D bz_cls (b0 + (S.length + q), bn_ent ad cA sq (M (bn_id (S.length + q)))) (Jvm.Free.Multi.fill (T.setVm vm₁) (cA to) (cA tr) N1 N2 (defaultValue ty) N1).heap := by
    intro q sq hq
    match q, hq with
    | 0, hq =>
      cases hq
      show (Jvm.Free.Multi.fill (T.setVm vm₁) (cA to) (cA tr) N1 N2 (defaultValue ty) N1).heap[b0 + (S.length + 0)]? = some (vp_cell (cA to) (N1, bz_arr ad to base (M (bn_id (S.length + 0)))))
      rw [mu_ref h4, vp_cell_q, Nat.add_zero, f2, mu_outer _ _ _ _ (Nat.le_refl _)]
      refine congrArg some (mu_cong _ _ (fun j hj => ?_))
      have : ad (base + j) = b0 + (S.length + 1 + j) := hb j hj
      rw [if_pos hj]
      show Value.ref (b0 + S.length + 1 + j) = Value.ref (ad (base + j))
      rw [this, show b0 + S.length + 1 + j = b0 + (S.length + 1 + j) by omega]
    | q + 1, hq =>
      have hq2 : (List.replicate N1 (.inl (tr, N2, 0) : bz_Sh))[q]? = some sq := hq
      rw [List.getElem?_replicate] at hq2
      by_cases hqn : q < N1
      · rw [if_pos hqn] at hq2
        cases hq2
        show (Jvm.Free.Multi.fill (T.setVm vm₁) (cA to) (cA tr) N1 N2 (defaultValue ty) N1).heap[b0 + (S.length + (q + 1))]? = some (vp_cell (cA tr) (N2, bz_arr ad tr 0 (M (bn_id (S.length + (q + 1))))))
        rw [show M (bn_id (S.length + (q + 1))) = fun _ => 0 from funext (hM (q + 1) (by omega)), hv]
        have := hrow q hqn
        rw [show b0 + (S.length + (q + 1)) = b0 + S.length + 1 + q by omega, this]
        show some ({ cls := cA tr, slots := Array.replicate N2 (defaultValue ty), vm := .none } : Cell) = _
        rw [arrV_new]
      · rw [if_neg hqn] at hq2; cases hq2
  obtain ⟨t, a1, b1⟩ := k ls _ locs hl (by rw [f1, List.length_append]; simp; omega) (mu_app hP hz hold hnew) ⟨by rw [f1]; have := hS.1; omega, fun x h1 h2 => (hold x (by have := hS.1; omega)).trans (hS.2.1 x h1 h2), hS.2.2⟩ _ rfl X1
  exact ⟨t, step t a1, b1⟩
end MU
