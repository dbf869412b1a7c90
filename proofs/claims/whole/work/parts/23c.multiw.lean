theorem wo_I : (.array .int : FieldType) ∈ bn_ao := by decide +kernel
theorem wo_J : (.array .long : FieldType) ∈ bn_ao := by decide +kernel
theorem wo_3 : (.array (.array .int) : FieldType) ∈ bn_ao := by decide +kernel
theorem wo_S : (.object "java/lang/String" : FieldType) ∈ bn_ao := by decide +kernel
section MV
variable {K : bz_K} {E : bz_E} {b0 nL pc fr lo mc ms ce sl : Nat} {cc : ByteArray} {own : String} {S : List bz_Sh} {M : bz_Mm} {lv : List (Nat × Value)} {st : List Value}
theorem n_m2I (X : bn_X K E b0 cc nL own fr lo mc ms) {i N1 N2 L base : Nat} {z1 z2 : Int} (hL : S.length = L) (hz1 : Int32.ofInt z1 = nI N1) (hz2 : Int32.ofInt z2 = nI N2) (hn1 : N1 < 10000) (hn2 : N2 < 10000) (hb : ∀ i, i < N1 → E.2.1 (base + i) = b0 + (L + 1 + i)) (hM : ∀ i, i < N1 + 1 → ∀ j, M (bn_id (L + i)) j = 0) (hc : ce + (1 + N1) ≤ mc) (hs : sl + (N1 + N1 * N2) ≤ ms)
    (hcl : Cond.classLink own i "[[I" ∈ bz_T) (hd : decode cc pc = .ok (.multianewarray i 2, 4))
    (k : bn_J K b0 nL (pc + 4) (ce + 1 + N1) (sl + N1 + N1 * N2) lv (.ref (b0 + L) :: st) (S ++ (.inl (4, N1, base) :: List.replicate N1 (.inl (0, N2, 0)))) M) : bn_J K b0 nL pc ce sl lv (bz_i z2 :: bz_i z1 :: st) S M :=
  n_m2 X (ty := .int) (to := 4) (tr := 0) hL hz1 hz2 hn1 hn2 hb hM hc hs (fun _ => rfl) (fun _ => rfl) (by decide) (fun _ _ => rfl) (fun U c d h1 h2 => Option.some.inj (h1.symm.trans h2)) (fun U c d h1 h2 => Option.some.inj (h1.symm.trans h2)) (by decide) rfl rfl hcl wo_I wc_0 hd k
theorem n_m2J (X : bn_X K E b0 cc nL own fr lo mc ms) {i N1 N2 L base : Nat} {z1 z2 : Int} (hL : S.length = L) (hz1 : Int32.ofInt z1 = nI N1) (hz2 : Int32.ofInt z2 = nI N2) (hn1 : N1 < 10000) (hn2 : N2 < 10000) (hb : ∀ i, i < N1 → E.2.1 (base + i) = b0 + (L + 1 + i)) (hM : ∀ i, i < N1 + 1 → ∀ j, M (bn_id (L + i)) j = 0) (hc : ce + (1 + N1) ≤ mc) (hs : sl + (N1 + N1 * N2) ≤ ms)
    (hcl : Cond.classLink own i "[[J" ∈ bz_T) (hd : decode cc pc = .ok (.multianewarray i 2, 4))
    (k : bn_J K b0 nL (pc + 4) (ce + 1 + N1) (sl + N1 + N1 * N2) lv (.ref (b0 + L) :: st) (S ++ (.inl (5, N1, base) :: List.replicate N1 (.inl (1, N2, 0)))) M) : bn_J K b0 nL pc ce sl lv (bz_i z2 :: bz_i z1 :: st) S M :=
  n_m2 X (ty := .long) (to := 5) (tr := 1) hL hz1 hz2 hn1 hn2 hb hM hc hs (fun _ => rfl) (fun _ => rfl) (by decide) (fun _ _ => rfl) (fun U c d h1 h2 => Option.some.inj (h1.symm.trans h2)) (fun U c d h1 h2 => Option.some.inj (h1.symm.trans h2)) (by decide) rfl rfl hcl wo_J wc_1 hd k
def n3_S : List bz_Sh := .inl (6, 7, 112) :: (List.range 7).flatMap (fun i => .inl (4, 5, 119 + 5 * i) :: List.replicate 5 (.inl (0, 12, 0)))
theorem n3_all (q : Nat) (h : q < 43) : (q = 0 ∧ n3_S[q]? = some (.inl (6, 7, 112))) ∨ (q % 6 = 1 ∧ q / 6 < 7 ∧ n3_S[q]? = some (.inl (4, 5, 119 + 5 * (q / 6)))) ∨ (q ≠ 0 ∧ q % 6 ≠ 1 ∧ (q - 2) / 6 < 7 ∧ n3_S[q]? = some (.inl (0, 12, 0))) := match q, h with
  | 0, _ => Or.inl ⟨rfl, rfl⟩
  | 1, _ => Or.inr (Or.inl ⟨by decide, by decide, rfl⟩)
  | 2, _ => Or.inr (Or.inr ⟨by decide, by decide, by decide, rfl⟩)
  | 3, _ => Or.inr (Or.inr ⟨by decide, by decide, by decide, rfl⟩)
  | 4, _ => Or.inr (Or.inr ⟨by decide, by decide, by decide, rfl⟩)
  | 5, _ => Or.inr (Or.inr ⟨by decide, by decide, by decide, rfl⟩)
  | 6, _ => Or.inr (Or.inr ⟨by decide, by decide, by decide, rfl⟩)
  | 7, _ => Or.inr (Or.inl ⟨by decide, by decide, rfl⟩)
  | 8, _ => Or.inr (Or.inr ⟨by decide, by decide, by decide, rfl⟩)
  | 9, _ => Or.inr (Or.inr ⟨by decide, by decide, by decide, rfl⟩)
  | 10, _ => Or.inr (Or.inr ⟨by decide, by decide, by decide, rfl⟩)
  | 11, _ => Or.inr (Or.inr ⟨by decide, by decide, by decide, rfl⟩)
  | 12, _ => Or.inr (Or.inr ⟨by decide, by decide, by decide, rfl⟩)
  | 13, _ => Or.inr (Or.inl ⟨by decide, by decide, rfl⟩)
  | 14, _ => Or.inr (Or.inr ⟨by decide, by decide, by decide, rfl⟩)
  | 15, _ => Or.inr (Or.inr ⟨by decide, by decide, by decide, rfl⟩)
  | 16, _ => Or.inr (Or.inr ⟨by decide, by decide, by decide, rfl⟩)
  | 17, _ => Or.inr (Or.inr ⟨by decide, by decide, by decide, rfl⟩)
  | 18, _ => Or.inr (Or.inr ⟨by decide, by decide, by decide, rfl⟩)
  | 19, _ => Or.inr (Or.inl ⟨by decide, by decide, rfl⟩)
  | 20, _ => Or.inr (Or.inr ⟨by decide, by decide, by decide, rfl⟩)
  | 21, _ => Or.inr (Or.inr ⟨by decide, by decide, by decide, rfl⟩)
  | 22, _ => Or.inr (Or.inr ⟨by decide, by decide, by decide, rfl⟩)
  | 23, _ => Or.inr (Or.inr ⟨by decide, by decide, by decide, rfl⟩)
  | 24, _ => Or.inr (Or.inr ⟨by decide, by decide, by decide, rfl⟩)
  | 25, _ => Or.inr (Or.inl ⟨by decide, by decide, rfl⟩)
  | 26, _ => Or.inr (Or.inr ⟨by decide, by decide, by decide, rfl⟩)
  | 27, _ => Or.inr (Or.inr ⟨by decide, by decide, by decide, rfl⟩)
  | 28, _ => Or.inr (Or.inr ⟨by decide, by decide, by decide, rfl⟩)
  | 29, _ => Or.inr (Or.inr ⟨by decide, by decide, by decide, rfl⟩)
  | 30, _ => Or.inr (Or.inr ⟨by decide, by decide, by decide, rfl⟩)
  | 31, _ => Or.inr (Or.inl ⟨by decide, by decide, rfl⟩)
  | 32, _ => Or.inr (Or.inr ⟨by decide, by decide, by decide, rfl⟩)
  | 33, _ => Or.inr (Or.inr ⟨by decide, by decide, by decide, rfl⟩)
  | 34, _ => Or.inr (Or.inr ⟨by decide, by decide, by decide, rfl⟩)
  | 35, _ => Or.inr (Or.inr ⟨by decide, by decide, by decide, rfl⟩)
  | 36, _ => Or.inr (Or.inr ⟨by decide, by decide, by decide, rfl⟩)
  | 37, _ => Or.inr (Or.inl ⟨by decide, by decide, rfl⟩)
  | 38, _ => Or.inr (Or.inr ⟨by decide, by decide, by decide, rfl⟩)
  | 39, _ => Or.inr (Or.inr ⟨by decide, by decide, by decide, rfl⟩)
  | 40, _ => Or.inr (Or.inr ⟨by decide, by decide, by decide, rfl⟩)
  | 41, _ => Or.inr (Or.inr ⟨by decide, by decide, by decide, rfl⟩)
  | 42, _ => Or.inr (Or.inr ⟨by decide, by decide, by decide, rfl⟩)
  | n + 43, h => absurd h (by omega)
theorem n3_get (q : Nat) (sq : bz_Sh) (h : n3_S[q]? = some sq) : (q = 0 ∧ sq = .inl (6, 7, 112)) ∨ (∃ i, i < 7 ∧ q = 1 + 6 * i ∧ sq = .inl (4, 5, 119 + 5 * i)) ∨ ∃ i j, i < 7 ∧ j < 5 ∧ q = 2 + 6 * i + j ∧ sq = .inl (0, 12, 0) := by
  have hl : q < 43 := (List.getElem?_eq_some_iff.mp h).1
  rcases n3_all q hl with ⟨a, b⟩ | ⟨a, b, c⟩ | ⟨a, b, c, d⟩
  · exact Or.inl ⟨a, by rw [h] at b; exact Option.some.inj b⟩
  · exact Or.inr (Or.inl ⟨q / 6, b, by omega, by rw [h] at c; exact Option.some.inj c⟩)
  · exact Or.inr (Or.inr ⟨(q - 2) / 6, (q - 2) % 6, c, by omega, by omega, by rw [h] at d; exact Option.some.inj d⟩)
theorem n3_pos : ∀ i, i < 7 → bn_pos (112 + i) = 112 + 6 * i ∧ ∀ j, j < 5 → bn_pos (119 + 5 * i + j) = 113 + 6 * i + j := by decide +kernel
theorem n_m3 (X : bn_X K E b0 cc nL own fr lo mc ms) {i : Nat} {z1 z2 z3 : Int} (hL : S.length = 111) (hAd : ∀ i, i < 235 → E.2.1 i = b0 + bn_pos i) (hM : ∀ i, i < 43 → ∀ j, M (bn_id (111 + i)) j = 0) (hc : ce + 43 ≤ mc) (hs : sl + 462 ≤ ms) (hz1 : Int32.ofInt z1 = nI 7) (hz2 : Int32.ofInt z2 = nI 5) (hz3 : Int32.ofInt z3 = nI 12)
    (hcl : Cond.classLink own i "[[[I" ∈ bz_T) (hd : decode cc pc = .ok (.multianewarray i 3, 4))
    (k : bn_J K b0 nL (pc + 4) (ce + 43) (sl + 462) lv (.ref (b0 + 111) :: st) (S ++ n3_S) M) : bn_J K b0 nL pc ce sl lv (bz_i z3 :: bz_i z2 :: bz_i z1 :: st) S M := by
  obtain ⟨⟨l, ad, cA, D, A⟩, p, e, R, s, m, args, below, meth, c, Q⟩ := K
  obtain ⟨rfl, hx, hb0, hml, hown, hts, hSf, rfl⟩ := X
  intro ls H locs hl hz hP hS T hT Xs
  have k1 : (nI 7).toNatClampNeg = 7 := by decide
  have k2 : (nI 5).toNatClampNeg = 5 := by decide
  have k3 : (nI 12).toNatClampNeg = 12 := by decide
  show ∃ t, Steps p.tables e below (T.setTop (F0 m pc ls (.int (Int32.ofInt z3) :: .int (Int32.ofInt z2) :: .int (Int32.ofInt z1) :: st))) t ∧ Q t
  rw [hz1, hz2, hz3]
  obtain ⟨vm₁, cO, c1, c2, fO, f1c, f2c, X1, step⟩ := m3_row Xs hx hown (ty := .int) (hts _ hcl) (bn_aog (Vm.Alike.refl s.vm) (hSf.2.2.2.2.2 _ wo_3)) (bn_aog (Vm.Alike.refl s.vm) (hSf.2.2.2.2.2 _ wo_I)) (hts _ wc_0) (g := F0 m pc ls (.int (nI 12) :: .int (nI 5) :: .int (nI 7) :: st)) rfl (by rw [hb0]; exact hd) rfl (by decide) (by decide) (by decide) (by rw [k1]; decide) (by rw [k2]; decide) (by rw [k3]; decide) (by rw [k3]; decide) rfl rfl (by rw [k1, k2]; exact hc) (by rw [k1, k2, k3]; exact hs)
  rw [k1, k2, k3] at X1 step
  have eO : cA 6 = cO := Option.some.inj ((hSf.1.2 6 _ rfl).2.symm.trans fO)
  have e1 : cA 4 = c1 := Option.some.inj ((hSf.1.2 4 _ rfl).2.symm.trans f1c)
  have e2 : cA 0 = c2 := Option.some.inj ((hSf.1.2 0 _ rfl).2.symm.trans f2c)
  subst eO; subst e1; subst e2
  have hTh : (T.setVm vm₁).heap = H := hT
  obtain ⟨f1, f2, -, -⟩ := m3_facts (T.setVm vm₁) (cA 6) (cA 4) (cA 0) 7 5 12 (defaultValue .int) 7
  have hold : ∀ x : Nat, x < H.size → (m3_f (T.setVm vm₁) (cA 6) (cA 4) (cA 0) 7 5 12 (defaultValue .int) 7).heap[x]? = H[x]? := fun x hx9 => by
    have := m3_old (T.setVm vm₁) (cA 6) (cA 4) (cA 0) 7 5 12 (defaultValue .int) (a := x) (by rw [hTh]; exact hx9) 7
    rw [hTh] at this
    exact this
  have hmid := m3_mid (T.setVm vm₁) (cA 6) (cA 4) (cA 0) 7 5 12 (defaultValue .int) 7
  have hsz : T.heap.size = b0 + 111 := by rw [hT, hz, hL]
  have hH : H.size = b0 + 111 := by rw [hz, hL]
  rw [hTh, hH] at f1 f2 hmid
  rw [hsz] at step
  have hpos : ∀ i, i < 235 → ad i = b0 + bn_pos i := hAd
  have hnew : ∀ (q : Nat) (sq : bz_Sh), n3_S[q]? = some sq → va_at D bz_cls (b0 + (S.length + q), bn_ent ad cA sq (M (bn_id (S.length + q)))) (m3_f (T.setVm vm₁) (cA 6) (cA 4) (cA 0) 7 5 12 (defaultValue .int) 7).heap := by
    intro q sq hq
    rw [hL]
    rcases n3_get q sq hq with ⟨rfl, rfl⟩ | ⟨a, ha, rfl, rfl⟩ | ⟨a, j, ha, hj, rfl, rfl⟩
    · show (m3_f (T.setVm vm₁) (cA 6) (cA 4) (cA 0) 7 5 12 (defaultValue .int) 7).heap[b0 + (111 + 0)]? = some (vp_cell (cA 6) (7, bz_arr ad 6 112 (M (bn_id (111 + 0)))))
      rw [mu_ref (by decide), vp_cell_q, show b0 + (111 + 0) = b0 + 111 from rfl, f2]
      refine congrArg some (mu_cong _ _ (fun j hj => ?_))
      rw [if_pos hj]
      show Value.ref (b0 + 111 + 1 + j * (5 + 1)) = Value.ref (ad (112 + j))
      rw [hpos _ (by omega), (n3_pos j hj).1, show b0 + 111 + 1 + j * (5 + 1) = b0 + (112 + 6 * j) by omega]
    · show (m3_f (T.setVm vm₁) (cA 6) (cA 4) (cA 0) 7 5 12 (defaultValue .int) 7).heap[b0 + (111 + (1 + 6 * a))]? = some (vp_cell (cA 4) (5, bz_arr ad 4 (119 + 5 * a) (M (bn_id (111 + (1 + 6 * a))))))
      have h1 := (hmid a ha).1
      rw [show b0 + 111 + 1 + a * (5 + 1) = b0 + (111 + (1 + 6 * a)) by omega] at h1
      rw [h1, mu_ref (by decide), vp_cell_q, mu_outer _ _ _ _ (Nat.le_refl _)]
      refine congrArg some (mu_cong _ _ (fun j hj => ?_))
      rw [if_pos hj]
      show Value.ref (b0 + (111 + (1 + 6 * a)) + 1 + j) = Value.ref (ad (119 + 5 * a + j))
      rw [hpos _ (by omega), (n3_pos a ha).2 j hj, show b0 + (111 + (1 + 6 * a)) + 1 + j = b0 + (113 + 6 * a + j) by omega]
    · show (m3_f (T.setVm vm₁) (cA 6) (cA 4) (cA 0) 7 5 12 (defaultValue .int) 7).heap[b0 + (111 + (2 + 6 * a + j))]? = some (vp_cell (cA 0) (12, bz_arr ad 0 0 (M (bn_id (111 + (2 + 6 * a + j))))))
      rw [show M (bn_id (111 + (2 + 6 * a + j))) = fun _ => 0 from funext (hM _ (by omega))]
      have h1 := (hmid a ha).2 j hj
      rw [show b0 + 111 + 1 + a * (5 + 1) + 1 + j = b0 + (111 + (2 + 6 * a + j)) by omega] at h1
      rw [h1]
      show some ({ cls := cA 0, slots := Array.replicate 12 (defaultValue .int), vm := .none } : Cell) = _
      rw [arrV_new]
      rfl
  obtain ⟨t, a1, b1⟩ := k ls _ locs hl (by rw [f1, List.length_append, hL]; rfl) (mu_app hP hz hold hnew) ⟨by rw [f1]; have := hS.1; omega, fun x h1 h2 => (hold x (by have := hS.1; omega)).trans (hS.2.1 x h1 h2), hS.2.2⟩ _ rfl X1
  exact ⟨t, step t a1, b1⟩
end MV
