/-! new String[]{"fund", "house", "poor"} while making -/
section PA
variable {p : Program} {l : Launch} {e : Env} {R : Room} {s : State} {m : MethodId} {args : Array Value} {below : List Frame} {meth : Method} {c : Code} {H : Heap} {locs : List Loc} {cells slots : Nat} {Q : State → Prop}
variable {cc : ByteArray} {pc : Nat} {ls : Array Slot} {st : List Value} {A : Nat → Prop} {ad : Nat → Nat} {cA : Nat → ClassId} {D : va_G} {b0 : Nat}
theorem p_step (hx : p.tables.exec = Jvm.exec) (hb : c.code = cc) {own tx : String} {idx j w a : Nat} {f : Nat → Value} (hown : s.vm.findClass own = some m.cls) (hSf : bn_Sf ad cA D A b0 s) (hS : va_S A s.heap H locs) (hw : w < 18) (hm : (own, idx, tx, w) ∈ bz_rs) (hA : A a) (hcell : H[a]? = some (arrV (cA 7) 3 f)) (hj : j < 3)
    (d0 : decode cc pc = .ok (.dup, 1)) (d1 : decode cc (pc + 1) = .ok (.iconst (j : Int), 1)) (d2 : decode cc (pc + 2) = .ok (.ldc idx, 2)) (d3 : decode cc (pc + 4) = .ok (.aastore, 1))
    (kk : ∀ (H1 : Heap) (locs1 : List Loc), H1[a]? = some (arrV (cA 7) 3 (updV f j (.ref (ad (900 + w))))) → H1.size = H.size → (∀ q : Nat, q ≠ a → H1[q]? = H[q]?) → va_S A s.heap H1 locs1 → W p l e R s m args below meth c H1 locs1 cells slots Q (F0 m (pc + 5) ls (.ref a :: st))) : W p l e R s m args below meth c H locs cells slots Q (F0 m pc ls (.ref a :: st)) := by
  refine lv_dup hx hb d0 rfl ?_
  refine lv_iconst hx hb d1 (v := nI j) rfl ?_
  refine va_ldcS hx hb hown (hSf.2.2.2.1.2.1 _ hm) d2 ?_
  obtain ⟨kA, comp, k1, k2, k3, k4⟩ := (hSf.1.2 7 _ rfl).2
  obtain ⟨kE, hkE, -⟩ := Vm.findClass_spec k3
  obtain ⟨cv, g1, g2, g3, g4⟩ := (hSf.2.2.2.1.1 w hw).1.kept hS.2.1
  have hcv : cv.cls = comp := Option.some.inj (g3.symm.trans k3)
  have hjc : (nI j).toNatClampNeg = j := nI_clamp (by omega)
  refine W.aast hx hb hcell (fun q h => by cases h) (fun h => by cases h) k1 k2 rfl hkE ⟨nI_pos (by omega), by rw [hjc]; show _ < (arrV _ _ _).slots.size; rw [arrV_size]; exact hj⟩ g1 (fun q h => by rw [h] at g2; cases g2) (by rw [hcv]; exact hkE) (by rw [hcv]; exact va_asg _ _) rfl rfl d3 fun H1 e1 z oq => ?_
  rw [hjc] at e1 ⊢
  rw [arrV_store] at e1
  exact kk H1 _ e1 z oq (hS.put z oq hA)
end PA
theorem n_party {K : bz_K} {E : bz_E} {b0 nL pc fr lo mc ms ce sl : Nat} {cc : ByteArray} {S : List bz_Sh} {M : bz_Mm} {lv : List (Nat × Value)} {st : List Value} (X : bn_X K E b0 cc nL "UnitsWrongModel" fr lo mc ms) {L i j0 j1 j2 : Nat} {z0 : Int} (hL : S.length = L) (hc : ce + 1 ≤ mc) (hs : sl + 3 ≤ ms) (hz0 : Int32.ofInt z0 = nI 3) (hcl : Cond.classLink "UnitsWrongModel" i "java/lang/String" ∈ bz_T) (w0 : ("UnitsWrongModel", j0, "fund", 0) ∈ bz_rs) (w1 : ("UnitsWrongModel", j1, "house", 1) ∈ bz_rs) (w2 : ("UnitsWrongModel", j2, "poor", 2) ∈ bz_rs)
    (hd : decode cc pc = .ok (.anewarray i, 3)) (d0 : decode cc (pc + 3) = .ok (.dup, 1)) (d1 : decode cc (pc + 3 + 1) = .ok (.iconst 0, 1)) (d2 : decode cc (pc + 3 + 2) = .ok (.ldc j0, 2)) (d3 : decode cc (pc + 3 + 4) = .ok (.aastore, 1))
    (d4 : decode cc (pc + 8) = .ok (.dup, 1)) (d5 : decode cc (pc + 8 + 1) = .ok (.iconst 1, 1)) (d6 : decode cc (pc + 8 + 2) = .ok (.ldc j1, 2)) (d7 : decode cc (pc + 8 + 4) = .ok (.aastore, 1))
    (d8 : decode cc (pc + 13) = .ok (.dup, 1)) (d9 : decode cc (pc + 13 + 1) = .ok (.iconst 2, 1)) (d10 : decode cc (pc + 13 + 2) = .ok (.ldc j2, 2)) (d11 : decode cc (pc + 13 + 4) = .ok (.aastore, 1))
    (k : bn_J K b0 nL (pc + 18) (ce + 1) (sl + 3) lv (.ref (b0 + L) :: st) (S ++ [.inl (7, 3, 900)]) M) : bn_J K b0 nL pc ce sl lv (bz_i z0 :: st) S M := by
  obtain ⟨⟨l, ad, cA, D, A⟩, p, e, R, s, m, args, below, meth, c, Q⟩ := K
  obtain ⟨rfl, hx, hb, hml, hown, hts, hSf, rfl⟩ := X
  intro ls H locs hl hz hP hS
  subst hL
  show W p l e _ s m args below meth c H locs ce sl Q (F0 m pc ls (.int (Int32.ofInt z0) :: st))
  rw [hz0]
  refine W.anew hx hb hown (hts _ hcl) (bn_aog (Vm.Alike.refl s.vm) (hSf.2.2.2.2.2 _ wo_S)) rfl hd rfl (by decide) (by decide) hc hs fun cB kA comp f1 f2 f3 f4 => ?_
  have hcB : cA 7 = cB := by
    obtain ⟨kA2, comp2, a1, a2, a3, a4⟩ := (hSf.1.2 7 _ rfl).2
    exact Option.some.inj (a4.symm.trans f1)
  subst hcB
  have k3 : (nI 3).toNatClampNeg = 3 := by decide
  rw [k3]
  generalize hH1 : H.push ({ cls := cA 7, slots := Array.replicate 3 .null, vm := .none } : Cell) = H1
  have z1 : H1.size = H.size + 1 := by rw [← hH1, Array.size_push]
  have e1 : H1[b0 + S.length]? = some (arrV (cA 7) 3 (fun _ => .null)) := by rw [← hz, ← hH1, Array.getElem?_push_size, ← arrV_new]
  have o1 : ∀ q : Nat, q < H.size → H1[q]? = H[q]? := fun q hq => by rw [← hH1, Array.getElem?_push, if_neg (Nat.ne_of_lt hq)]
  have hS1 : va_S A s.heap H1 locs := ⟨Nat.le_trans hS.1 (by omega), fun x h1 h2 => (o1 x (by have := hS.1; omega)).trans (hS.2.1 x h1 h2), hS.2.2⟩
  have hAa : A (b0 + S.length) := hSf.2.1 _ (Nat.le_add_right _ _)
  rw [show Value.ref (Array.size H) = Value.ref (b0 + S.length) by rw [hz]]
  show W p l e _ s m args below meth c H1 locs (ce + 1) (sl + 3) Q (F0 m (pc + 3) ls (.ref (b0 + S.length) :: st))
  refine p_step hx hb (j := 0) hown hSf hS1 (by decide) w0 hAa e1 (by decide) d0 d1 d2 d3 fun H2 l2 e2 z2 o2 hS2 => ?_
  refine p_step hx hb (j := 1) hown hSf hS2 (by decide) w1 hAa e2 (by decide) d4 d5 d6 d7 fun H3 l3 e3 z3 o3 hS3 => ?_
  refine p_step hx hb (j := 2) hown hSf hS3 (by decide) w2 hAa e3 (by decide) d8 d9 d10 d11 fun H4 l4 e4 z4 o4 hS4 => ?_
  refine k ls H4 l4 hl (by rw [z4, z3, z2, z1, hz, List.length_append]; rfl) (mu_app hP hz (fun x hx9 => ?_) (fun q sq hq => ?_)) hS4
  · rw [o4 x (by omega), o3 x (by omega), o2 x (by omega), o1 x hx9]
  · have h0 : q < 1 := (List.getElem?_eq_some_iff.mp hq).1
    rw [show q = 0 by omega] at hq ⊢
    cases hq
    show H4[b0 + (S.length + 0)]? = some (vp_cell (cA 7) (3, bz_arr ad 7 900 (M (bn_id (S.length + 0)))))
    rw [Nat.add_zero, e4, mu_ref (by decide), vp_cell_q]
    refine congrArg some (mu_cong _ _ (fun j hj => ?_))
    match j, hj with
    | 0, _ => rfl
    | 1, _ => rfl
    | 2, _ => rfl
    | n + 3, h => exact absurd h (by omega)
