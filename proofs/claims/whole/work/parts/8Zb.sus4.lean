/-! the search for what explains, both sides -/
theorem bc_b {h : Nat} (hh : h < 128) : fJI_bitCount (h : Int) = (cnB h 7 0 : Int) := by
  have : ∀ h : Nat, h < 128 → fJI_bitCount (h : Int) = (cnB h 7 0 : Int) := by decide +kernel
  exact this h hh
theorem r_many {F h : Nat} {M : bz_Mm} (hF : 500 < F) (hh : h < 128) : fM_many F M (h : Int) = some (cnB h 7 0 : Int) := by
  have lp : ∀ (m fuel i : Nat) (c : Nat), i + m = 7 → m < fuel → M_many_L4 F fuel M (h : Int) (i : Int) (c : Int) = some ((c + cnB h m i : Nat) : Int) := by
    intro m
    induction m with
    | zero =>
      intro fuel i c e1 e2
      obtain ⟨fuel, rfl⟩ : ∃ j, fuel = j + 1 := ⟨fuel - 1, by omega⟩
      rw [M_many_L4, w32_n (show i ≤ 2147483647 by omega), if_neg (by omega)]; rfl
    | succ m ih =>
      intro fuel i c e1 e2
      obtain ⟨fuel, rfl⟩ : ∃ j, fuel = j + 1 := ⟨fuel - 1, by omega⟩
      rw [M_many_L4, w32_n (show i ≤ 2147483647 by omega), if_pos (by omega), lt_x, sr_b (by omega) (by omega), cnB_S, show (i : Int) + 1 = ((i + 1 : Nat) : Int) by omega]
      by_cases b : h.testBit i = true
      · rw [if_pos b, if_pos b, show (c : Int) + 1 = ((c + 1 : Nat) : Int) by omega, ih fuel (i + 1) (c + 1) (by omega) (by omega), Nat.add_assoc]
      · rw [if_neg b, if_neg b, show (c : Int) + 0 = (c : Int) by omega, ih fuel (i + 1) c (by omega) (by omega), Nat.zero_add]
  unfold fM_many
  have := lp 7 F 0 0 (by omega) (by omega)
  rw [show ((0 : Nat) : Int) = 0 from rfl, Nat.zero_add] at this
  rw [this, cl1_s]
/-- the heap h explains -/
def ex_ (M : bz_Mm) (n nf nt nd ns now na h : Nat) : Prop := ∃ X, KX M X h n ns now ∧ EXP M X nf nt nd now na
noncomputable def sA (E : Nat → Prop) (s : Nat) (bc : Int × Int) (h : Nat) : Int × Int := @ite _ (cnB h 7 0 = s ∧ E h) (Classical.propDecidable _) (if bc.1 = -1 then (h : Int) else bc.1, bc.2 + 1) bc
noncomputable def sI (E : Nat → Prop) (s : Nat) : Nat → Nat → Int × Int → Int × Int
  | 0, _, bc => bc
  | m + 1, h, bc => sI E s m (h + 1) (sA E s bc h)
noncomputable def sO (E : Nat → Prop) (H : Nat) : Nat → Nat → Int × Int → Int × Int
  | 0, _, bc => bc
  | m + 1, s, bc => if bc.1 = -1 then sO E H m (s + 1) (sI E s H 0 bc) else bc
noncomputable def srch (E : Nat → Prop) (ns : Nat) : Int × Int := sO E (2 ^ ns) (ns + 1) 0 (-1, -1)
def bcO (bc : Int × Int) : Prop := (-1 ≤ bc.1 ∧ bc.1 < 128) ∧ (bc.1 = -1 → bc.2 = -1)
theorem sA_y {E : Nat → Prop} {s h : Nat} {bc : Int × Int} (c1 : cnB h 7 0 = s) (c2 : E h) : sA E s bc h = (if bc.1 = -1 then (h : Int) else bc.1, bc.2 + 1) := by
  unfold sA; rw [if_pos ⟨c1, c2⟩]
theorem sA_n {E : Nat → Prop} {s h : Nat} {bc : Int × Int} (c : ¬ (cnB h 7 0 = s ∧ E h)) : sA E s bc h = bc := by
  unfold sA; rw [if_neg c]
theorem sA_o {E : Nat → Prop} {s h : Nat} {bc : Int × Int} (hh : h < 128) (hb : bcO bc) : bcO (sA E s bc h) := by
  by_cases c : cnB h 7 0 = s ∧ E h
  · rw [sA_y c.1 c.2]
    obtain ⟨⟨b1, b2⟩, b3⟩ := hb
    unfold bcO
    dsimp only
    by_cases d : bc.1 = -1
    · rw [if_pos d]; exact ⟨⟨by omega, by omega⟩, fun q => by omega⟩
    · rw [if_neg d]; exact ⟨⟨by omega, by omega⟩, fun q => absurd q d⟩
  · rw [sA_n c]; exact hb
theorem sI_o {E : Nat → Prop} {s : Nat} : ∀ (m h : Nat) (bc : Int × Int), h + m ≤ 128 → bcO bc → bcO (sI E s m h bc) := by
  intro m
  induction m with
  | zero => intro h bc _ hb; exact hb
  | succ m ih => intro h bc e hb; exact ih (h + 1) _ (by omega) (sA_o (by omega) hb)
theorem sO_o {E : Nat → Prop} {H : Nat} (hH : H ≤ 128) : ∀ (m s : Nat) (bc : Int × Int), bcO bc → bcO (sO E H m s bc) := by
  intro m
  induction m with
  | zero => intro s bc hb; exact hb
  | succ m ih =>
    intro s bc hb
    rw [sO]
    by_cases c : bc.1 = -1
    · rw [if_pos c]; exact ih (s + 1) _ (sI_o H 0 bc (by omega) hb)
    · rw [if_neg c]; exact hb
theorem p2_le {ns : Nat} (h : ns ≤ 7) : 2 ^ ns ≤ 128 := Nat.le_trans (Nat.pow_le_pow_right (by decide) h) (by decide)
theorem srch_o {E : Nat → Prop} {ns : Nat} (h : ns ≤ 7) : bcO (srch E ns) := sO_o (p2_le h) _ _ _ ⟨⟨by decide, by decide⟩, fun _ => rfl⟩
/-- the class within a search -/
def SV (M V : bz_Mm) (n nd now : Nat) (bc : Int × Int) : Prop := FR n M V ∧ (∀ j, j ≠ 5 → j ≠ 6 → V 77 j = M 77 j) ∧ (V 77 5 = bc.1 ∧ V 77 6 = bc.2) ∧ (∀ q, 64 < q → q ≠ 77 → V q = M q) ∧ (∀ i, (i < nd → ¬ (opn (M 82) (M 106 i).toNat = true ∧ M 106 i < (now : Int))) → V 42 i = M 42 i) ∧ V 53 18 = M 53 18
def SYr (M Y : bz_Mm) (n : Nat) (bc : Int × Int) : Prop := FR n M Y ∧ (Y 81 70 = bc.1 ∧ Y 81 71 = bc.2 + 1)
theorem b2i_w (e : Bool) : w32 (b2i e) = b2i e := by cases e <;> decide
theorem FR.k77 {n : Nat} {M V V' : bz_Mm} (h : FR n M V) (hq : ∀ q, q ≠ 77 → V' q = V q) : FR n M V' := by
  obtain ⟨a1, a2, a3, a4, a5⟩ := h
  exact ⟨fun q z => by rw [hq q (by omega)]; exact a1 q z, fun q t u v w => by rw [hq q (by omega)]; exact a2 q t u v w, fun j hj => by rw [hq 81 (by decide)]; exact a3 j hj, by rw [hq 81 (by decide)]; exact a4, fun j hj => by rw [hq 53 (by decide)]; exact a5 j hj⟩
theorem FR.k81 {n : Nat} {M V V' : bz_Mm} (h : FR n M V) (hq : ∀ q, q ≠ 81 → V' q = V q) (h8 : ∀ j, j < 70 → V' 81 j = V 81 j) : FR n M V' := by
  obtain ⟨a1, a2, a3, a4, a5⟩ := h
  exact ⟨fun q z => by rw [hq q (by omega)]; exact a1 q z, fun q t u v w => by rw [hq q (by omega)]; exact a2 q t u v w, fun j hj => by rw [h8 j (by omega)]; exact a3 j hj, by rw [h8 61 (by decide)]; exact a4, fun j hj => by rw [hq 53 (by decide)]; exact a5 j hj⟩
theorem cnB_00 : cnB 0 7 0 = 0 := by decide +kernel
theorem u_60 {F : Nat} {M : bz_Mm} {n nf nt nd nl now ns na s : Nat} (hF : 500 < F) (hI : IT M n nf nt nd nl now) (h77 : M 77 3 = na) (hS : ISu M ns) (hA : IAu M nf now na) (hs : s ≤ 7) : ∀ (m fuel h : Nat) (V : bz_Mm) (bc : Int × Int), h + m = 2 ^ ns → m < fuel → bcO bc → SV M V n nd now bc → ∃ V', UA_search_L60 F fuel (s : Int) (ns : Int) (h : Int) V = some V' ∧ UA_search_L60a F fuel (s : Int) (ns : Int) (h : Int) V = some V' ∧ SV M V' n nd now (sI (ex_ M n nf nt nd ns now na) s m h bc) ∧ ((V 53 17 = -1 ∨ (h = 0 ∧ s = 0 ∧ 0 < m)) → V' 53 17 = -1) := by
  have ns7 := hS.1.2.2
  have p2 := p2_le ns7
  have sl := sl_b (i := ns) (by omega)
  intro m
  induction m with
  | zero =>
    intro fuel h V bc e1 e2 e3 e4
    obtain ⟨fuel, rfl⟩ : ∃ j, fuel = j + 1 := ⟨fuel - 1, by omega⟩
    have eh : h = 2 ^ ns := by omega
    refine ⟨V, ?_, ?_, e4, fun q => q.resolve_right (fun z => Nat.lt_irrefl 0 z.2.2)⟩
    · rw [UA_search_L60, sl, eh, if_neg (Int.lt_irrefl _)]
    · rw [UA_search_L60a, sl, eh, if_neg (Int.lt_irrefl _)]
  | succ m ih =>
    intro fuel h V bc e1 e2 e3 e4
    obtain ⟨fuel, rfl⟩ : ∃ j, fuel = j + 1 := ⟨fuel - 1, by omega⟩
    have hh : h < 2 ^ ns := by omega
    have c1 : (h : Int) < ((2 ^ ns : Nat) : Int) := by omega
    have h1 : (h : Int) + 1 = ((h + 1 : Nat) : Int) := by omega
    have h128 : h < 128 := by omega
    have cb : cnB h 7 0 ≤ 7 := cnB_le h 7 0
    have o' := sA_o (E := ex_ M n nf nt nd ns now na) (s := s) h128 e3
    have lt : m < fuel := by omega
    have em : h + 1 + m = 2 ^ ns := by omega
    have csI : (cnB h 7 0 : Int) = (s : Int) ↔ cnB h 7 0 = s := by omega
    have l1 : h ≤ 2147483647 := by omega
    have l2 : 2 ^ ns ≤ 2147483647 := by omega
    have l3 : cnB h 7 0 ≤ 2147483647 := by omega
    have l4 : s ≤ 2147483647 := by omega
    have w1 : w32 (h : Int) = h := w32_n l1
    have w2 : w32 ((2 ^ ns : Nat) : Int) = ((2 ^ ns : Nat) : Int) := w32_n l2
    have w3 : w32 (cnB h 7 0 : Int) = (cnB h 7 0 : Int) := w32_n l3
    have w4 : w32 (s : Int) = s := w32_n l4
    have g1 : UA_search_L60 F (fuel + 1) (s : Int) (ns : Int) (h : Int) V = if (cnB h 7 0 : Int) = s then (cl2_ (fUA_explains F V (h : Int)) fun x4 m3 => if w32 x4 = 0 then (UA_search_L60 F fuel (s : Int) (ns : Int) ((h : Int) + 1) m3) else (cl1_ (if w32 (m3 77 5) = (-1) then (some ((h : Int))) else (some (m3 77 5))) fun v6 => wf_ m3 77 5 v6 fun m7 => wf_ m7 77 6 ((m7 77 6) + 1) fun m8 => UA_search_L60 F fuel (s : Int) (ns : Int) ((h : Int) + 1) m8)) else (UA_search_L60 F fuel (s : Int) (ns : Int) ((h : Int) + 1) V) := by
      rw [UA_search_L60, sl, w1, w2, if_pos c1, bc_b h128, w3, w4]
    have g2 : UA_search_L60a F (fuel + 1) (s : Int) (ns : Int) (h : Int) V = if (cnB h 7 0 : Int) = s then (cl2_ (fUA_explains F V (h : Int)) fun x4 m3 => if w32 x4 = 0 then (UA_search_L60a F fuel (s : Int) (ns : Int) ((h : Int) + 1) m3) else (cl1_ (if w32 (m3 77 5) = (-1) then (some ((h : Int))) else (some (m3 77 5))) fun v6 => wf_ m3 77 5 v6 fun m7 => wf_ m7 77 6 ((m7 77 6) + 1) fun m8 => UA_search_L60a F fuel (s : Int) (ns : Int) ((h : Int) + 1) m8)) else (UA_search_L60a F fuel (s : Int) (ns : Int) ((h : Int) + 1) V) := by
      rw [UA_search_L60a, sl, w1, w2, if_pos c1, bc_b h128, w3, w4]
    rw [g1, g2, sI, h1]
    by_cases cs : cnB h 7 0 = s
    · have cs' : (cnB h 7 0 : Int) = s := csI.mpr cs
      rw [if_pos cs', if_pos cs']
      obtain ⟨s1, s2, s3, s4, s5, s6⟩ := e4
      obtain ⟨e, V', Y', x1, x2, x3, x4, x5, x6, x7, x8, x9, ⟨X, xX⟩, xE⟩ := ex_both (V := V) (Y := M) hF hI s1 (FR.r hI.2.2.1.2.2.1) (show V 77 3 = na by rw [s2 3 (by decide) (by decide)]; exact h77) hS hA hh
      rw [x1, cl2_s, cl2_s]
      rw [b2i_w]
      cases e
      · rw [show b2i false = 0 from rfl, if_pos rfl, if_pos rfl]
        rw [sA_n (fun q => by obtain ⟨_, X', q1, q2⟩ := q; exact absurd ((xE X' q1).mpr q2) (by decide))]
        obtain ⟨Z, z1, z2, z3, z4⟩ := ih fuel (h + 1) V' bc em lt e3 ⟨x3, fun j a b => by rw [x5 77 (by decide)]; exact s2 j a b, by rw [x5 77 (by decide)]; exact s3, fun q a b => by rw [x5 q a]; exact s4 q a b, fun i a => by rw [x6 i a]; exact s5 i a, by rw [x7.1]; exact s6⟩
        exact ⟨Z, z1, z2, z3, fun _ => z4 (Or.inl x7.2)⟩
      · rw [show b2i true = 1 from rfl, if_neg (c := (1 : Int) = 0) (by decide), if_neg (c := (1 : Int) = 0) (by decide)]
        have hE : ex_ M n nf nt nd ns now na h := ⟨X, xX, (xE X xX).mp rfl⟩
        rw [sA_y cs hE] at o' ⊢
        have v5 : V' 77 5 = bc.1 := by rw [x5 77 (by decide)]; exact s3.1
        have v6 : V' 77 6 = bc.2 := by rw [x5 77 (by decide)]; exact s3.2
        have iv : (if w32 (V' 77 5) = (-1) then (some ((h : Int))) else (some (V' 77 5))) = some (if bc.1 = -1 then (h : Int) else bc.1) := by
          rw [v5, w32_id (x := bc.1) (Int.le_trans (by decide) e3.1.1) (Int.le_of_lt (Int.lt_trans e3.1.2 (by decide)))]
          by_cases d : bc.1 = -1
          · rw [if_pos d, if_pos d]
          · rw [if_neg d, if_neg d]
        rw [iv, cl1_s, cl1_s, wf_s, wf_s, wf_s, wf_s]
        obtain ⟨Z, z1, z2, z3, z4⟩ := ih fuel (h + 1) (st_ (st_ V' 77 5 (if bc.1 = -1 then (h : Int) else bc.1)) 77 6 ((st_ V' 77 5 (if bc.1 = -1 then (h : Int) else bc.1)) 77 6 + 1)) (if bc.1 = -1 then (h : Int) else bc.1, bc.2 + 1) em lt o' ⟨x3.k77 (fun q hq => by rw [st_ne hq, st_ne hq]), fun j a b => by rw [st_eq, ud_ne b, st_eq, ud_ne a, x5 77 (by decide)]; exact s2 j a b, ⟨by rw [st_eq, ud_ne (by decide), st_eq, ud_eq], by rw [st_eq, ud_eq, st_eq, ud_ne (by decide), v6]⟩, fun q a b => by rw [st_ne b, st_ne b, x5 q a]; exact s4 q a b, fun i a => by rw [st_ne (by decide), st_ne (by decide), x6 i a]; exact s5 i a, by rw [st_ne (by decide), st_ne (by decide), x7.1]; exact s6⟩
        exact ⟨Z, z1, z2, z3, fun _ => z4 (Or.inl (by rw [st_ne (by decide), st_ne (by decide)]; exact x7.2))⟩
    · have cs' : ¬ (cnB h 7 0 : Int) = s := fun q => cs (csI.mp q)
      rw [if_neg cs', if_neg cs', sA_n (fun q => cs q.1)]
      obtain ⟨Z, z1, z2, z3, z4⟩ := ih fuel (h + 1) V bc em lt e3 e4
      exact ⟨Z, z1, z2, z3, fun q => z4 (Or.inl (q.resolve_right (fun z => cs (by rw [z.1, z.2.1, cnB_00]))))⟩
theorem r_30 {F : Nat} {M : bz_Mm} {n nf nt nd nl now ns na s : Nat} (hF : 500 < F) (hI : IT M n nf nt nd nl now) (h77 : M 77 3 = na) (hS : ISu M ns) (hA : IAu M nf now na) (hs : s ≤ 7) : ∀ (m fuel h : Nat) (Y : bz_Mm) (bc : Int × Int), h + m = 2 ^ ns → m < fuel → bcO bc → SYr M Y n bc → ∃ Y', M_searches_L30 F fuel (s : Int) (h : Int) Y = some Y' ∧ SYr M Y' n (sI (ex_ M n nf nt nd ns now na) s m h bc) ∧ (∀ q, (q < 81 ∨ 222 < q) → Y' q = Y q) := by
  have ns7 := hS.1.2.2
  have p2 := p2_le ns7
  have sl := sl_b (i := ns) (by omega)
  intro m
  induction m with
  | zero =>
    intro fuel h Y bc e1 e2 e3 e4
    obtain ⟨fuel, rfl⟩ : ∃ j, fuel = j + 1 := ⟨fuel - 1, by omega⟩
    have eh : h = 2 ^ ns := by omega
    have e13 : Y 81 13 = ns := by rw [e4.1.2.2.1 13 (by decide)]; exact hS.1.2.1
    refine ⟨Y, ?_, e4, fun _ _ => rfl⟩
    rw [M_searches_L30, e13, sl, eh, if_neg (Int.lt_irrefl _)]
  | succ m ih =>
    intro fuel h Y bc e1 e2 e3 e4
    obtain ⟨fuel, rfl⟩ : ∃ j, fuel = j + 1 := ⟨fuel - 1, by omega⟩
    have e13 : Y 81 13 = ns := by rw [e4.1.2.2.1 13 (by decide)]; exact hS.1.2.1
    have hh : h < 2 ^ ns := by omega
    have c1 : (h : Int) < ((2 ^ ns : Nat) : Int) := by omega
    have h1 : (h : Int) + 1 = ((h + 1 : Nat) : Int) := by omega
    have h128 : h < 128 := by omega
    have cb : cnB h 7 0 ≤ 7 := cnB_le h 7 0
    have o' := sA_o (E := ex_ M n nf nt nd ns now na) (s := s) h128 e3
    have lt : m < fuel := by omega
    have em : h + 1 + m = 2 ^ ns := by omega
    have csI : (cnB h 7 0 : Int) = (s : Int) ↔ cnB h 7 0 = s := by omega
    have l1 : h ≤ 2147483647 := by omega
    have l2 : 2 ^ ns ≤ 2147483647 := by omega
    have l3 : cnB h 7 0 ≤ 2147483647 := by omega
    have l4 : s ≤ 2147483647 := by omega
    have w1 : w32 (h : Int) = h := w32_n l1
    have w2 : w32 ((2 ^ ns : Nat) : Int) = ((2 ^ ns : Nat) : Int) := w32_n l2
    have w3 : w32 (cnB h 7 0 : Int) = (cnB h 7 0 : Int) := w32_n l3
    have w4 : w32 (s : Int) = s := w32_n l4
    rw [M_searches_L30, e13, sl, w1, w2, if_pos c1, r_many hF h128, cl_s, w3, w4, sI, h1]
    by_cases cs : cnB h 7 0 = s
    · have cs' : (cnB h 7 0 : Int) = s := csI.mpr cs
      rw [if_pos cs']
      obtain ⟨s1, s2, s3⟩ := e4
      obtain ⟨e, V', Y', x1, x2, x3, x4, x5, x6, x7, x8, x9, ⟨X, xX⟩, xE⟩ := ex_both (V := M) (Y := Y) hF hI (FR.r hI.2.2.1.2.2.1) s1 h77 hS hA hh
      rw [x2, cl2_s]
      rw [b2i_w]
      cases e
      · rw [show b2i false = 0 from rfl, if_pos rfl]
        rw [sA_n (fun q => by obtain ⟨_, X', q1, q2⟩ := q; exact absurd ((xE X' q1).mpr q2) (by decide))]
        obtain ⟨Z, z1, z2, z3⟩ := ih fuel (h + 1) Y' bc em lt e3 ⟨x4, by rw [x8 70 (by decide)]; exact s2, by rw [x8 71 (by decide)]; exact s3⟩
        exact ⟨Z, z1, z2, fun q hq => by rw [z3 q hq]; exact x9 q hq⟩
      · rw [show b2i true = 1 from rfl, if_neg (by decide)]
        have hE : ex_ M n nf nt nd ns now na h := ⟨X, xX, (xE X xX).mp rfl⟩
        rw [sA_y cs hE] at o' ⊢
        have y5 : Y' 81 70 = bc.1 := by rw [x8 70 (by decide)]; exact s2
        have y6 : Y' 81 71 = bc.2 + 1 := by rw [x8 71 (by decide)]; exact s3
        obtain ⟨Z0, iv, zq, z8, z70, z71⟩ : ∃ Z0 : bz_Mm, (if w32 (Y' 81 70) = (-1) then (wf_ Y' 81 70 (h : Int) fun m7 => some (m7)) else (some (Y'))) = some Z0 ∧ (∀ q, q ≠ 81 → Z0 q = Y' q) ∧ (∀ j, j < 70 → Z0 81 j = Y' 81 j) ∧ Z0 81 70 = (if bc.1 = -1 then (h : Int) else bc.1) ∧ Z0 81 71 = bc.2 + 1 := by
          rw [y5, w32_id (x := bc.1) (Int.le_trans (by decide) e3.1.1) (Int.le_of_lt (Int.lt_trans e3.1.2 (by decide)))]
          by_cases d : bc.1 = -1
          · rw [if_pos d, if_pos d, wf_s]; exact ⟨_, rfl, fun q hq => by rw [st_ne hq], fun j hj => by rw [st_eq, ud_ne (by omega)], by rw [st_eq, ud_eq], by rw [st_eq, ud_ne (by decide)]; exact y6⟩
          · rw [if_neg d, if_neg d]; exact ⟨_, rfl, fun _ _ => rfl, fun _ _ => rfl, y5, y6⟩
        rw [iv, cl1_s, wf_s]
        obtain ⟨Z, z1, z2, z3⟩ := ih fuel (h + 1) (st_ Z0 81 71 (Z0 81 71 + 1)) _ em lt o' ⟨x4.k81 (fun q hq => by rw [st_ne hq]; exact zq q hq) (fun j hj => by rw [st_eq, ud_ne (by omega)]; exact z8 j hj), by rw [st_eq, ud_ne (by decide)]; exact z70, by rw [st_eq, ud_eq, z71]⟩
        exact ⟨Z, z1, z2, fun q hq => by rw [z3 q hq, st_ne (by omega), zq q (by omega)]; exact x9 q hq⟩
    · have cs' : ¬ (cnB h 7 0 : Int) = s := fun q => cs (csI.mp q)
      rw [if_neg cs', sA_n (fun q => cs q.1)]
      exact ih fuel (h + 1) Y bc em lt e3 e4
theorem u_43 {F : Nat} {M : bz_Mm} {n nf nt nd nl now ns na : Nat} (hF : 500 < F) (hI : IT M n nf nt nd nl now) (h77 : M 77 3 = na) (hS : ISu M ns) (hA : IAu M nf now na) : ∀ (m fuel s : Nat) (V : bz_Mm) (bc : Int × Int), s + m = ns + 1 → m < fuel → bcO bc → SV M V n nd now bc → ∃ V', UA_search_L43 F fuel (ns : Int) (s : Int) V = some V' ∧ UA_search_L43a F fuel (ns : Int) (s : Int) V = some V' ∧ SV M V' n nd now (sO (ex_ M n nf nt nd ns now na) (2 ^ ns) m s bc) ∧ ((V 53 17 = -1 ∨ (s = 0 ∧ bc.1 = -1 ∧ 0 < m)) → V' 53 17 = -1) := by
  have ns7 := hS.1.2.2
  have p2 := p2_le ns7
  intro m
  induction m with
  | zero =>
    intro fuel s V bc e1 e2 e3 e4
    obtain ⟨fuel, rfl⟩ : ∃ j, fuel = j + 1 := ⟨fuel - 1, by omega⟩
    refine ⟨V, ?_, ?_, e4, fun q => q.resolve_right (fun z => Nat.lt_irrefl 0 z.2.2)⟩
    · rw [UA_search_L43, w32_n (show ns ≤ 2147483647 by omega), w32_n (show s ≤ 2147483647 by omega), if_pos (by omega)]
    · rw [UA_search_L43a, w32_n (show ns ≤ 2147483647 by omega), w32_n (show s ≤ 2147483647 by omega), if_pos (by omega)]
  | succ m ih =>
    intro fuel s V bc e1 e2 e3 e4
    obtain ⟨fuel, rfl⟩ : ∃ j, fuel = j + 1 := ⟨fuel - 1, by omega⟩
    have h1 : (s : Int) + 1 = ((s + 1 : Nat) : Int) := by omega
    have nl : ¬ (ns : Int) < (s : Int) := by omega
    have l1 : ns ≤ 2147483647 := by omega
    have l2 : s ≤ 2147483647 := by omega
    have s7 : s ≤ 7 := by omega
    have pe : 0 + 2 ^ ns = 2 ^ ns := by omega
    have pF : 2 ^ ns < F := by omega
    have em : s + 1 + m = ns + 1 := by omega
    have lt : m < fuel := by omega
    have p0 : 0 + 2 ^ ns ≤ 128 := by omega
    have v5 : w32 (V 77 5) = bc.1 := by rw [e4.2.2.1.1]; exact w32_id (x := bc.1) (by have := e3.1; omega) (by have := e3.1; omega)
    rw [UA_search_L43, UA_search_L43a, w32_n l1, w32_n l2, if_neg nl, if_neg nl, v5, sO, h1]
    by_cases c : bc.1 = -1
    · rw [if_pos c, if_pos c, if_pos c]
      obtain ⟨V', x1, x2, x3, x4⟩ := u_60 hF hI h77 hS hA s7 (2 ^ ns) F 0 V bc pe pF e3 e4
      rw [show ((0 : Nat) : Int) = 0 from rfl] at x1 x2
      rw [x1, x2, cl1_s, cl1_s]
      obtain ⟨Z, z1, z2, z3, z4⟩ := ih fuel (s + 1) V' _ em lt (sI_o _ 0 bc p0 e3) x3
      exact ⟨Z, z1, z2, z3, fun q => z4 (Or.inl (x4 (q.imp id (fun z => ⟨rfl, z.1, Nat.two_pow_pos ns⟩))))⟩
    · rw [if_neg c, if_neg c, if_neg c]; exact ⟨V, rfl, rfl, e4, fun q => q.resolve_right (fun z => c z.2.1)⟩
theorem r_12 {F : Nat} {M : bz_Mm} {n nf nt nd nl now ns na : Nat} (hF : 500 < F) (hI : IT M n nf nt nd nl now) (h77 : M 77 3 = na) (hS : ISu M ns) (hA : IAu M nf now na) : ∀ (m fuel s : Nat) (Y : bz_Mm) (bc : Int × Int), s + m = ns + 1 → m < fuel → bcO bc → SYr M Y n bc → ∃ Y', M_searches_L12 F fuel (s : Int) Y = some Y' ∧ SYr M Y' n (sO (ex_ M n nf nt nd ns now na) (2 ^ ns) m s bc) ∧ (∀ q, (q < 81 ∨ 222 < q) → Y' q = Y q) := by
  have ns7 := hS.1.2.2
  have p2 := p2_le ns7
  intro m
  induction m with
  | zero =>
    intro fuel s Y bc e1 e2 e3 e4
    obtain ⟨fuel, rfl⟩ : ∃ j, fuel = j + 1 := ⟨fuel - 1, by omega⟩
    have e13 : Y 81 13 = ns := by rw [e4.1.2.2.1 13 (by decide)]; exact hS.1.2.1
    refine ⟨Y, ?_, e4, fun _ _ => rfl⟩
    rw [M_searches_L12, e13, w32_n (show ns ≤ 2147483647 by omega), w32_n (show s ≤ 2147483647 by omega), if_pos (by omega)]
  | succ m ih =>
    intro fuel s Y bc e1 e2 e3 e4
    obtain ⟨fuel, rfl⟩ : ∃ j, fuel = j + 1 := ⟨fuel - 1, by omega⟩
    have e13 : Y 81 13 = ns := by rw [e4.1.2.2.1 13 (by decide)]; exact hS.1.2.1
    have h1 : (s : Int) + 1 = ((s + 1 : Nat) : Int) := by omega
    have nl : ¬ (ns : Int) < (s : Int) := by omega
    have l1 : ns ≤ 2147483647 := by omega
    have l2 : s ≤ 2147483647 := by omega
    have s7 : s ≤ 7 := by omega
    have pe : 0 + 2 ^ ns = 2 ^ ns := by omega
    have pF : 2 ^ ns < F := by omega
    have em : s + 1 + m = ns + 1 := by omega
    have lt : m < fuel := by omega
    have p0 : 0 + 2 ^ ns ≤ 128 := by omega
    have v5 : w32 (Y 81 70) = bc.1 := by rw [e4.2.1]; exact w32_id (x := bc.1) (by have := e3.1; omega) (by have := e3.1; omega)
    rw [M_searches_L12, e13, w32_n l1, w32_n l2, if_neg nl, v5, sO, h1]
    by_cases c : bc.1 = -1
    · rw [if_pos c, if_pos c]
      obtain ⟨Y', x1, x2, x3⟩ := r_30 hF hI h77 hS hA s7 (2 ^ ns) F 0 Y bc pe pF e3 e4
      rw [show ((0 : Nat) : Int) = 0 from rfl] at x1
      rw [x1, cl1_s]
      obtain ⟨Z, z1, z2, z3⟩ := ih fuel (s + 1) Y' _ em lt (sI_o _ 0 bc p0 e3) x2
      exact ⟨Z, z1, z2, fun q hq => by rw [z3 q hq]; exact x3 q hq⟩
    · rw [if_neg c, if_neg c]; exact ⟨Y, rfl, e4, fun _ _ => rfl⟩
