/-! the store: memory by ids and places; machine values of whole numbers -/
abbrev bz_i (x : Int) : Value := .int (Int32.ofInt x)
abbrev bz_l (x : Int) : Value := .long (Int64.ofInt x)
def w32 (x : Int) : Int := x.bmod 4294967296
def w64 (x : Int) : Int := x.bmod 18446744073709551616
theorem w32_of (x : Int) : (Int32.ofInt x).toInt = w32 x := Int32.toInt_ofInt
theorem w64_of (x : Int) : (Int64.ofInt x).toInt = w64 x := Int64.toInt_ofInt
theorem w32_id {x : Int} (h1 : -2147483648 ≤ x) (h2 : x ≤ 2147483647) : w32 x = x := by
  unfold w32; rw [Int.bmod_eq_of_le] <;> omega
theorem w64_id {x : Int} (h1 : -9223372036854775808 ≤ x) (h2 : x ≤ 9223372036854775807) : w64 x = x := by
  unfold w64; rw [Int.bmod_eq_of_le] <;> omega
theorem w32_lit {x : Int} (h : decide (-2147483648 ≤ x ∧ x ≤ 2147483647) = true) : w32 x = x := by
  have h := of_decide_eq_true h; exact w32_id h.1 h.2
theorem w64_lit {x : Int} (h : decide (-9223372036854775808 ≤ x ∧ x ≤ 9223372036854775807) = true) : w64 x = x := by
  have h := of_decide_eq_true h; exact w64_id h.1 h.2
def bz_in2 (j : Int) (n : Nat) : Prop := 0 ≤ w32 j ∧ w32 j < n
theorem bz_vp {j : Int} {n : Nat} (h : 0 ≤ w32 j ∧ w32 j < n) : vp_in (Int32.ofInt j) n := vp_in_iff.mpr (by rw [w32_of]; exact h)
theorem bz_cl (j : Int) : (Int32.ofInt j).toNatClampNeg = (w32 j).toNat := by
  rw [← w32_of]; rfl
def ud (f : Nat → Int) (j : Nat) (v : Int) : Nat → Int := fun i => if i = j then v else f i
def st_ (M : bz_Mm) (a j : Nat) (v : Int) : bz_Mm := fun b => if b = a then ud (M a) j v else M b
def bz_val (ad : Nat → Nat) (kt : Nat × Nat) (x : Int) : Value := match kt.1 with
  | 1 => .long (Int64.ofInt x)
  | 4 => .ref (ad kt.2)
  | _ => .int (Int32.ofInt x)
def bz_arr (ad : Nat → Nat) (e b : Nat) (m : Nat → Int) : (Nat → Int32) ⊕ (Nat → Int64) ⊕ (Nat → UInt32) ⊕ (Nat → UInt64) ⊕ (Nat → Option Nat) := match e with
  | 0 => .inl (fun j => Int32.ofInt (m j))
  | 1 => .inr (.inl (fun j => Int64.ofInt (m j)))
  | 2 => .inl (fun j => Int32.ofInt (m j))
  | 3 => .inl (fun j => Int32.ofInt (m j))
  | _ => .inr (.inr (.inr (.inr (fun j => some (ad (b + j))))))
def bz_ent (ad : Nat → Nat) (cA : Nat → ClassId) (s : bz_Sh) (m : Nat → Int) : va_E := match s with
  | .inl (e, n, b) => .inl (cA e, n, bz_arr ad e b m)
  | .inr (ci, fs) => .inr (ci, fs.mapIdx (fun j kt => bz_val ad kt (m j)))
def bz_ws (ad : Nat → Nat) (cA : Nat → ClassId) (M : bz_Mm) : va_W := bz_shl.mapIdx (fun i s => (ad i, bz_ent ad cA s (M i)))
theorem bz_get {ad : Nat → Nat} {cA : Nat → ClassId} {M : bz_Mm} {a : Nat} {s : bz_Sh} (h : bz_shl[a]? = some s) : (bz_ws ad cA M)[a]? = some (ad a, bz_ent ad cA s (M a)) := by
  unfold bz_ws; rw [List.getElem?_mapIdx, h]; rfl
theorem bz_set {ad : Nat → Nat} {cA : Nat → ClassId} {M : bz_Mm} {a : Nat} {s : bz_Sh} (h : bz_shl[a]? = some s) (j : Nat) (v : Int) : (bz_ws ad cA M).set a (ad a, bz_ent ad cA s (ud (M a) j v)) = bz_ws ad cA (st_ M a j v) := by
  apply List.ext_getElem?
  intro i
  by_cases hi : i = a
  · subst hi
    have hl : i < (bz_ws ad cA M).length := (List.getElem?_eq_some_iff.mp (bz_get h)).1
    rw [List.getElem?_set_self hl, bz_get h]
    simp [st_]
  · rw [List.getElem?_set_ne (fun q => hi q.symm)]
    unfold bz_ws
    rw [List.getElem?_mapIdx, List.getElem?_mapIdx]
    simp [st_, hi]
/-- the addresses: apart, and of a kind -/
def bz_Ad (ad : Nat → Nat) (A : Nat → Prop) : Prop := (∀ i j, i < bz_shl.length → j < bz_shl.length → ad i = ad j → i = j) ∧ ∀ i, i < bz_shl.length → A (ad i)
theorem bz_Ad.D {ad : Nat → Nat} {A : Nat → Prop} (h : bz_Ad ad A) (cA : Nat → ClassId) (M : bz_Mm) : va_D A (bz_ws ad cA M) := by
  have key : ∀ k q, (bz_ws ad cA M)[k]? = some q → k < bz_shl.length ∧ q.1 = ad k := by
    intro k q hk
    unfold bz_ws at hk
    rw [List.getElem?_mapIdx] at hk
    cases hs : bz_shl[k]? with
    | none => rw [hs] at hk; cases hk
    | some s =>
      rw [hs] at hk
      refine ⟨(List.getElem?_eq_some_iff.mp hs).1, ?_⟩
      have := Option.some.inj hk
      rw [← this]
  refine ⟨fun i j p q hp hq e => ?_, fun k q hk => ?_⟩
  · obtain ⟨a1, a2⟩ := key i p hp
    obtain ⟨b1, b2⟩ := key j q hq
    exact h.1 i j a1 b1 (by rw [← a2, ← b2]; exact e)
  · obtain ⟨a1, a2⟩ := key k q hk
    rw [a2]; exact h.2 k a1
def bz_tys (cA : Nat → ClassId) : List (ClassId × FieldType) := [(cA 0, .int), (cA 1, .long), (cA 2, .boolean), (cA 3, .byte), (cA 4, .array .int), (cA 5, .array .long), (cA 6, .array (.array .int)), (cA 7, .object "java/lang/String")]
def bz_isN : Cond → Bool
  | .methodLinkNest _ _ _ _ => true
  | _ => false
def bz_NL : List Cond := tables_1.filter bz_isN
