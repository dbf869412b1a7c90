/-! new T[n][m][k] -/
def m3_o (c : ClassId) (N w h0 i : Nat) : Cell := arrV c N (fun j => if j < i then .ref (h0 + 1 + j * w) else .null)
theorem m3_oz (c : ClassId) (N w h0 : Nat) : ({ cls := c, slots := Array.replicate N .null, vm := .none } : Cell) = m3_o c N w h0 0 := by
  rw [arrV_new]
  exact congrArg (arrV c N) (funext fun j => by simp)
theorem m3_os (c : ClassId) (N w h0 i : Nat) : (m3_o c N w h0 i).setSlot i (.ref (h0 + 1 + i * w)) = m3_o c N w h0 (i + 1) := by
  unfold m3_o
  rw [arrV_store]
  refine congrArg (arrV c N) (funext fun j => ?_)
  by_cases e : j = i
  · subst e
    simp [updV]
  · by_cases h : j < i
    · simp [updV, e, h, Nat.lt_succ_of_lt h]
    · simp [updV, e, h, show ¬ j < i + 1 by omega]
theorem m3_ofacts (c : ClassId) (N w h0 i : Nat) : (m3_o c N w h0 i).cls = c ∧ (m3_o c N w h0 i).vm = .none ∧ (m3_o c N w h0 i).slots.size = N := ⟨rfl, rfl, by simp [m3_o, arrV]⟩
def m3_f (s : State) (c c1 c2 : ClassId) (N M P : Nat) (dv : Value) : Nat → State
  | 0 => s.pushCell (m3_o c N (M + 1) s.heap.size 0)
  | i + 1 => (Jvm.Free.Multi.fill (m3_f s c c1 c2 N M P dv i) c1 c2 M P dv M).setCell s.heap.size (m3_o c N (M + 1) s.heap.size (i + 1))
theorem m3_sz (U : State) (a : Addr) (x : Cell) : (U.setCell a x).slotsUsed = U.slotsUsed := rfl
theorem m3_facts (s : State) (c c1 c2 : ClassId) (N M P : Nat) (dv : Value) : ∀ i, (m3_f s c c1 c2 N M P dv i).heap.size = s.heap.size + 1 + i * (M + 1) ∧ (m3_f s c c1 c2 N M P dv i).heap[s.heap.size]? = some (m3_o c N (M + 1) s.heap.size i) ∧
    (m3_f s c c1 c2 N M P dv i).vm = s.vm ∧ (m3_f s c c1 c2 N M P dv i).slotsUsed = s.slotsUsed + N + i * (M + M * P)
  | 0 => ⟨by simp [m3_f], by simp [m3_f], rfl, by simp [m3_f, (m3_ofacts c N (M + 1) s.heap.size 0).2.2]⟩
  | i + 1 => by
    obtain ⟨a, b, d, u⟩ := m3_facts s c c1 c2 N M P dv i
    obtain ⟨f1, f2, f3, f4⟩ := Jvm.Free.Multi.fill_facts (m3_f s c c1 c2 N M P dv i) c1 c2 M P dv M
    have hold := Jvm.Free.Multi.fill_old (m3_f s c c1 c2 N M P dv i) c1 c2 M P dv (a := s.heap.size) (by show s.heap.size < _; rw [a]; omega) M
    rw [b] at hold
    refine ⟨?_, State.heap_setCell_self hold, by show (Jvm.Free.Multi.fill _ c1 c2 M P dv M).vm = _; rw [f3, d], ?_⟩
    · show ((Jvm.Free.Multi.fill (m3_f s c c1 c2 N M P dv i) c1 c2 M P dv M).setCell s.heap.size _).heap.size = _
      rw [size_setCell, f1, a, Nat.succ_mul]
      omega
    · show (Jvm.Free.Multi.fill (m3_f s c c1 c2 N M P dv i) c1 c2 M P dv M).slotsUsed = _
      rw [f4, u, Nat.succ_mul]
      omega
theorem m3_setTop (s : State) (f : JFrame) (c c1 c2 : ClassId) (N M P : Nat) (dv : Value) : ∀ i, m3_f (s.setTop f) c c1 c2 N M P dv i = (m3_f s c c1 c2 N M P dv i).setTop f
  | 0 => rfl
  | i + 1 => by
    show (Jvm.Free.Multi.fill (m3_f (s.setTop f) c c1 c2 N M P dv i) c1 c2 M P dv M).setCell (s.setTop f).heap.size _ = _
    rw [m3_setTop s f c c1 c2 N M P dv i, Jvm.Free.Multi.fill_setTop]
    rfl
theorem m3_old (s : State) (c c1 c2 : ClassId) (N M P : Nat) (dv : Value) {a : Addr} (ha : a < s.heap.size) : ∀ i, (m3_f s c c1 c2 N M P dv i).heap[a]? = s.heap[a]?
  | 0 => State.heap_pushCell_of_lt _ _ ha
  | i + 1 => by
    have f1 := (m3_facts s c c1 c2 N M P dv i).1
    show ((Jvm.Free.Multi.fill (m3_f s c c1 c2 N M P dv i) c1 c2 M P dv M).setCell s.heap.size _).heap[a]? = _
    rw [State.heap_setCell_other (Nat.ne_of_gt ha), Jvm.Free.Multi.fill_old (m3_f s c c1 c2 N M P dv i) c1 c2 M P dv (a := a) (Nat.lt_of_lt_of_le ha (by rw [f1]; omega)) M]
    exact m3_old s c c1 c2 N M P dv ha i
theorem m3_mid (s : State) (c c1 c2 : ClassId) (N M P : Nat) (dv : Value) : ∀ i q, q < i → (m3_f s c c1 c2 N M P dv i).heap[s.heap.size + 1 + q * (M + 1)]? = some (Jvm.Free.Multi.outerC c1 M (s.heap.size + 1 + q * (M + 1)) M) ∧ ∀ j, j < M → (m3_f s c c1 c2 N M P dv i).heap[s.heap.size + 1 + q * (M + 1) + 1 + j]? = some (Jvm.Free.Multi.innerC c2 P dv)
  | 0, _, h => absurd h (Nat.not_lt_zero _)
  | i + 1, q, h => by
    obtain ⟨a, b, d, u⟩ := m3_facts s c c1 c2 N M P dv i
    have go : ∀ x, x ≠ s.heap.size → (m3_f s c c1 c2 N M P dv (i + 1)).heap[x]? = (Jvm.Free.Multi.fill (m3_f s c c1 c2 N M P dv i) c1 c2 M P dv M).heap[x]? := fun x hx => State.heap_setCell_other (Ne.symm hx)
    rcases Nat.lt_or_ge q i with hq | hq
    · obtain ⟨p1, p2⟩ := m3_mid s c c1 c2 N M P dv i q hq
      have hm : q * (M + 1) + (M + 1) ≤ i * (M + 1) := by
        have := Nat.mul_le_mul_right (M + 1) (show q + 1 ≤ i from hq)
        rw [Nat.succ_mul] at this; exact this
      refine ⟨?_, fun j hj => ?_⟩
      · rw [go _ (by omega), Jvm.Free.Multi.fill_old _ c1 c2 M P dv (a := s.heap.size + 1 + q * (M + 1)) (by show s.heap.size + 1 + q * (M + 1) < _; rw [a]; omega) M]; exact p1
      · rw [go _ (by omega), Jvm.Free.Multi.fill_old _ c1 c2 M P dv (a := s.heap.size + 1 + q * (M + 1) + 1 + j) (by show s.heap.size + 1 + q * (M + 1) + 1 + j < _; rw [a]; omega) M]; exact p2 j hj
    · have e : q = i := by omega
      subst e
      obtain ⟨f1, f2, f3, f4⟩ := Jvm.Free.Multi.fill_facts (m3_f s c c1 c2 N M P dv q) c1 c2 M P dv M
      have f5 := Jvm.Free.Multi.fill_inner (m3_f s c c1 c2 N M P dv q) c1 c2 M P dv M
      rw [a] at f2 f5
      refine ⟨?_, fun j hj => ?_⟩
      · rw [go _ (by omega)]; exact f2
      · rw [go _ (by omega)]; exact f5 j hj
section
variable {E : CtlPost} {e : Env} {d : Bool} {acts : List Action} {s : State}
theorem m3_wp {c c1 c2 cc : ClassId} {k k1 k2 : Class} {t0 t1 type : FieldType} {n m q : Int32} (hk : s.vm.classes[c]? = some k) (hkind : k.kind = .array c1 t0) (href : t0.isReference = true)
    (hk1 : s.vm.classes[c1]? = some k1) (hkind1 : k1.kind = .array c2 t1) (href1 : t1.isReference = true) (hk2 : s.vm.classes[c2]? = some k2) (hkind2 : k2.kind = .array cc type) (hn : ¬ n < 0) (hm : ¬ m < 0) (hq0 : ¬ q < 0)
    (hl1 : ¬ n.toNatClampNeg > e.platform.arrayLengthLimit) (hh1 : ¬ n.toNatClampNeg * componentBytes t0 > e.platform.maxHeapBytes)
    (hl2 : ¬ m.toNatClampNeg > e.platform.arrayLengthLimit) (hh2 : ¬ m.toNatClampNeg * componentBytes t1 > e.platform.maxHeapBytes)
    (hl3 : ¬ q.toNatClampNeg > e.platform.arrayLengthLimit) (hh3 : ¬ q.toNatClampNeg * componentBytes type > e.platform.maxHeapBytes)
    (hdf : fits type (defaultValue type) = true) (hdd : (defaultValue type).isDefault = true)
    (hc : s.heap.size + 1 + n.toNatClampNeg * (m.toNatClampNeg + 1) ≤ e.platform.maxCells) (hs : s.slotsUsed + n.toNatClampNeg + n.toNatClampNeg * (m.toNatClampNeg + m.toNatClampNeg * q.toNatClampNeg) ≤ e.platform.maxSlots)
    {Q : Addr → Pre} (hq : ∀ d' acts', Q s.heap.size d' acts' (m3_f s c c1 c2 n.toNatClampNeg m.toNatClampNeg q.toNatClampNeg (defaultValue type) n.toNatClampNeg)) :
    wp (multianewarray.make c [n, m, q]) Q E e d acts s := by
  have hfind : ([m, q].find? (· < 0)) = none := by simp [hm, hq0]
  rw [multianewarray.make]
  simp only [wp_bind', W.ite, hn, if_false, wp_pure', W.theClass, hk, hkind, Option.some.injEq, exists_eq_left']
  refine Jvm.Free.Multi.wp_newArray hk hkind hl1 hh1 (Jvm.Free.Multi.refFits href _ (Or.inl rfl)) rfl (by omega) (by omega) ?_
  simp only [hfind]
  rw [ite_self, wp_bind', Std.Legacy.Range.forIn_eq_forIn_range']
  have hsz : ([:n.toNatClampNeg] : Std.Legacy.Range).size = n.toNatClampNeg := by simp [Std.Legacy.Range.size]
  rw [hsz, m3_oz c n.toNatClampNeg (m.toNatClampNeg + 1) s.heap.size]
  show wp (forIn (List.range' 0 n.toNatClampNeg 1) PUnit.unit _) _ E e d acts _
  refine wp_forIn_inv (fun rest s' => ∃ i, i ≤ n.toNatClampNeg ∧ rest = List.range' i (n.toNatClampNeg - i) ∧ s' = m3_f s c c1 c2 n.toNatClampNeg m.toNatClampNeg q.toNatClampNeg (defaultValue type) i) _ _ ⟨0, Nat.zero_le _, rfl, rfl⟩ ?_ ?_
  · rintro x rest s' d' acts' Q' ⟨i, hi, hl, rfl⟩ hnext
    have hlt : i < n.toNatClampNeg := by
      rcases Nat.lt_or_ge i n.toNatClampNeg with h | h
      · exact h
      · rw [show n.toNatClampNeg - i = 0 from by omega] at hl; simp at hl
    obtain ⟨rfl, hrest⟩ : x = i ∧ rest = List.range' (i + 1) (n.toNatClampNeg - (i + 1)) := by
      rw [show n.toNatClampNeg - i = (n.toNatClampNeg - (i + 1)) + 1 from by omega, List.range'_succ] at hl
      exact ⟨(List.cons.inj hl).1, (List.cons.inj hl).2⟩
    obtain ⟨f1, f2, f3, f4⟩ := m3_facts s c c1 c2 n.toNatClampNeg m.toNatClampNeg q.toNatClampNeg (defaultValue type) x
    obtain ⟨o1, o2, o3⟩ := m3_ofacts c n.toNatClampNeg (m.toNatClampNeg + 1) s.heap.size x
    have hmul1 : x * (m.toNatClampNeg + 1) + (m.toNatClampNeg + 1) ≤ n.toNatClampNeg * (m.toNatClampNeg + 1) := by
      have := Nat.mul_le_mul_right (m.toNatClampNeg + 1) (show x + 1 ≤ n.toNatClampNeg from hlt)
      rw [Nat.succ_mul] at this; exact this
    have hmul2 : x * (m.toNatClampNeg + m.toNatClampNeg * q.toNatClampNeg) + (m.toNatClampNeg + m.toNatClampNeg * q.toNatClampNeg) ≤ n.toNatClampNeg * (m.toNatClampNeg + m.toNatClampNeg * q.toNatClampNeg) := by
      have := Nat.mul_le_mul_right (m.toNatClampNeg + m.toNatClampNeg * q.toNatClampNeg) (show x + 1 ≤ n.toNatClampNeg from hlt)
      rw [Nat.succ_mul] at this; exact this
    simp only [wp_bind']
    refine Jvm.Free.Multi.wp_make2 (k := k1) (kc := k2) (comp := c2) (cc := cc) (t0 := t1) (type := type) (by rw [f3]; exact hk1) hkind1 href1 (by rw [f3]; exact hk2) hkind2 hm hq0 hl2 hh2 hl3 hh3 hdf hdd (by rw [f1]; omega) (by rw [f4]; omega) (fun d2 acts2 => ?_)
    have hlt0 : s.heap.size < (m3_f s c c1 c2 n.toNatClampNeg m.toNatClampNeg q.toNatClampNeg (defaultValue type) x).heap.size := by rw [f1]; omega
    have hold := Jvm.Free.Multi.fill_old (m3_f s c c1 c2 n.toNatClampNeg m.toNatClampNeg q.toNatClampNeg (defaultValue type) x) c1 c2 m.toNatClampNeg q.toNatClampNeg (defaultValue type) hlt0 m.toNatClampNeg
    have f3b := (Jvm.Free.Multi.fill_facts (m3_f s c c1 c2 n.toNatClampNeg m.toNatClampNeg q.toNatClampNeg (defaultValue type) x) c1 c2 m.toNatClampNeg q.toNatClampNeg (defaultValue type) m.toNatClampNeg).2.2.1
    simp only [wp_bind', W.writeLoc, wp_pure']
    refine ⟨m3_o c n.toNatClampNeg (m.toNatClampNeg + 1) s.heap.size x, by rw [hold]; exact f2, by rw [o2]; simp, by rw [o3]; exact hlt, ?_, hnext _ _ _ ⟨x + 1, hlt, hrest, ?_⟩⟩
    · rw [o1, o2]
      simp [State.fitsSlot, State.slotType?, f3b, f3, hk, hkind, Jvm.Free.Multi.refFits href _ (Or.inr ⟨_, rfl⟩)]
    · rw [f1, m3_os]; rfl
  · rintro s' d' acts' ⟨i, hi, hl, rfl⟩
    have hiN : i = n.toNatClampNeg := by
      rcases Nat.lt_or_ge i n.toNatClampNeg with h | h
      · rw [show n.toNatClampNeg - i = (n.toNatClampNeg - (i + 1)) + 1 from by omega, List.range'_succ] at hl; cases hl
      · omega
    subst hiN
    simp only [wp_pure']
    exact hq _ _
end

section
variable {p : Program} {l : Launch} {e : Env} {R : Room} {s : State} {m : MethodId} {args : Array Value} {below : List Frame} {meth : Method} {c : Code} {T : State} {locs : List Loc} {cells slots : Nat}
theorem m3_stand (X : Stand p l e R s m args below meth c T locs cells slots) (cO c1 c2 : ClassId) (N M P : Nat) (dv : Value) :
    ∀ i, ∃ L, (∀ x ∈ L, T.heap.size ≤ x.base) ∧ Stand p l e R s m args below meth c (m3_f T cO c1 c2 N M P dv i) (locs ++ L) (cells + 1 + i * (M + 1)) (slots + N + i * (M + M * P))
  | 0 => by
    have h := X.pushed (m3_o cO N (M + 1) T.heap.size 0)
    rw [(m3_ofacts cO N (M + 1) T.heap.size 0).2.2] at h
    refine ⟨[], (fun x hx => by cases hx), ?_⟩
    simpa [m3_f] using h
  | i + 1 => by
    obtain ⟨L, hL, Xi⟩ := m3_stand X cO c1 c2 N M P dv i
    obtain ⟨f1, f2, f3, f4⟩ := m3_facts T cO c1 c2 N M P dv i
    have h2 := Xi.filled c1 c2 M P dv M
    have hold := Jvm.Free.Multi.fill_old (m3_f T cO c1 c2 N M P dv i) c1 c2 M P dv (a := T.heap.size) (by show T.heap.size < _; rw [f1]; omega) M
    rw [f2] at hold
    have h3 := h2.stored hold i (.ref (T.heap.size + 1 + i * (M + 1)))
    rw [m3_os] at h3
    have e3 : cells + 1 + (i + 1) * (M + 1) = cells + 1 + i * (M + 1) + 1 + M := by rw [Nat.succ_mul]; omega
    have e4 : slots + N + (i + 1) * (M + M * P) = slots + N + i * (M + M * P) + M + M * P := by rw [Nat.succ_mul]; omega
    rw [e3, e4]
    refine ⟨L ++ ((List.range M).map fun j => ⟨(m3_f T cO c1 c2 N M P dv i).heap.size, j⟩) ++ [⟨T.heap.size, i⟩], fun x hx => ?_, ?_⟩
    · rcases List.mem_append.mp hx with h | h
      · rcases List.mem_append.mp h with h | h
        · exact hL x h
        · obtain ⟨j, -, rfl⟩ := List.mem_map.mp h
          show T.heap.size ≤ (m3_f T cO c1 c2 N M P dv i).heap.size
          rw [f1]; omega
      · rw [List.mem_singleton.mp h]; exact Nat.le_refl _
    · have e5 : locs ++ (L ++ ((List.range M).map fun j => (⟨(m3_f T cO c1 c2 N M P dv i).heap.size, j⟩ : Loc)) ++ [⟨T.heap.size, i⟩]) = locs ++ L ++ ((List.range M).map fun j => (⟨(m3_f T cO c1 c2 N M P dv i).heap.size, j⟩ : Loc)) ++ [⟨T.heap.size, i⟩] := by simp [List.append_assoc]
      rw [e5]
      exact h3
theorem m3_row (X : Stand p l e R s m args below meth c T locs cells slots) (hexec : p.tables.exec = Jvm.exec) {own : String} {index : Nat} {ty : FieldType}
    (hown : s.vm.findClass own = some m.cls) (hclink : (Cond.classLink own index ("[" ++ (FieldType.array (.array ty)).toString)).before args s = true)
    (hov2 : (Cond.arrayOver (.array (.array ty))).before args s = true) (hover : (Cond.arrayOver (.array ty)).before args s = true) (harr : (Cond.arrayClass ty).before args s = true)
    {g : JFrame} (hg : g.method = m) (hdg : decode c.code g.pc = .ok (.multianewarray index 3, 4)) {n k q : Int32} {rest : List Value} (hstack : g.stack = .int q :: .int k :: .int n :: rest)
    (hn : ¬ n < 0) (hk : ¬ k < 0) (hq : ¬ q < 0) (hb1 : n.toNatClampNeg * 4 ≤ 536870912) (hb2 : k.toNatClampNeg * 4 ≤ 536870912) (hb3 : q.toNatClampNeg * componentBytes ty ≤ 536870912) (hb4 : q.toNatClampNeg ≤ 536870912)
    (hdf : fits ty (defaultValue ty) = true) (hdd : (defaultValue ty).isDefault = true)
    (hcells : cells + (1 + n.toNatClampNeg * (k.toNatClampNeg + 1)) ≤ R.cells) (hslots : slots + (n.toNatClampNeg + n.toNatClampNeg * (k.toNatClampNeg + k.toNatClampNeg * q.toNatClampNeg)) ≤ R.slots) :
    ∃ (vm₁ : Vm) (cO c1 c2 : ClassId), s.vm.findClass ("[" ++ (FieldType.array (.array ty)).toString) = some cO ∧ s.vm.findClass (FieldType.array (.array ty)).toString = some c1 ∧ s.vm.findClass (FieldType.array ty).toString = some c2 ∧
      Stand p l e R s m args below meth c (m3_f (T.setVm vm₁) cO c1 c2 n.toNatClampNeg k.toNatClampNeg q.toNatClampNeg (defaultValue ty) n.toNatClampNeg) locs (cells + 1 + n.toNatClampNeg * (k.toNatClampNeg + 1)) (slots + n.toNatClampNeg + n.toNatClampNeg * (k.toNatClampNeg + k.toNatClampNeg * q.toNatClampNeg)) ∧
      ∀ target, Steps p.tables e below ((m3_f (T.setVm vm₁) cO c1 c2 n.toNatClampNeg k.toNatClampNeg q.toNatClampNeg (defaultValue ty) n.toNatClampNeg).setTop { g with pc := g.pc + 4, stack := .ref T.heap.size :: rest }) target →
        Steps p.tables e below (T.setTop g) target := by
  subst hg
  have hpl : e.platform.magicAccessors = ({} : Platform).magicAccessors := by rw [X.admits.platform]
  obtain ⟨c1, cO, kO, hc1, hkO, hkindO, hnameO⟩ := Cond.arrayOver_specA hov2
  obtain ⟨c2, c1b, k1, hc2, hk1, hkind1, hname1⟩ := Cond.arrayOver_specA hover
  have e1 : c1b = c1 := Option.some.inj (hname1.symm.trans hc1)
  subst e1
  obtain ⟨c2b, k2, cc, hc2b, hk2, hkind2⟩ := Cond.arrayClass_spec harr
  have e2 : c2b = c2 := Option.some.inj (hc2b.symm.trans hc2)
  subst e2
  obtain ⟨c0, hfc0, hcl⟩ := Cond.classLink_spec hown hclink e.platform hpl
  cases hnameO.symm.trans hfc0
  obtain ⟨hg₁, hwarm₁, hready₁⟩ := State.classEntry (e := e) X.warmed hcl
  generalize T.vm.noted g.method.cls index (.cls cO) = vm₁ at hg₁ hwarm₁ hready₁
  have hal : s.vm.Alike vm₁ := hwarm₁.alike
  obtain ⟨kO₁, hkO₁, heO⟩ := hal.2.2 _ _ hkO
  obtain ⟨k1₁, hk1₁, he1⟩ := hal.2.2 _ _ hk1
  obtain ⟨k2₁, hk2₁, he2⟩ := hal.2.2 _ _ hk2
  have X₁ := X.noted hwarm₁
  obtain ⟨hr1, hr2⟩ := X.roomAbove hcells hslots
  obtain ⟨L, hL, XL⟩ := m3_stand X₁ cO c1b c2b n.toNatClampNeg k.toNatClampNeg q.toNatClampNeg (defaultValue ty) n.toNatClampNeg
  refine ⟨vm₁, cO, c1b, c2b, hnameO, hc1, hc2, XL.dropFresh (fun x hx => Nat.le_trans X.heapGrown (hL x hx)), fun target hrest => ?_⟩
  have hl1 : ¬ n.toNatClampNeg > e.platform.arrayLengthLimit := by rw [Launch.admits_arrayLengthLimit X.admits]; omega
  have hh1 : ¬ n.toNatClampNeg * componentBytes (.array (.array ty)) > e.platform.maxHeapBytes := by
    rw [Launch.admits_maxHeapBytes X.admits]; show ¬ n.toNatClampNeg * 4 > 536870912; omega
  have hl2 : ¬ k.toNatClampNeg > e.platform.arrayLengthLimit := by rw [Launch.admits_arrayLengthLimit X.admits]; omega
  have hh2 : ¬ k.toNatClampNeg * componentBytes (.array ty) > e.platform.maxHeapBytes := by
    rw [Launch.admits_maxHeapBytes X.admits]; show ¬ k.toNatClampNeg * 4 > 536870912; omega
  have hl3 : ¬ q.toNatClampNeg > e.platform.arrayLengthLimit := by rw [Launch.admits_arrayLengthLimit X.admits]; omega
  have hh3 : ¬ q.toNatClampNeg * componentBytes ty > e.platform.maxHeapBytes := by rw [Launch.admits_maxHeapBytes X.admits]; omega
  jvm_step X.here [hexec, hdg]
  simp only [multianewarray.sem, wp_bind', W.resolveClassAt_links (State.method?_setTop g X.here.top) hg₁]
  rw [W.popN, if_neg (by decide)]
  refine ⟨g, State.topJava?_setTop' (s := T.setVm vm₁) g X.here.top, [.int n, .int k, .int q], rest, rfl, hstack, ?_⟩
  simp only [List.mapM_cons, List.mapM_nil, wp_bind', wp_pure']
  refine m3_wp (k := kO₁) (k1 := k1₁) (k2 := k2₁) (c1 := c1b) (c2 := c2b) (cc := cc) (t0 := .array (.array ty)) (t1 := .array ty) (type := ty) hkO₁ (by rw [heO]; exact hkindO) rfl hk1₁ (by rw [he1]; exact hkind1) rfl hk2₁ (by rw [he2]; exact hkind2) hn hk hq hl1 hh1 hl2 hh2 hl3 hh3 hdf hdd (by show T.heap.size + 1 + _ ≤ _; omega) (by show T.slotsUsed + _ + _ ≤ _; omega) (fun d' acts' => ?_)
  have eS : ((T.setTop g).setVm vm₁).setTop { g with stack := rest } = (T.setVm vm₁).setTop { g with stack := rest } := by
    show ((T.setVm vm₁).setTop g).setTop _ = _
    rw [State.setTop_setTop]
  rw [eS, m3_setTop]
  simp only [wp_bind', W.mark, W.pushRef, State.topJava?_setTop' _ XL.here.top, Option.some.injEq, exists_eq_left', State.setTop_setTop, State.heap_setTop]
  intro acts
  simp [jvm, XL.here.top]
  exact hrest
end
