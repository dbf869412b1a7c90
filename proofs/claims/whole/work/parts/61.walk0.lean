/-! the reference's walk, without failures: loops as iterations -/
def itr (g : bz_Mm → Nat → bz_Mm) : Nat → Nat → bz_Mm → bz_Mm
  | _, 0, M => M
  | i, m + 1, M => itr g (i + 1) m (g M i)
theorem itr_S (g : bz_Mm → Nat → bz_Mm) (i m : Nat) (M : bz_Mm) : itr g i (m + 1) M = itr g (i + 1) m (g M i) := rfl
/-- what the walk does not change, in its ranges -/
def RT (nl nt nd : Nat) (M : bz_Mm) : Prop := (0 ≤ M 81 19 ∧ M 81 19 ≤ 4) ∧ (M 81 27 = nt ∧ nt ≤ 120) ∧ (M 81 35 = nd ∧ nd ≤ 200) ∧ r32 (M 81 61) ∧ (∀ t, t < nt → r32 (M 97 t) ∧ (0 ≤ M 98 t ∧ M 98 t < 8) ∧ r32 (M 99 t) ∧ r32 (M 102 t)) ∧ (∀ i, i < nd → (0 ≤ M 103 i ∧ M 103 i < 20) ∧ r32 (M 104 i) ∧ r32 (M 105 i) ∧ r32 (M 106 i)) ∧ (∀ p, p < 8 → 0 ≤ M 92 p ∧ M 92 p < 3) ∧ iv_la M nl ∧ ∀ j, j < 260 → r32 (M 82 j)
theorem iv_la.c {M M' : bz_Mm} {n : Nat} (h : ∀ q, ((45 ≤ q ∧ q ≤ 47) ∨ (119 ≤ q ∧ q ≤ 148) ∨ q = 154 ∨ q = 155) → M' q = M q) (h43 : M' 81 43 = M 81 43) (hI : iv_la M n) : iv_la M' n := by
  obtain ⟨l1, l2, l3, l4, l5, l6, l7⟩ := hI
  refine ⟨by rw [h 45 (by omega)]; exact l1, by rw [h43]; exact l2, l3, ?_, ?_, ?_, ?_⟩
  · rw [h 46 (by omega), h 154 (by omega)]; exact l4
  · rw [h 155 (by omega)]; exact l5
  · intro l f w x y z
    rw [h _ (by omega)]; exact l6 l f w x y z
  · intro l f w x y z
    rw [h 47 (by omega), ru_c (h _ (by omega)) (h _ (by omega))]; exact l7 l f w x y z
theorem RT.c {nl nt nd : Nat} {M M' : bz_Mm} (hI : RT nl nt nd M) (h : ∀ q, q < 156 → q ≠ 107 → q ≠ 109 → M' q = M q) : RT nl nt nd M' := by
  unfold RT at hI ⊢
  rw [h 81 (by omega) (by omega) (by omega), h 97 (by omega) (by omega) (by omega), h 98 (by omega) (by omega) (by omega), h 99 (by omega) (by omega) (by omega), h 102 (by omega) (by omega) (by omega), h 103 (by omega) (by omega) (by omega), h 104 (by omega) (by omega) (by omega), h 105 (by omega) (by omega) (by omega), h 106 (by omega) (by omega) (by omega), h 92 (by omega) (by omega) (by omega), h 82 (by omega) (by omega) (by omega)]
  obtain ⟨a1, a2, a3, a4, a5, a6, a7, a8, a9⟩ := hI
  exact ⟨a1, a2, a3, a4, a5, a6, a7, iv_la.c (fun q hq => h q (by omega) (by omega) (by omega)) (by rw [h 81 (by omega) (by omega) (by omega)]) a8, a9⟩
theorem RT.st {nl nt nd q j : Nat} {v : Int} {M : bz_Mm} (hI : RT nl nt nd M) (h : 156 ≤ q ∨ q = 107 ∨ q = 109) : RT nl nt nd (st_ M q j v) := hI.c (fun b hb h1 h2 => st_ne (by omega))
/-! papers -/
def gPs (f d : Nat) (M : bz_Mm) (p : Nat) : bz_Mm := st_ M (191 + f) p (fM_near ((w64 (M (191 + f) p * w32 (M (180 + p) d))).tdiv 1000) (-1000000) 1000000)
def gPd (f d : Nat) (M : bz_Mm) (p : Nat) : bz_Mm := st_ M 188 f (M 188 f + (w64 (M (191 + f) p * w32 (M (171 + p) d) * w32 (M (167 + (M 92 p).toNat) d))).tdiv 1000)
def gPt (f d : Nat) (M : bz_Mm) (t : Nat) : bz_Mm := if M 97 t = f then (if M 99 t = d then (if M 81 61 < M 102 t then M else st_ (st_ M (191 + f) (M 98 t).toNat (fM_near (M (191 + f) (M 98 t).toNat + w32 (M 100 t)) (-1000000) 1000000)) 188 f (M 188 f + w32 (M 101 t))) else M) else M
theorem r_papers2 {F f d nl nt nd : Nat} (hf : f < 4) (hd : d < 260) : ∀ (m fuel i : Nat) (M : bz_Mm), RT nl nt nd M → i + m = 8 → m < fuel → M_papers_L2 F fuel (f : Int) (d : Int) (i : Int) M = some (itr (gPs f d) i m M) := by
  intro m
  induction m with
  | zero =>
    intro fuel i M hI h1 h2
    obtain ⟨fuel, rfl⟩ : ∃ j, fuel = j + 1 := ⟨fuel - 1, by omega⟩
    rw [M_papers_L2, w32_n (by omega), if_neg (by omega)]
    rfl
  | succ m ih =>
    intro fuel i M hI h1 h2
    obtain ⟨fuel, rfl⟩ : ∃ j, fuel = j + 1 := ⟨fuel - 1, by omega⟩
    have e : (i : Int) + 1 = ((i + 1 : Nat) : Int) := by omega
    rw [M_papers_L2, w32_n (show i ≤ 2147483647 by omega), if_pos (by omega), itr_S]
    simp (disch := omega) only [ra_i, rd_i, wa_i, Int.toNat_natCast]
    rw [e]
    exact ih fuel (i + 1) _ (hI.st (by omega)) (by omega) (by omega)
theorem r_papers55 {F f d nl nt nd : Nat} (hf : f < 4) (hd : d < 260) : ∀ (m fuel i : Nat) (M : bz_Mm), RT nl nt nd M → i + m = 8 → m < fuel → M_papers_L55 F fuel (f : Int) (d : Int) (i : Int) M = some (itr (gPd f d) i m M) := by
  intro m
  induction m with
  | zero =>
    intro fuel i M hI h1 h2
    obtain ⟨fuel, rfl⟩ : ∃ j, fuel = j + 1 := ⟨fuel - 1, by omega⟩
    rw [M_papers_L55, w32_n (by omega), if_neg (by omega)]
    rfl
  | succ m ih =>
    intro fuel i M hI h1 h2
    obtain ⟨fuel, rfl⟩ : ∃ j, fuel = j + 1 := ⟨fuel - 1, by omega⟩
    have e : (i : Int) + 1 = ((i + 1 : Nat) : Int) := by omega
    have cu := hI.2.2.2.2.2.2.1 i (by omega)
    rw [M_papers_L55, w32_n (show i ≤ 2147483647 by omega), if_pos (by omega), itr_S]
    simp (disch := omega) only [ra_i, rd_i, wa_i, Int.toNat_natCast]
    rw [e]
    exact ih fuel (i + 1) _ (hI.st (by omega)) (by omega) (by omega)
theorem r_papers115 {F f d nl nt nd : Nat} (hf : f < 4) (hd : d < 260) : ∀ (m fuel i : Nat) (M : bz_Mm), RT nl nt nd M → i + m = nt → m < fuel → M_papers_L115 F fuel (f : Int) (d : Int) (i : Int) M = some (itr (gPt f d) i m M) := by
  intro m
  induction m with
  | zero =>
    intro fuel i M hI h1 h2
    obtain ⟨fuel, rfl⟩ : ∃ j, fuel = j + 1 := ⟨fuel - 1, by omega⟩
    have hn := hI.2.1
    rw [M_papers_L115, hn.1, w32_n (show i ≤ 2147483647 by omega), w32_n (show nt ≤ 2147483647 by omega), if_neg (by omega)]
    rfl
  | succ m ih =>
    intro fuel i M hI h1 h2
    obtain ⟨fuel, rfl⟩ : ∃ j, fuel = j + 1 := ⟨fuel - 1, by omega⟩
    have hn := hI.2.1
    have e : (i : Int) + 1 = ((i + 1 : Nat) : Int) := by omega
    have hk := hI.2.2.2.1
    obtain ⟨t1, t2, t3, t4⟩ := hI.2.2.2.2.1 i (by omega)
    have rf : r32 (f : Int) := ⟨by omega, by omega⟩
    have rd : r32 (d : Int) := ⟨by omega, by omega⟩
    rw [M_papers_L115, hn.1, w32_n (show i ≤ 2147483647 by omega), w32_n (show nt ≤ 2147483647 by omega), if_pos (by omega), itr_S]
    simp (disch := omega) only [ra_i, rd_i, wa_i, Int.toNat_natCast, r32_w t1, r32_w t3, r32_w t4, r32_w hk, r32_w rf, r32_w rd]
    rw [e]
    have no := ih fuel (i + 1) M hI (by omega) (by omega)
    unfold gPt
    by_cases c1 : M 97 i = (f : Int)
    · rw [if_pos c1, if_pos c1]
      by_cases c2 : M 99 i = (d : Int)
      · rw [if_pos c2, if_pos c2]
        by_cases c3 : M 81 61 < M 102 i
        · rw [if_pos c3, if_pos c3]; exact no
        · rw [if_neg c3, if_neg c3]
          rw [st_ne (show (188 : Nat) ≠ 191 + f by omega), st_ne (show (101 : Nat) ≠ 191 + f by omega)]
          exact ih fuel (i + 1) _ ((hI.st (by omega)).st (by omega)) (by omega) (by omega)
      · rw [if_neg c2, if_neg c2]; exact no
    · rw [if_neg c1, if_neg c1]; exact no
def sPap (f d nt : Nat) (M : bz_Mm) : bz_Mm := itr (gPt f d) 0 nt (itr (gPd f d) 0 8 (itr (gPs f d) 0 8 M))
theorem RT.itr {nl nt nd : Nat} {g : bz_Mm → Nat → bz_Mm} (hg : ∀ M i, RT nl nt nd M → RT nl nt nd (g M i)) : ∀ (m i : Nat) (M : bz_Mm), RT nl nt nd M → RT nl nt nd (itr g i m M) := by
  intro m
  induction m with
  | zero => intro i M h; exact h
  | succ m ih => intro i M h; rw [itr_S]; exact ih (i + 1) _ (hg M i h)
theorem RT.pap {f d nl nt nd : Nat} {M : bz_Mm} (h : RT nl nt nd M) (n : Nat) : RT nl nt nd (sPap f d n M) := by
  unfold sPap
  refine RT.itr (fun M i h => ?_) _ _ _ (RT.itr (fun M i h => h.st (by omega)) _ _ _ (RT.itr (fun M i h => h.st (by omega)) _ _ _ h))
  unfold gPt
  repeat' split
  all_goals first | exact h | exact (h.st (by omega)).st (by omega)
theorem r_papers {F f d nl nt nd : Nat} {M : bz_Mm} (hF : 300 < F) (hf : f < 4) (hd : d < 260) (hI : RT nl nt nd M) : fM_papers F M (f : Int) (d : Int) = some (sPap f d nt M) := by
  have hn := hI.2.1
  have a1 : M_papers_L2 F F (f : Int) (d : Int) 0 M = _ := r_papers2 (F := F) hf hd 8 F 0 M hI (by decide) (by omega)
  have i1 : RT nl nt nd (itr (gPs f d) 0 8 M) := RT.itr (fun M i h => h.st (by omega)) _ _ _ hI
  have a2 : M_papers_L55 F F (f : Int) (d : Int) 0 (itr (gPs f d) 0 8 M) = _ := r_papers55 (F := F) hf hd 8 F 0 _ i1 (by decide) (by omega)
  have i2 : RT nl nt nd (itr (gPd f d) 0 8 (itr (gPs f d) 0 8 M)) := RT.itr (fun M i h => h.st (by omega)) _ _ _ i1
  have a3 : M_papers_L115 F F (f : Int) (d : Int) 0 _ = _ := r_papers115 (F := F) hf hd nt F 0 _ i2 (by omega) (by omega)
  unfold fM_papers
  rw [a1, cl1_s, a2, cl1_s, a3, cl1_s]
  rfl
/-! feeds -/
def gFe (f d : Nat) (M : bz_Mm) (i : Nat) : bz_Mm := if M 103 i = 16 + (f : Int) then (if M 106 i = d then (if 0 < M 105 i then st_ M 188 f (M 188 f + -M 189 i) else st_ M 188 f (M 188 f + M 189 i)) else M) else M
theorem RT.fe {f d nl nt nd : Nat} {M : bz_Mm} (i : Nat) (h : RT nl nt nd M) : RT nl nt nd (gFe f d M i) := by
  unfold gFe
  repeat' split
  all_goals first | exact h | exact h.st (by omega)
theorem r_feeds {F f d nl nt nd : Nat} (hF : 300 < F) (hf : f < 4) (hd : d < 260) {M : bz_Mm} (hI : RT nl nt nd M) : fM_feeds1 F M (f : Int) (d : Int) = some (itr (gFe f d) 0 nd M) := by
  have key : ∀ (m fuel i : Nat) (M : bz_Mm), RT nl nt nd M → i + m = nd → m < fuel → M_feeds1_L2 F fuel (f : Int) (d : Int) (i : Int) M = some (itr (gFe f d) i m M) := by
    intro m
    induction m with
    | zero =>
      intro fuel i M hI h1 h2
      obtain ⟨fuel, rfl⟩ : ∃ j, fuel = j + 1 := ⟨fuel - 1, by omega⟩
      have hn := hI.2.2.1
      rw [M_feeds1_L2, hn.1, w32_n (show i ≤ 2147483647 by omega), w32_n (show nd ≤ 2147483647 by omega), if_neg (by omega)]
      rfl
    | succ m ih =>
      intro fuel i M hI h1 h2
      obtain ⟨fuel, rfl⟩ : ∃ j, fuel = j + 1 := ⟨fuel - 1, by omega⟩
      have hn := hI.2.2.1
      have e : (i : Int) + 1 = ((i + 1 : Nat) : Int) := by omega
      obtain ⟨t1, t2, t3, t4⟩ := hI.2.2.2.2.2.1 i (by omega)
      have r1 : r32 (M 103 i) := ⟨by omega, by omega⟩
      have rd : r32 (d : Int) := ⟨by omega, by omega⟩
      have rf : r32 (16 + (f : Int)) := ⟨by omega, by omega⟩
      rw [M_feeds1_L2, hn.1, w32_n (show i ≤ 2147483647 by omega), w32_n (show nd ≤ 2147483647 by omega), if_pos (by omega), itr_S]
      simp (disch := omega) only [ra_i, rd_i, wa_i, Int.toNat_natCast, r32_w r1, r32_w t3, r32_w t4, r32_w rf, r32_w rd]
      rw [e]
      have nx := ih fuel (i + 1) _ (RT.fe (f := f) (d := d) i hI) (by omega) (by omega)
      unfold gFe at nx ⊢
      by_cases c1 : M 103 i = 16 + (f : Int)
      · rw [if_pos c1] at nx ⊢
        rw [if_pos c1]
        by_cases c2 : M 106 i = (d : Int)
        · rw [if_pos c2] at nx ⊢
          rw [if_pos c2]
          by_cases c3 : 0 < M 105 i
          · rw [if_pos c3] at nx ⊢
            rw [if_pos c3]; exact nx
          · rw [if_neg c3] at nx ⊢
            rw [if_neg c3]; exact nx
        · rw [if_neg c2] at nx ⊢
          rw [if_neg c2]; exact nx
      · rw [if_neg c1] at nx ⊢
        rw [if_neg c1]; exact nx
  have hn := hI.2.2.1
  have a : M_feeds1_L2 F F (f : Int) (d : Int) 0 M = _ := key nd F 0 M hI (by omega) (by omega)
  unfold fM_feeds1
  rw [a, cl1_s]
