/-! the reference's beginning, and what it knows -/
def gB1 (f : Nat) (M : bz_Mm) (p : Nat) : bz_Mm := st_ M (191 + f) p 0
def gB2 (f : Nat) (M : bz_Mm) (p : Nat) : bz_Mm := st_ M (206 + f) p 0
def gB (M : bz_Mm) (f : Nat) : bz_Mm := itr (gB2 f) 0 20 (itr (gB1 f) 0 8 (st_ (st_ M 188 f (w32 (M 93 f))) 210 f 0))
def gB3 (M : bz_Mm) (i : Nat) : bz_Mm := st_ M 189 i 0
def sBeg (nd : Nat) (M : bz_Mm) : bz_Mm := itr gB3 0 nd (itr gB 0 4 M)
theorem gB_o {q : Nat} (hq : q < 188) (M : bz_Mm) (f : Nat) : gB M f q = M q := by
  unfold gB
  rw [itr_o (fun M i => by unfold gB2; exact st_ne (by omega)), itr_o (fun M i => by unfold gB1; exact st_ne (by omega)), st_ne (by omega), st_ne (by omega)]
theorem sBeg_o {nd q : Nat} {M : bz_Mm} (hq : q < 188) : sBeg nd M q = M q := by
  unfold sBeg
  rw [itr_o (fun M i => by unfold gB3; exact st_ne (by omega)), itr_o (gB_o hq)]
theorem r_begins {F nl nt nd : Nat} (hF : 300 < F) {M : bz_Mm} (hI : RT nl nt nd M) : fM_begins F M = some (sBeg nd M) ∧ RT nl nt nd (sBeg nd M) := by
  have k1 : ∀ (f : Nat), f < 4 → ∀ (m fuel i : Nat) (M : bz_Mm), i + m = 8 → m < fuel → M_begins_L29 F fuel (f : Int) (i : Int) M = some (itr (gB1 f) i m M) := by
    intro f hf m
    induction m with
    | zero =>
      intro fuel i M h1 h2
      obtain ⟨fuel, rfl⟩ : ∃ j, fuel = j + 1 := ⟨fuel - 1, by omega⟩
      rw [M_begins_L29, w32_n (by omega), if_neg (by omega)]
      rfl
    | succ m ih =>
      intro fuel i M h1 h2
      obtain ⟨fuel, rfl⟩ : ∃ j, fuel = j + 1 := ⟨fuel - 1, by omega⟩
      have e : (i : Int) + 1 = ((i + 1 : Nat) : Int) := by omega
      rw [M_begins_L29, w32_n (by omega), if_pos (by omega), itr_S, ra_i (by omega) (by omega) (by decide), Int.toNat_natCast, wa_s (by omega) (by decide), e]
      exact ih fuel (i + 1) _ (by omega) (by omega)
  have k2 : ∀ (f : Nat), f < 4 → ∀ (m fuel i : Nat) (M : bz_Mm), i + m = 20 → m < fuel → M_begins_L52 F fuel (f : Int) (i : Int) M = some (itr (gB2 f) i m M) := by
    intro f hf m
    induction m with
    | zero =>
      intro fuel i M h1 h2
      obtain ⟨fuel, rfl⟩ : ∃ j, fuel = j + 1 := ⟨fuel - 1, by omega⟩
      rw [M_begins_L52, w32_n (by omega), if_neg (by omega)]
      rfl
    | succ m ih =>
      intro fuel i M h1 h2
      obtain ⟨fuel, rfl⟩ : ∃ j, fuel = j + 1 := ⟨fuel - 1, by omega⟩
      have e : (i : Int) + 1 = ((i + 1 : Nat) : Int) := by omega
      rw [M_begins_L52, w32_n (by omega), if_pos (by omega), itr_S, ra_i (by omega) (by omega) (by decide), Int.toNat_natCast, wa_s (by omega) (by decide), e]
      exact ih fuel (i + 1) _ (by omega) (by omega)
  have k3 : ∀ (m fuel f : Nat) (M : bz_Mm), f + m = 4 → m < fuel → M_begins_L2 F fuel (f : Int) M = some (itr gB f m M) := by
    intro m
    induction m with
    | zero =>
      intro fuel f M h1 h2
      obtain ⟨fuel, rfl⟩ : ∃ j, fuel = j + 1 := ⟨fuel - 1, by omega⟩
      rw [M_begins_L2, w32_n (by omega), if_neg (by omega)]
      rfl
    | succ m ih =>
      intro fuel f M h1 h2
      obtain ⟨fuel, rfl⟩ : ∃ j, fuel = j + 1 := ⟨fuel - 1, by omega⟩
      have e : (f : Int) + 1 = ((f + 1 : Nat) : Int) := by omega
      have b1 := k1 f (by omega) 8 F 0 (st_ (st_ M 188 f (w32 (M 93 f))) 210 f 0) (by decide) (by omega)
      have b2 := k2 f (by omega) 20 F 0 (itr (gB1 f) 0 8 (st_ (st_ M 188 f (w32 (M 93 f))) 210 f 0)) (by decide) (by omega)
      rw [show ((0 : Nat) : Int) = 0 from rfl] at b1 b2
      rw [M_begins_L2, w32_n (by omega), if_pos (by omega), itr_S, rd_s (by omega) (by decide), wa_s (by omega) (by decide), wa_s (by omega) (by decide), b1, cl1_s, b2, cl1_s, e]
      exact ih fuel (f + 1) _ (by omega) (by omega)
  have k4 : ∀ (m fuel i : Nat) (M : bz_Mm), M 81 35 = nd → nd ≤ 200 → i + m = nd → m < fuel → M_begins_L81 F fuel (i : Int) M = some (itr gB3 i m M) := by
    intro m
    induction m with
    | zero =>
      intro fuel i M hn hc h1 h2
      obtain ⟨fuel, rfl⟩ : ∃ j, fuel = j + 1 := ⟨fuel - 1, by omega⟩
      rw [M_begins_L81, hn, w32_n (show i ≤ 2147483647 by omega), w32_n (show nd ≤ 2147483647 by omega), if_neg (by omega)]
      rfl
    | succ m ih =>
      intro fuel i M hn hc h1 h2
      obtain ⟨fuel, rfl⟩ : ∃ j, fuel = j + 1 := ⟨fuel - 1, by omega⟩
      have e : (i : Int) + 1 = ((i + 1 : Nat) : Int) := by omega
      rw [M_begins_L81, hn, w32_n (show i ≤ 2147483647 by omega), w32_n (show nd ≤ 2147483647 by omega), if_pos (by omega), itr_S, wa_s (by omega) (by decide), e]
      exact ih fuel (i + 1) _ (by rw [st_ne (by decide)]; exact hn) hc (by omega) (by omega)
  have hn := hI.2.2.1
  have a3 := k3 4 F 0 M (by decide) (by omega)
  have a4 := k4 nd F 0 (itr gB 0 4 M) (by rw [itr_o (gB_o (by decide))]; exact hn.1) hn.2 (by omega) (by omega)
  rw [show ((0 : Nat) : Int) = 0 from rfl] at a3 a4
  refine ⟨?_, hI.c (fun q h1 h2 h3 => sBeg_o (by omega))⟩
  unfold fM_begins
  rw [a3, cl1_s, a4, cl1_s]
  rfl
/-! knows -/
def TE (n : Nat) (M : bz_Mm) : Prop := (M 81 12 = n ∧ n ≤ 407) ∧ r32 (M 81 61) ∧ ∀ t, t < n → r32 (M 83 t) ∧ r32 (M 84 t) ∧ r32 (M 87 t) ∧ 0 ≤ M 85 t ∧ M 85 t < 260
theorem TE.c {n : Nat} {M M' : bz_Mm} (h : TE n M) (h2 : ∀ q, q < 158 → M' q = M q) : TE n M' := by
  unfold TE at h ⊢
  rw [h2 81 (by decide), h2 83 (by decide), h2 84 (by decide), h2 87 (by decide), h2 85 (by decide)]
  exact h
theorem TE.st {n q j : Nat} {v : Int} {M : bz_Mm} (h : TE n M) (hq : 158 ≤ q) : TE n (st_ M q j v) := h.c (fun b hb => st_ne (by omega))
def pln (s : Nat) : Int := if s = 0 ∨ s = 2 then 0 else 1000
theorem pln_e {s : Nat} (h : s < 4) : fM_plain (s : Int) = pln s := by
  rw [fM_plain_eq (by omega)]
  unfold pln
  repeat' split
  all_goals first | rfl | (exfalso; omega)
def gK6 (r s : Nat) (M : bz_Mm) (d : Nat) : bz_Mm := if 1 < s then st_ M r d (pln s) else st_ M r d (if d = 0 then pln s else M r (d - 1))
def gK58 (M : bz_Mm) (d : Nat) : bz_Mm := st_ M 221 d 0
def gK83 (r s nr : Nat) (M : bz_Mm) (t : Nat) : bz_Mm := if M 83 t = s then (if M 84 t = nr then (if M 81 61 < M 87 t then M else st_ (st_ M r (M 85 t).toNat (M 86 t)) 221 (M 85 t).toNat 1) else M) else M
def gK169 (r : Nat) (M : bz_Mm) (d : Nat) : bz_Mm := if M 221 d = 0 then st_ M r d (M r (d - 1)) else M
def sCar (r s nr n : Nat) (M : bz_Mm) : bz_Mm := if s < 2 then itr (gK169 r) 1 259 (itr (gK83 r s nr) 0 n (itr gK58 0 260 (itr (gK6 r s) 0 260 M))) else itr (gK83 r s nr) 0 n (itr gK58 0 260 (itr (gK6 r s) 0 260 M))
theorem r_carries {F r s nr n : Nat} (hF : 500 < F) (hr : 158 ≤ r ∧ r < 188) (hs : s < 4) (hnr : nr < 8) {M : bz_Mm} (hI : TE n M) : fM_carries F M r (s : Int) (nr : Int) = some (sCar r s nr n M) ∧ ∀ q, q ≠ r → q ≠ 221 → sCar r s nr n M q = M q := by
  have fr6 : ∀ q, q ≠ r → ∀ M d, gK6 r s M d q = M q := fun q hq M d => by unfold gK6; split <;> exact st_ne hq
  have fr58 : ∀ q, q ≠ 221 → ∀ M d, gK58 M d q = M q := fun q hq M d => by unfold gK58; exact st_ne hq
  have fr83 : ∀ q, q ≠ r → q ≠ 221 → ∀ M t, gK83 r s nr M t q = M q := fun q hq h2 M t => by
    unfold gK83
    repeat' split
    all_goals first | rfl | rw [st_ne h2, st_ne hq]
  have fr169 : ∀ q, q ≠ r → ∀ M d, gK169 r M d q = M q := fun q hq M d => by unfold gK169; split <;> first | exact st_ne hq | rfl
  have k6 : ∀ (m fuel d : Nat) (M : bz_Mm), d + m = 260 → m < fuel → M_carries_L6 F fuel r (s : Int) (nr : Int) (d : Int) M = some (itr (gK6 r s) d m M) := by
    intro m
    induction m with
    | zero =>
      intro fuel d M h1 h2
      obtain ⟨fuel, rfl⟩ : ∃ j, fuel = j + 1 := ⟨fuel - 1, by omega⟩
      rw [M_carries_L6, w32_n (by omega), if_neg (by omega)]
      rfl
    | succ m ih =>
      intro fuel d M h1 h2
      obtain ⟨fuel, rfl⟩ : ∃ j, fuel = j + 1 := ⟨fuel - 1, by omega⟩
      have e : (d : Int) + 1 = ((d + 1 : Nat) : Int) := by omega
      have nx := ih fuel (d + 1) (gK6 r s M d) (by omega) (by omega)
      have v : (if w32 (d : Int) = 0 then some (fM_plain (s : Int)) else rd_ M r ((d : Int) - 1) 260 fun x3 => some x3) = some (if d = 0 then pln s else M r (d - 1)) := by
        rw [w32_n (by omega), pln_e hs]
        by_cases c : d = 0
        · rw [if_pos (by omega), if_pos c]
        · rw [if_neg (by omega), if_neg c, rd_i (by omega) (by omega) (by decide)]
          congr 2; omega
      rw [M_carries_L6, v, w32_n (show d ≤ 2147483647 by omega), if_pos (by omega), cl1_s, wa_s (by omega) (by decide), wa_s (by omega) (by decide), st_st, pln_e hs, w32_n (show s ≤ 2147483647 by omega), e, itr_S]
      unfold gK6 at nx ⊢
      by_cases c : 1 < s
      · rw [if_pos c] at nx ⊢
        rw [if_pos (by omega)]; exact nx
      · rw [if_neg c] at nx ⊢
        rw [if_neg (by omega)]; exact nx
  have k58 : ∀ (m fuel d : Nat) (M : bz_Mm), d + m = 260 → m < fuel → M_carries_L58 F fuel r (s : Int) (nr : Int) (d : Int) M = some (itr gK58 d m M) := by
    intro m
    induction m with
    | zero =>
      intro fuel d M h1 h2
      obtain ⟨fuel, rfl⟩ : ∃ j, fuel = j + 1 := ⟨fuel - 1, by omega⟩
      rw [M_carries_L58, w32_n (by omega), if_neg (by omega)]
      rfl
    | succ m ih =>
      intro fuel d M h1 h2
      obtain ⟨fuel, rfl⟩ : ∃ j, fuel = j + 1 := ⟨fuel - 1, by omega⟩
      have e : (d : Int) + 1 = ((d + 1 : Nat) : Int) := by omega
      rw [M_carries_L58, w32_n (show d ≤ 2147483647 by omega), if_pos (by omega), wa_s (by omega) (by decide), e, itr_S]
      exact ih fuel (d + 1) _ (by omega) (by omega)
  have te83 : ∀ M t, TE n M → TE n (gK83 r s nr M t) := fun M t h => h.c (fun q hq => fr83 q (by omega) (by omega) M t)
  have k83 : ∀ (m fuel t : Nat) (M : bz_Mm), TE n M → t + m = n → m < fuel → M_carries_L83 F fuel r (s : Int) (nr : Int) (t : Int) M = some (itr (gK83 r s nr) t m M) := by
    intro m
    induction m with
    | zero =>
      intro fuel t M hI h1 h2
      obtain ⟨fuel, rfl⟩ : ∃ j, fuel = j + 1 := ⟨fuel - 1, by omega⟩
      have hn := hI.1
      rw [M_carries_L83, hn.1, w32_n (show t ≤ 2147483647 by omega), w32_n (show n ≤ 2147483647 by omega), if_neg (by omega)]
      rfl
    | succ m ih =>
      intro fuel t M hI h1 h2
      obtain ⟨fuel, rfl⟩ : ∃ j, fuel = j + 1 := ⟨fuel - 1, by omega⟩
      have hn := hI.1
      have e : (t : Int) + 1 = ((t + 1 : Nat) : Int) := by omega
      obtain ⟨t1, t2, t3, t4, t5⟩ := hI.2.2 t (by omega)
      have hk := hI.2.1
      have tt : t < 407 := by omega
      have e85 : ∀ v, st_ M r (M 85 t).toNat v 85 = M 85 := fun v => st_ne (by omega)
      have nx := ih fuel (t + 1) (gK83 r s nr M t) (te83 M t hI) (by omega) (by omega)
      rw [M_carries_L83, hn.1, w32_n (show t ≤ 2147483647 by omega), w32_n (show n ≤ 2147483647 by omega), if_pos (by omega), rd_s tt (by decide), rd_s tt (by decide), rd_s tt (by decide), rd_s tt (by decide), rd_s tt (by decide), r32_w t1, r32_w t2, r32_w t3, r32_w hk, w32_n (show s ≤ 2147483647 by omega), w32_n (show nr ≤ 2147483647 by omega), wa_i t4 t5 (by decide), rd_s tt (by decide), e85, wa_i t4 t5 (by decide), e, itr_S]
      unfold gK83 at nx ⊢
      by_cases c1 : M 83 t = (s : Int)
      · rw [if_pos c1] at nx ⊢
        rw [if_pos c1]
        by_cases c2 : M 84 t = (nr : Int)
        · rw [if_pos c2] at nx ⊢
          rw [if_pos c2]
          by_cases c3 : M 81 61 < M 87 t
          · rw [if_pos c3] at nx ⊢
            rw [if_pos c3]; exact nx
          · rw [if_neg c3] at nx ⊢
            rw [if_neg c3]; exact nx
        · rw [if_neg c2] at nx ⊢
          rw [if_neg c2]; exact nx
      · rw [if_neg c1] at nx ⊢
        rw [if_neg c1]; exact nx
  have k169 : s < 2 → ∀ (m fuel d : Nat) (M : bz_Mm), (∀ j, M 221 j = 0 ∨ M 221 j = 1 ∨ 260 ≤ j) → 1 ≤ d → d + m = 260 → m < fuel → M_carries_L169 F fuel r (s : Int) (d : Int) M = some (itr (gK169 r) d m M) := by
    intro hs2 m
    induction m with
    | zero =>
      intro fuel d M h0 hd h1 h2
      obtain ⟨fuel, rfl⟩ : ∃ j, fuel = j + 1 := ⟨fuel - 1, by omega⟩
      rw [M_carries_L169, w32_n (by omega), if_neg (by omega)]
      rfl
    | succ m ih =>
      intro fuel d M h0 hd h1 h2
      obtain ⟨fuel, rfl⟩ : ∃ j, fuel = j + 1 := ⟨fuel - 1, by omega⟩
      have e : (d : Int) + 1 = ((d + 1 : Nat) : Int) := by omega
      have e2 : ((d : Int) - 1).toNat = d - 1 := by omega
      have r0 : r32 (M 221 d) := by unfold r32; rcases h0 d with h | h | h <;> omega
      have nx := ih fuel (d + 1) (gK169 r M d) (by rw [fr169 221 (by omega)]; exact h0) (by omega) (by omega) (by omega)
      rw [M_carries_L169, w32_n (show d ≤ 2147483647 by omega), if_pos (by omega), w32_n (show s ≤ 2147483647 by omega), if_pos (by omega), rd_s (by omega) (by decide), r32_w r0, rd_i (by omega) (by omega) (by decide), e2, wa_s (by omega) (by decide), e, itr_S]
      unfold gK169 at nx ⊢
      by_cases c : M 221 d = 0
      · rw [if_pos c] at nx ⊢
        rw [if_pos c]; exact nx
      · rw [if_neg c] at nx ⊢
        rw [if_neg c]; exact nx
  have z58 : ∀ (m d : Nat) (M : bz_Mm), (∀ j, j < d → M 221 j = 0) → ∀ j, j < d + m → itr gK58 d m M 221 j = 0 := by
    intro m
    induction m with
    | zero => intro d M h j hj; exact h j (by omega)
    | succ m ih =>
      intro d M h j hj
      rw [itr_S]
      refine ih (d + 1) _ (fun j hj => ?_) j (by omega)
      unfold gK58
      rw [st_eq]
      by_cases c : j = d
      · rw [c, ud_eq]
      · rw [ud_ne c]; exact h j (by omega)
  have z83 : ∀ (m t : Nat) (M : bz_Mm), (∀ j, M 221 j = 0 ∨ M 221 j = 1 ∨ 260 ≤ j) → ∀ j, itr (gK83 r s nr) t m M 221 j = 0 ∨ itr (gK83 r s nr) t m M 221 j = 1 ∨ 260 ≤ j := by
    intro m
    induction m with
    | zero => intro t M h j; exact h j
    | succ m ih =>
      intro t M h j
      rw [itr_S]
      refine ih (t + 1) _ (fun j => ?_) j
      unfold gK83
      repeat' split
      all_goals first | exact h j | skip
      rw [st_eq]
      by_cases c : j = (M 85 t).toNat
      · rw [c, ud_eq]; exact Or.inr (Or.inl rfl)
      · rw [ud_ne c, st_ne (by omega)]; exact h j
  have i6 : TE n (itr (gK6 r s) 0 260 M) := hI.c (fun q hq => itr_o (fr6 q (by omega)) _ _ _)
  have i58 : TE n (itr gK58 0 260 (itr (gK6 r s) 0 260 M)) := i6.c (fun q hq => itr_o (fr58 q (by omega)) _ _ _)
  have hn := hI.1
  have a6 := k6 260 F 0 M (by decide) (by omega)
  have a58 := k58 260 F 0 (itr (gK6 r s) 0 260 M) (by decide) (by omega)
  have a83 := k83 n F 0 (itr gK58 0 260 (itr (gK6 r s) 0 260 M)) i58 (by omega) (by omega)
  rw [show ((0 : Nat) : Int) = 0 from rfl] at a6 a58 a83
  have zz := z83 n 0 (itr gK58 0 260 (itr (gK6 r s) 0 260 M)) (fun j => by
    by_cases c : j < 260
    · exact Or.inl (z58 260 0 _ (fun j hj => absurd hj (by omega)) j (by omega))
    · exact Or.inr (Or.inr (by omega)))
  refine ⟨?_, fun q h1 h2 => ?_⟩
  · unfold fM_carries sCar
    rw [a6, cl1_s, a58, cl1_s, a83, cl1_s]
    by_cases c : s < 2
    · have a169 := k169 c 259 F 1 (itr (gK83 r s nr) 0 n (itr gK58 0 260 (itr (gK6 r s) 0 260 M))) zz (by decide) (by decide) (by omega)
      rw [show ((1 : Nat) : Int) = 1 from rfl] at a169
      rw [a169, cl1_s, if_pos c]
    · obtain ⟨F', rfl⟩ : ∃ j, F = j + 1 := ⟨F - 1, by omega⟩
      rw [M_carries_L169, if_pos (by decide), w32_n (show s ≤ 2147483647 by omega), if_neg (by omega), cl1_s, if_neg c]
  · unfold sCar
    split
    · rw [itr_o (fr169 q h1), itr_o (fr83 q h1 h2), itr_o (fr58 q h2), itr_o (fr6 q h1)]
    · rw [itr_o (fr83 q h1 h2), itr_o (fr58 q h2), itr_o (fr6 q h1)]
