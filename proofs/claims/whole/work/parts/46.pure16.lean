/-! alarm -/
theorem alarm_loop {F : Nat} {M : bz_Mm} {f n : Int} (hn0 : 0 ≤ n ∧ n ≤ 10000) (hf0 : 0 ≤ f ∧ f < 4) (hff : f < M 81 19) (hn : 0 ≤ M 1 13 ∧ M 1 13 ≤ 260) (en : M 81 0 = M 1 13) (hH : iv_ho M) (hB : iv_bk M) : ∀ (m fuel : Nat) (i a b : Int), 0 ≤ i → m + i = M 1 13 → m < fuel → ((a = -1 ∧ b = -1) ∨ (0 ≤ b ∧ b < M 1 13 ∧ p_open (M 82) b ∧ a = M 48 (f.toNat * 260 + b.toNat))) → ∃ x, U_alarm_L29 F fuel M f n i a = some x ∧ M_alarm_L27 F fuel M f n i b = some x := by
  intro m
  induction m with
  | zero =>
    intro fuel i a b h0 h1 h2 h3
    obtain ⟨fuel, rfl⟩ : ∃ j, fuel = j + 1 := ⟨fuel - 1, by omega⟩
    refine ⟨.inr 0, ?_, ?_⟩
    · rw [U_alarm_L29, w32_id (x := i) (by omega) (by omega), w32_id (x := M 1 13) (by omega) (by omega), if_neg (by omega)]
    · rw [M_alarm_L27, w32_id (x := i) (by omega) (by omega), en, w32_id (x := M 1 13) (by omega) (by omega), if_neg (by omega)]
  | succ m ih =>
    intro fuel i a b h0 h1 h2 h3
    obtain ⟨fuel, rfl⟩ : ∃ j, fuel = j + 1 := ⟨fuel - 1, by omega⟩
    obtain ⟨o, o1, o2, o3, o4⟩ := open_both (F := F) (d := i) hH ⟨by omega, by omega⟩
    have e1 : (f * 260 + i).toNat = f.toNat * 260 + i.toNat := by omega
    have k1 : 0 ≤ f * 260 + i ∧ f * 260 + i < 1040 := by omega
    rw [U_alarm_L29, M_alarm_L27]
    unfold fU_slot
    rw [w32_id (x := i) (by omega) (by omega), en, w32_id (x := M 1 13) (by omega) (by omega), if_pos (show i < M 1 13 by omega), if_pos (show i < M 1 13 by omega), if_pos (show i < 260 by omega), o1, o2, cl_s, cl_s]
    by_cases c : p_open (M 82) i
    · rw [if_neg (fun q => o3.mp q c), if_neg (fun q => o3.mp q c), rd_i k1.1 k1.2 (by decide), e1]
      have ei : ((i.toNat : Nat) : Int) = i := by omega
      obtain ⟨p1, p2, p3⟩ := hB f.toNat i.toNat (by omega) (by omega) (by rw [ei]; exact c)
      have nxt := ih fuel (i + 1) (M 48 (f.toNat * 260 + i.toNat)) i (by omega) (by omega) (by omega) (Or.inr ⟨h0, by omega, c, rfl⟩)
      rcases h3 with h3 | h3
      · rw [h3.1, h3.2, if_pos (by decide), if_pos (by decide)]
        exact nxt
      · have eb : ((b.toNat : Nat) : Int) = b := by omega
        obtain ⟨q1, q2, q3⟩ := hB f.toNat b.toNat (by omega) (by omega) (by rw [eb]; exact h3.2.2.1)
        have q4 := h3.2.2.2
        have hb9 := h3.1
        have hb8 := h3.2.1
        rw [← q4] at q1 q2
        rw [if_neg (c := w32 a = -1) (by rw [w32_id (x := a) (by omega) (by omega)]; omega), if_neg (c := w32 b = -1) (by rw [w32_id (x := b) (by omega) (by omega)]; omega), ra_i hf0.1 hf0.2 (by decide), rd_i h3.1 (by omega) (by decide), ra_i hf0.1 hf0.2 (by decide), rd_i h0 (by omega) (by decide), ← q1, ← p1]
        generalize M 48 (f.toNat * 260 + i.toNat) = p at p2 nxt ⊢
        have na : 0 ≤ n * a ∧ n * a ≤ 100000000000 := by
          constructor
          · exact Int.mul_nonneg hn0.1 q2.1
          · have := Int.mul_le_mul hn0.2 q2.2 q2.1 (by decide); omega
        unfold fJM_abs0
        have v1 : ∃ v, (if w64 a < w64 p then some (p - a) else some (a - p)) = some v ∧ (0 ≤ v ∧ v ≤ 10000000) ∧ (if w32 (p - a) < 0 then -(p - a) else p - a) = v := by
          rw [r64_w ⟨by omega, by omega⟩, r64_w ⟨by omega, by omega⟩, w32_id (x := p - a) (by omega) (by omega)]
          by_cases cc : a < p
          · exact ⟨p - a, if_pos cc, ⟨by omega, by omega⟩, if_neg (by omega)⟩
          · refine ⟨a - p, if_neg cc, ⟨by omega, by omega⟩, ?_⟩
            by_cases c3 : p - a < 0
            · rw [if_pos c3]; omega
            · rw [if_neg c3]; omega
        obtain ⟨v, v1, v2, v3⟩ := v1
        rw [v1, v3, cl1_s, w32_id (x := a) (by omega) (by omega), w32_id (x := n) (by omega) (by omega), w32_id (x := v) (by omega) (by omega), r64_w (x := n * a) ⟨by omega, by omega⟩, r64_w (x := 10000 * v) ⟨by omega, by omega⟩]
        by_cases cc : n * a < 10000 * v
        · rw [if_pos cc, if_pos cc]; exact ⟨_, rfl, rfl⟩
        · rw [if_neg cc, if_neg cc]; exact nxt
    · rw [if_pos (o3.mpr c), if_pos (o3.mpr c)]
      exact ih fuel (i + 1) a b (by omega) (by omega) (by omega) h3
theorem eq_alarm {F : Nat} {M : bz_Mm} {f n : Int} (hF : 261 < F) (h1 : r32 f) (h2 : r32 n) (hn : 0 ≤ M 1 13 ∧ M 1 13 ≤ 260) (hf : 0 ≤ M 1 14 ∧ M 1 14 ≤ 4) (en : M 81 0 = M 1 13) (ef : M 81 19 = M 1 14) (hH : iv_ho M) (hB : iv_bk M) : ∃ x, fU_alarm F M f n = some x ∧ fM_alarm F M f n = some x := by
  unfold fU_alarm fM_alarm
  simp only [uUS_isFund h1 hf, uM_isFund h1 (by omega : 0 ≤ M 81 19 ∧ M 81 19 ≤ 4), ef, r32_w h2, fM_in_0 h2 (⟨by decide, by decide⟩ : r32 0) (⟨by decide, by decide⟩ : r32 10000)]
  by_cases c : (0 ≤ f ∧ f < M 1 14) ∧ 0 ≤ n ∧ n ≤ 10000
  · obtain ⟨x, x1, x2⟩ := alarm_loop (F := F) (M := M) (f := f) (n := n) c.2 (by omega) (by omega) hn en hH hB (M 1 13).toNat F 0 (-1) (-1) (by omega) (by omega) (by omega) (Or.inl ⟨rfl, rfl⟩)
    rw [x1, x2]
    have g : ∀ X : Option Int, (∃ x, X = some x) → ∃ x, X = some x ∧ X = some x := fun X ⟨x, hx⟩ => ⟨x, hx, hx⟩
    simp (disch := omega) only [if_neg]
    refine g _ ?_
    cases x with
    | inl b => exact ⟨b, rfl⟩
    | inr b => exact ⟨-1, rfl⟩
  · refine ⟨-1, ?_, ?_⟩ <;> (repeat' split) <;> first | rfl | (exfalso; omega)
/-! suspect, audit -/
def suU (M : bz_Mm) (o : Nat → Int) (n : Nat) (s nr d v w : Int) : bz_Mm := st_ (st_ (st_ (st_ (by_m_17 (st_ M 77 4 0) o n d) 20 n s) 21 n nr) 22 n v) 23 n w
theorem uU_suspect {F n : Nat} {M : bz_Mm} {s nr d v : Int} (hF : 7 < F) (h1 : r32 s) (h2 : r32 nr) (h3 : r32 d) (h4 : r32 v) (hn : M 17 2 = n) (hc : n ≤ 7) (hb : by_ok (M 18) (M 19) n) : (p_can s nr d v ∧ n < 7 → ∃ o, by_ok (ud (M 18) n d) o (n + 1) ∧ fU_suspect F M s nr d v = some ((n : Int), suU M o n s nr d v (M 1 13))) ∧ (¬ (p_can s nr d v ∧ n < 7) → fU_suspect F M s nr d v = some (-1, if n = 7 then M else M) ∨ fU_suspect F M s nr d v = some (-1, st_ M 77 4 0)) := by
  unfold fU_suspect
  by_cases hp : p_can s nr d v
  · rw [if_neg (fun h => (uU_canBeTold h1 h2 h3 h4).mp h hp), wf_s]
    by_cases hq : n < 7
    · obtain ⟨o, o1, o2⟩ := by_add_17 (F := F) (M := st_ M 77 4 0) (D := d) hF hp.2.1 (by rw [st_ne (by decide)]; exact hn) hq (by rw [st_ne (by decide), st_ne (by decide)]; exact hb)
      rw [st_ne (by decide)] at o2
      have e : fUTe_add_16 F (st_ M 77 4 0) s nr d v (st_ M 77 4 0 1 13) = some ((n : Int), suU M o n s nr d v (M 1 13)) := by
        unfold fUTe_add_16
        rw [o1, cl2_s, if_neg (by rw [w32_id (x := (n : Int)) (by omega) (by omega)]; omega), wa_s hq (by decide), wa_s hq (by decide), wa_s hq (by decide), wa_s hq (by decide), st_ne (show (1 : Nat) ≠ 77 by decide)]
        unfold suU
        exact Eq.refl _
      rw [e, cl2_s]
      exact ⟨fun _ => ⟨o, o2, rfl⟩, fun h => absurd ⟨hp, hq⟩ h⟩
    · have e : fUTe_add_16 F (st_ M 77 4 0) s nr d v (st_ M 77 4 0 1 13) = some (-1, st_ M 77 4 0) := by
        unfold fUTe_add_16
        rw [by_full_17 (by rw [st_ne (by decide)]; omega), cl2_s, if_pos (by decide)]
      rw [e, cl2_s]
      exact ⟨fun h => absurd h.2 hq, fun _ => Or.inr rfl⟩
  · rw [if_pos ((uU_canBeTold h1 h2 h3 h4).mpr hp)]
    refine ⟨fun h => absurd h.1 hp, fun _ => Or.inl ?_⟩
    split <;> rfl
def suM (M : bz_Mm) (n : Nat) (s nr d v : Int) : bz_Mm := st_ (st_ (st_ (st_ (st_ M 88 n s) 89 n nr) 90 n d) 91 n v) 81 13 ((n : Int) + 1)
theorem uM_suspect {F n : Nat} {M : bz_Mm} {s nr d v : Int} (h1 : r32 s) (h2 : r32 nr) (h3 : r32 d) (h4 : r32 v) (hn : M 81 13 = n) (hc : n ≤ 7) : (p_can s nr d v ∧ n < 7 → fM_suspect F M s nr d v = some ((n : Int), suM M n s nr d v)) ∧ (¬ (p_can s nr d v ∧ n < 7) → fM_suspect F M s nr d v = some (-1, M)) := by
  unfold fM_suspect
  by_cases hp : p_can s nr d v
  · rw [if_neg (fun h => (uM_canTell h1 h2 h3 h4).mp h hp), hn, w32_id (x := (n : Int)) (by omega) (by omega)]
    by_cases hq : n < 7
    · rw [if_neg (by omega), wa_s hq (by decide), st_ne (show (81 : Nat) ≠ 88 by decide), hn, wa_s hq (by decide), st_ne (show (81 : Nat) ≠ 89 by decide), st_ne (show (81 : Nat) ≠ 88 by decide), hn, wa_s hq (by decide), st_ne (show (81 : Nat) ≠ 90 by decide), st_ne (show (81 : Nat) ≠ 89 by decide), st_ne (show (81 : Nat) ≠ 88 by decide), hn, wa_s hq (by decide), st_ne (show (81 : Nat) ≠ 91 by decide), st_ne (show (81 : Nat) ≠ 90 by decide), st_ne (show (81 : Nat) ≠ 89 by decide), st_ne (show (81 : Nat) ≠ 88 by decide), hn, wf_s, st_eq, ud_eq, Int.add_sub_cancel]
      refine ⟨fun _ => ?_, fun h => absurd ⟨hp, hq⟩ h⟩
      unfold suM
      exact Eq.refl _
    · rw [if_pos (by omega)]
      exact ⟨fun h => absurd h.2 hq, fun _ => rfl⟩
  · rw [if_pos ((uM_canTell h1 h2 h3 h4).mpr hp)]
    exact ⟨fun h => absurd h.1 hp, fun _ => rfl⟩
def auU (M : bz_Mm) (n : Nat) (f d p : Int) : bz_Mm := st_ (st_ (st_ (st_ (st_ M 78 n f) 79 n d) 80 n p) 77 3 ((n : Int) + 1)) 77 4 0
def auM (M : bz_Mm) (n : Nat) (f d p : Int) : bz_Mm := st_ (st_ (st_ (st_ M 227 n f) 228 n d) 229 n p) 81 69 ((n : Int) + 1)
def p_au (M : bz_Mm) (n : Nat) (f d p : Int) : Prop := p_over M f d ∧ (0 ≤ p ∧ p ≤ 10000000) ∧ n < 8
theorem uU_audit {F n : Nat} {M : bz_Mm} {f d p : Int} (h1 : r32 f) (h2 : r32 d) (h3 : r32 p) (hn : 0 ≤ M 1 13 ∧ M 1 13 ≤ 260) (hf : 0 ≤ M 1 14 ∧ M 1 14 ≤ 4) (en : M 81 0 = M 1 13) (ef : M 81 19 = M 1 14) (hH : iv_ho M) (hs : M 77 3 = n) (hc : n ≤ 8) : (p_au M n f d p → fU_audit F M f d p = some ((n : Int) + 1, auU M n f d p)) ∧ (¬ p_au M n f d p → fU_audit F M f d p = some (-1, M)) := by
  obtain ⟨x, x1, x2, x3⟩ := over_both (F := F) h1 h2 hn hf en ef hH
  unfold fU_audit fUA_add p_au
  rw [x1, cl_s, r32_w h3, hs, w32_id (x := (n : Int)) (by omega) (by omega)]
  by_cases c : p_over M f d
  · rw [if_neg (fun q => x3.mp q c)]
    by_cases c2 : 0 ≤ p ∧ p ≤ 10000000
    · rw [if_neg (by omega), if_neg (by omega)]
      by_cases c3 : n < 8
      · rw [if_pos (by omega), wa_s c3 (by decide), st_ne (show (77 : Nat) ≠ 78 by decide), hs, wa_s c3 (by decide), st_ne (show (77 : Nat) ≠ 79 by decide), st_ne (show (77 : Nat) ≠ 78 by decide), hs, wa_s c3 (by decide), st_ne (show (77 : Nat) ≠ 80 by decide), st_ne (show (77 : Nat) ≠ 79 by decide), st_ne (show (77 : Nat) ≠ 78 by decide), hs, wf_s, wf_s, cl2_s, st_eq, ud_ne (show (3 : Nat) ≠ 4 by decide), st_eq, ud_eq]
        refine ⟨fun _ => ?_, fun h => absurd ⟨c, c2, c3⟩ h⟩
        unfold auU
        exact Eq.refl _
      · rw [if_neg (by omega), cl2_s]
        exact ⟨fun h => absurd h.2.2 c3, fun _ => rfl⟩
    · refine ⟨fun h => absurd h.2.1 c2, fun _ => ?_⟩
      by_cases c4 : p < 0
      · rw [if_pos c4]
      · rw [if_neg c4, if_pos (by omega)]
  · rw [if_pos (x3.mpr c)]
    exact ⟨fun h => absurd h.1 c, fun _ => rfl⟩
theorem uM_audit {F n : Nat} {M : bz_Mm} {f d p : Int} (h1 : r32 f) (h2 : r32 d) (h3 : r32 p) (hn : 0 ≤ M 1 13 ∧ M 1 13 ≤ 260) (hf : 0 ≤ M 1 14 ∧ M 1 14 ≤ 4) (en : M 81 0 = M 1 13) (ef : M 81 19 = M 1 14) (hH : iv_ho M) (hs : M 81 69 = n) (hc : n ≤ 8) : (p_au M n f d p → fM_audit F M f d p = some ((n : Int) + 1, auM M n f d p)) ∧ (¬ p_au M n f d p → fM_audit F M f d p = some (-1, M)) := by
  obtain ⟨x, x1, x2, x3⟩ := over_both (F := F) h1 h2 hn hf en ef hH
  unfold fM_audit p_au
  simp (disch := omega) only [x2, cl_s, r32_w h3, hs, w32_id (x := (n : Int)), fM_in_0 h3 (⟨by decide, by decide⟩ : r32 0) (⟨by decide, by decide⟩ : r32 10000000)]
  by_cases c : p_over M f d
  · rw [if_neg (fun q => x3.mp q c)]
    by_cases c2 : 0 ≤ p ∧ p ≤ 10000000
    · rw [if_neg (by omega)]
      by_cases c3 : n < 8
      · rw [if_neg (by omega), wa_s c3 (by decide), st_ne (show (81 : Nat) ≠ 227 by decide), hs, wa_s c3 (by decide), st_ne (show (81 : Nat) ≠ 228 by decide), st_ne (show (81 : Nat) ≠ 227 by decide), hs, wa_s c3 (by decide), st_ne (show (81 : Nat) ≠ 229 by decide), st_ne (show (81 : Nat) ≠ 228 by decide), st_ne (show (81 : Nat) ≠ 227 by decide), hs, wf_s, st_eq, ud_eq]
        refine ⟨fun _ => ?_, fun h => absurd ⟨c, c2, c3⟩ h⟩
        unfold auM
        exact Eq.refl _
      · rw [if_pos (by omega)]
        exact ⟨fun h => absurd h.2.2 c3, fun _ => rfl⟩
    · rw [if_pos c2]
      exact ⟨fun h => absurd h.2.1 c2, fun _ => rfl⟩
  · rw [if_pos (x3.mpr c)]
    exact ⟨fun h => absurd h.1 c, fun _ => rfl⟩
