/-! house, balances -/
def lkX (s w r6 r9 : Int) : Int := if w = 1 then (if 0 < r6 then s else 0) else if w = 3 then (if 0 < r9 then s else 0) else s
def gtX (x : Nat) (w : Int) (g : Nat) (r6 r9 : Int) : Nat := if w = 0 then x else if w = 2 then 20 + g else if w = 1 then (if r6 = 1 then 40 else if r6 = 2 then 41 else 20 + g) else (if r9 = 1 then 40 else if r9 = 2 then 41 else 20 + g)
theorem u_getter {F g x : Nat} {k w r6 r9 : Int} {Z : bz_Mm} (hg : g < 4) (hx : x < 24) (hw : 0 ≤ w ∧ w ≤ 3) (h3 : Z 65 3 = g) (h4 : Z 65 4 = k) (l6 : fUL_value F Z (g : Int) k 6 = some r6) (l9 : fUL_value F Z (g : Int) k 9 = some r9) (b6 : 0 ≤ r6 ∧ r6 ≤ 2) (b9 : 0 ≤ r9 ∧ r9 ≤ 2) : fUQ_getterOf F Z (x : Int) w = some ((gtX x w g r6 r9 : Nat) : Int) := by
  unfold fUQ_getterOf gtX
  rw [h3, h4, lt_x, w32_id (x := w) (by omega) (by omega)]
  by_cases c0 : w = 0
  · rw [if_pos c0, if_pos c0]
  rw [if_neg c0, if_neg c0]
  by_cases c2 : w = 2
  · rw [if_pos c2, if_pos c2]; rfl
  rw [if_neg c2, if_neg c2]
  by_cases c1 : w = 1
  · rw [if_pos c1, if_pos c1, cl1_s, l6, cl_s, w32_id (x := r6) (by omega) (by omega)]
    by_cases d1 : r6 = 1
    · rw [if_pos d1, if_pos d1]; rfl
    · rw [if_neg d1, if_neg d1]
      by_cases d2 : r6 = 2
      · rw [if_pos d2, if_pos d2]; rfl
      · rw [if_neg d2, if_neg d2]; rfl
  · rw [if_neg c1, if_neg c1, cl1_s, l9, cl_s, w32_id (x := r9) (by omega) (by omega)]
    by_cases d1 : r9 = 1
    · rw [if_pos d1, if_pos d1]; rfl
    · rw [if_neg d1, if_neg d1]
      by_cases d2 : r9 = 2
      · rw [if_pos d2, if_pos d2]; rfl
      · rw [if_neg d2, if_neg d2]; rfl
theorem gtX_r {x g : Nat} {w r6 r9 : Int} (hx : x < 24) (hg : g < 4) : gtX x w g r6 r9 < 42 := by
  unfold gtX
  repeat' split
  all_goals omega
theorem u_lack {F g : Nat} {k r6 r9 : Int} {Z : bz_Mm} {sm wy : Nat → Int} (hF : 300 < F) (hg : g < 4) (h3 : Z 65 3 = g) (h4 : Z 65 4 = k) (l6 : fUL_value F Z (g : Int) k 6 = some r6) (l9 : fUL_value F Z (g : Int) k 9 = some r9) (b6 : 0 ≤ r6 ∧ r6 ≤ 2) (b9 : 0 ≤ r9 ∧ r9 ≤ 2) (hs : ∀ x : Nat, x < 24 → fUQ_sumOf F Z (x : Int) = some (sm x) ∧ fUQ_wayOf F Z (x : Int) = some (wy x) ∧ 0 ≤ wy x ∧ wy x ≤ 3) (h0 : sm (20 + g) = 0) : fUQ_lacking F Z = some (sumr (fun x => lkX (sm x) (wy x) r6 r9) 0 24 (Z 55 g - Z 54 g)) := by
  have lp : ∀ (m fuel x : Nat) (a : Int), x + m = 24 → m < fuel → UQ_lacking_L23 F fuel Z (x : Int) a = some (sumr (fun x => lkX (sm x) (wy x) r6 r9) x m a) := by
    intro m
    induction m with
    | zero =>
      intro fuel x a e1 e2
      obtain ⟨fuel, rfl⟩ : ∃ j, fuel = j + 1 := ⟨fuel - 1, by omega⟩
      rw [UQ_lacking_L23, w32_n (show x ≤ 2147483647 by omega), if_neg (by omega)]; rfl
    | succ m ih =>
      intro fuel x a e1 e2
      obtain ⟨fuel, rfl⟩ : ∃ j, fuel = j + 1 := ⟨fuel - 1, by omega⟩
      obtain ⟨s1, s2, s3⟩ := hs x (by omega)
      have gt := u_getter (F := F) (x := x) (w := wy x) hg (by omega) s3 h3 h4 l6 l9 b6 b9
      have gr := gtX_r (x := x) (g := g) (w := wy x) (r6 := r6) (r9 := r9) (by omega) hg
      have e : (x : Int) + 1 = ((x + 1 : Nat) : Int) := by omega
      have st : ∀ b : Int, b = a + lkX (sm x) (wy x) r6 r9 → UQ_lacking_L23 F fuel Z ((x + 1 : Nat) : Int) b = some (sumr (fun x => lkX (sm x) (wy x) r6 r9) x (m + 1) a) := fun b hb => by
        rw [ih fuel (x + 1) b (by omega) (by omega), hb, sumr_S]
      rw [UQ_lacking_L23, w32_n (show x ≤ 2147483647 by omega), if_pos (by omega), s1, cl_s, s2, cl_s, w32_id (x := wy x) (by omega) (by omega), h3, e]
      by_cases c2 : wy x = 2
      · rw [if_pos c2, cl1_s, w32_0, if_pos rfl, lt_x]
        exact st _ (by unfold lkX; rw [if_neg (by omega), if_neg (by omega)])
      · rw [if_neg c2, gt, cl_s, w32_n (show gtX x (wy x) g r6 r9 ≤ 2147483647 by omega), w32_id (x := 20 + (g : Int)) (by omega) (by omega)]
        by_cases cg : ((gtX x (wy x) g r6 r9 : Nat) : Int) = 20 + (g : Int)
        · rw [if_pos cg, cl1_s, w32_1p, if_neg (by decide)]
          refine st _ ?_
          unfold gtX at cg
          unfold lkX
          by_cases c0 : wy x = 0
          · rw [if_pos c0] at cg
            rw [if_neg (by omega), if_neg (by omega), show x = 20 + g by omega, h0]; omega
          · rw [if_neg c0, if_neg c2] at cg
            by_cases c1 : wy x = 1
            · rw [if_pos c1] at cg
              rw [if_pos c1, if_neg]
              · omega
              · intro q
                by_cases d1 : r6 = 1
                · rw [if_pos d1] at cg; omega
                · rw [if_neg d1, if_pos (by omega)] at cg; omega
            · rw [if_neg c1] at cg
              rw [if_neg c1, if_pos (by omega), if_neg]
              · omega
              · intro q
                by_cases d1 : r9 = 1
                · rw [if_pos d1] at cg; omega
                · rw [if_neg d1, if_pos (by omega)] at cg; omega
        · rw [if_neg cg, cl1_s, w32_0, if_pos rfl, lt_x]
          refine st _ ?_
          unfold gtX at cg
          unfold lkX
          by_cases c0 : wy x = 0
          · rw [if_neg (by omega), if_neg (by omega)]
          · rw [if_neg c0, if_neg c2] at cg
            by_cases c1 : wy x = 1
            · rw [if_pos c1] at cg
              rw [if_pos c1, if_pos]
              by_cases d : 0 < r6
              · exact d
              · rw [if_neg (by omega), if_neg (by omega)] at cg; omega
            · rw [if_neg c1] at cg
              rw [if_neg c1, if_pos (by omega), if_pos]
              by_cases d : 0 < r9
              · exact d
              · rw [if_neg (by omega), if_neg (by omega)] at cg; omega
  have t := lp 24 F 0 (Z 55 g - Z 54 g) (by omega) (by omega)
  rw [show ((0 : Nat) : Int) = 0 from rfl] at t
  unfold fUQ_lacking
  rw [h3, rd_s hg (by decide), rd_s hg (by decide), lt_x, t, cl1_s]
theorem r_goesTo {F g p : Nat} {k r6 r9 : Int} {m : bz_Mm} (hp : p < 20) (hw : 0 ≤ m 226 p ∧ m 226 p ≤ 3) (l6 : fM_ruleOf F m (g : Int) k 6 = some r6) (l9 : fM_ruleOf F m (g : Int) k 9 = some r9) : fM_goesTo F m (g : Int) (p : Int) k = some (if m 226 p = 1 then r6 else if m 226 p = 3 then r9 else -1) := by
  unfold fM_goesTo
  rw [rd_s hp (by decide), rd_s hp (by decide), w32_id (x := m 226 p) (by omega) (by omega), l6, l9, cl_s, cl_s]
  by_cases c1 : m 226 p = 1
  · rw [if_pos c1, if_pos c1]
  · rw [if_neg c1, if_neg c1]
    by_cases c3 : m 226 p = 3
    · rw [if_pos c3, if_pos c3]
    · rw [if_neg c3, if_neg c3]
theorem r_lack {F g : Nat} {k r6 r9 a : Int} {m : bz_Mm} (hF : 300 < F) (l6 : fM_ruleOf F m (g : Int) k 6 = some r6) (l9 : fM_ruleOf F m (g : Int) k 9 = some r9) (b6 : 0 ≤ r6 ∧ r6 ≤ 2) (b9 : 0 ≤ r9 ∧ r9 ≤ 2) (hs : ∀ p, p < 20 → r64 (m 225 p) ∧ (0 ≤ m 226 p ∧ m 226 p ≤ 3) ∧ (m 225 p ≤ 0 → m 226 p = 0)) : M_houseOwes_L31 F F m (g : Int) k 0 a = some (sumr (fun p => lkX (m 225 p) (m 226 p) r6 r9) 0 20 a) := by
  have lp : ∀ (j fuel p : Nat) (a : Int), p + j = 20 → j < fuel → M_houseOwes_L31 F fuel m (g : Int) k (p : Int) a = some (sumr (fun p => lkX (m 225 p) (m 226 p) r6 r9) p j a) := by
    intro j
    induction j with
    | zero =>
      intro fuel p a e1 e2
      obtain ⟨fuel, rfl⟩ : ∃ j, fuel = j + 1 := ⟨fuel - 1, by omega⟩
      rw [M_houseOwes_L31, w32_n (show p ≤ 2147483647 by omega), if_neg (by omega)]; rfl
    | succ j ih =>
      intro fuel p a e1 e2
      obtain ⟨fuel, rfl⟩ : ∃ j, fuel = j + 1 := ⟨fuel - 1, by omega⟩
      obtain ⟨s1, s2, s3⟩ := hs p (by omega)
      have e : (p : Int) + 1 = ((p + 1 : Nat) : Int) := by omega
      have st : ∀ b : Int, b = a + lkX (m 225 p) (m 226 p) r6 r9 → M_houseOwes_L31 F fuel m (g : Int) k ((p + 1 : Nat) : Int) b = some (sumr (fun p => lkX (m 225 p) (m 226 p) r6 r9) p (j + 1) a) := fun b hb => by
        rw [ih fuel (p + 1) b (by omega) (by omega), hb, sumr_S]
      have gt := r_goesTo (F := F) (g := g) (k := k) (m := m) (p := p) (by omega) s2 l6 l9
      rw [M_houseOwes_L31, w32_n (show p ≤ 2147483647 by omega), if_pos (by omega), rd_s (by omega) (by decide), r64_w s1, rd_s (by omega) (by decide), rd_s (by omega) (by decide), w32_id (x := m 226 p) (by omega) (by omega), e]
      by_cases c : m 225 p < 0
      · rw [if_pos c, lt_x]
        refine st _ ?_
        have := s3 (by omega)
        unfold lkX
        rw [if_neg (by omega), if_neg (by omega)]
      rw [if_neg c]
      by_cases c0 : m 226 p = 0
      · rw [if_pos c0, lt_x]
        exact st _ (by unfold lkX; rw [if_neg (by omega), if_neg (by omega)])
      rw [if_neg c0, rd_s (by omega) (by decide), w32_id (x := m 226 p) (by omega) (by omega)]
      by_cases c2 : m 226 p = 2
      · rw [if_pos c2, lt_x]
        exact st _ (by unfold lkX; rw [if_neg (by omega), if_neg (by omega)])
      rw [if_neg c2, gt, cl_s]
      by_cases c1 : m 226 p = 1
      · rw [if_pos c1, w32_id (x := r6) (by omega) (by omega)]
        by_cases d : 0 < r6
        · rw [if_pos d, lt_x]
          exact st _ (by unfold lkX; rw [if_pos c1, if_pos d])
        · rw [if_neg d]
          exact st _ (by unfold lkX; rw [if_pos c1, if_neg d, Int.add_zero])
      · rw [if_neg c1, if_pos (show m 226 p = 3 by omega), w32_id (x := r9) (by omega) (by omega)]
        by_cases d : 0 < r9
        · rw [if_pos d, lt_x]
          exact st _ (by unfold lkX; rw [if_neg c1, if_pos (by omega), if_pos d])
        · rw [if_neg d]
          exact st _ (by unfold lkX; rw [if_neg c1, if_pos (by omega), if_neg d, Int.add_zero])
  have t := lp 20 F 0 a (by omega) (by omega)
  exact t
theorem rl6 {v : Int} (h : rl_ok 6 v) : 0 ≤ v ∧ v ≤ 2 := by
  unfold rl_ok at h
  simp at h
  omega
theorem rl9 {v : Int} (h : rl_ok 9 v) : 0 ≤ v ∧ v ≤ 2 := by
  unfold rl_ok at h
  simp at h
  omega
/-- all rules of a told state -/
theorem ru_it {F : Nat} {M : bz_Mm} {k : Int} {g w n nf nt nd nl now : Nat} (hF : 500 < F) (hI : IT M n nf nt nd nl now) (hg : g < 4) (hk : 0 ≤ k ∧ k ≤ 259) (hw : w < 12) : fM_ruleOf F M (g : Int) k (w : Int) = some (rv M g k w) ∧ fUL_value F M (g : Int) k (w : Int) = some (rv M g k w) ∧ rl_ok w (rv M g k w) := by
  obtain ⟨a, b, c, -⟩ := rule_k (F := F) (n := nl) (f := g) (w := w) (M := M) (k := k) (by omega) hI.2.2.2.2.2.2.1 hg (by omega) hw
  exact ⟨a, b, c⟩
theorem eq_house {F : Nat} {M : bz_Mm} {a1 a2 : Int} {n nf nt nd nl nh now : Nat} (hF : 500 < F) (h1 : r32 a1) (h2 : r32 a2) (h : IQ M n nf nt nd nl now) (hH : IH M nf nd nh) : ∃ x y, fU_house F M a1 a2 = some x ∧ fM_house F x.2 a1 a2 = some y ∧ w32 x.1 = w32 y.1 ∧ QY M y.2 n nf nt nd nl now := by
  have hI := h.1
  have hL := hI.2.2.2.2.2.2.1
  have nf4 := hI.2.1.2.2
  obtain ⟨k1, k2, k3, k4, k5⟩ := kn_U hI
  obtain ⟨fU, fM⟩ := fund_it h1 hI
  unfold fU_house fM_house
  rw [r32_w h2]
  by_cases c : 0 ≤ a1 ∧ a1 < (nf : Int)
  · rw [if_neg (fun q => fU.mp q c)]
    by_cases c2 : 0 ≤ a2 ∧ a2 ≤ (knw now : Int)
    · obtain ⟨g, rfl⟩ : ∃ g : Nat, a1 = g := ⟨a1.toNat, by omega⟩
      have g4 : g < 4 := by omega
      have kb : 0 ≤ a2 ∧ a2 ≤ 259 := by omega
      obtain ⟨M', M2, ⟨b1, b2⟩, ⟨q1, q2a⟩, s65, rest⟩ := ask_both (k := a2) hF h hH kb (show g < nf by omega)
      obtain ⟨y, _, sm, wy, ⟨b3, b4⟩, q3, cl, s0, su, c55⟩ := rest M2 (fun _ _ => rfl)
      obtain ⟨z, b5, q4, cz, c54, _⟩ := b4 y (fun _ _ => rfl)
      have q2 := q2a M2 (fun _ _ => rfl)
      obtain ⟨sw, sz⟩ := su M2 (fun _ _ => rfl)
      obtain ⟨-, l6, o6⟩ := ru_it (w := 6) hF q2.1.1 g4 kb (by decide)
      obtain ⟨-, l9, o9⟩ := ru_it (w := 9) hF q2.1.1 g4 kb (by decide)
      obtain ⟨m6, -, -⟩ := ru_it (w := 6) hF q4.1.1 g4 kb (by decide)
      obtain ⟨m9, -, -⟩ := ru_it (w := 9) hF q4.1.1 g4 kb (by decide)
      rw [rv_fr hL q2.2.1 g4, show ((6 : Nat) : Int) = 6 from rfl] at l6
      rw [rv_fr hL q2.2.1 g4, show ((9 : Nat) : Int) = 9 from rfl] at l9
      rw [rv_fr hL q2.2.1 g4] at o6 o9
      rw [rv_fr hL q4.2.1 g4, show ((6 : Nat) : Int) = 6 from rfl] at m6
      rw [rv_fr hL q4.2.1 g4, show ((9 : Nat) : Int) = 9 from rfl] at m9
      have uu := u_lack (F := F) (Z := M2) (sm := smC sm) (wy := smC wy) (by omega) g4 s65.1 s65.2 l6 l9 (rl6 o6) (rl9 o9) (fun x hx => by
        rcases wc_all hx with t | ⟨p, hp, e⟩
        · rw [smC_z t.1 t.2, smC_z t.1 t.2]; exact ⟨(sz x t.1 t.2).1, (sz x t.1 t.2).2, by omega, by omega⟩
        · rw [e, smC_w hp, smC_w hp]; exact ⟨(sw p hp).1, (sw p hp).2, (cl p hp).2.2.2.2.2.1⟩) (by
        have := smC_w (sm := sm) (p := 16 + g) (by omega)
        rw [show wc (16 + g) = 20 + g by unfold wc; rw [if_neg (by omega)]; omega] at this
        rw [this]; exact s0)
      have rr := r_lack (F := F) (g := g) (k := a2) (m := z) (a := y 188 g - z 188 g) (by omega) m6 m9 (rl6 o6) (rl9 o9) (fun p hp => by
        obtain ⟨t1, t2⟩ := cz p hp
        obtain ⟨_, _, _, _, t3, t4, t5⟩ := cl p hp
        rw [t1, t2]; exact ⟨⟨by omega, by omega⟩, t4, t5⟩)
      have es : sumr (fun x => lkX (smC sm x) (smC wy x) (rv M g a2 6) (rv M g a2 9)) 0 24 (M2 55 g - M2 54 g) = sumr (fun p => lkX (z 225 p) (z 226 p) (rv M g a2 6) (rv M g a2 9)) 0 20 (y 188 g - z 188 g) := by
        rw [c55, c54]
        exact sum24 (fun p hp => by rw [smC_w hp, smC_w hp, (cz p hp).1, (cz p hp).2]) (fun x x1 x2 => by rw [smC_z x1 x2, smC_z x1 x2]; rfl)
      rw [if_neg (by omega), k1, w32_n (show knw now ≤ 2147483647 by omega), if_neg (by omega), b1, cl_s, b2, cl_s, uu, cl_s]
      refine ⟨_, (fM_told (sumr (fun p => lkX (z 225 p) (z 226 p) (rv M g a2 6) (rv M g a2 9)) 0 20 (y 188 g - z 188 g)), z), rfl, ?_, ?_, q4⟩
      · dsimp only
        unfold fM_houseOwes
        rw [if_neg (fun q => (fund_it h1 q2.1.1).2.mp q c), if_neg (fun q => (kd_it h2 q2.1.1).mp q c2), b3, cl_s, rd_s g4 (by decide), b5, cl_s, rd_s g4 (by decide), lt_x, rr, cl1_s]
        rfl
      · dsimp only
        rw [told_eq, es]
    · refine ⟨(-2147483648, M), (-2147483648, M), ?_, ?_, rfl, QY.r h⟩
      · by_cases c3 : a2 < 0
        · rw [if_pos c3]
        · rw [if_neg c3, k1, w32_n (show knw now ≤ 2147483647 by omega), if_pos (by omega)]
      · dsimp only
        rw [if_neg (fun q => fM.mp q c), if_pos ((kd_it h2 hI).mpr c2)]
  · refine ⟨(-2147483648, M), (-2147483648, M), by rw [if_pos (fU.mpr c)], ?_, rfl, QY.r h⟩
    dsimp only
    rw [if_pos (fM.mpr c)]
