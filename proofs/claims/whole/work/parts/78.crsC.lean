/-! the walk, side by side -/
theorem sBeg_cl {nd : Nat} {K : bz_Mm} : (∀ f, f < 4 → sBeg nd K 188 f = w32 (K 93 f) ∧ sBeg nd K 210 f = 0 ∧ (∀ p, p < 8 → sBeg nd K (191 + f) p = 0) ∧ ∀ w, w < 20 → sBeg nd K (206 + f) w = 0) ∧ (∀ i, i < nd → sBeg nd K 189 i = 0) ∧ ∀ q, (q < 188 ∨ q = 190 ∨ (194 < q ∧ q < 206) ∨ 210 < q) → sBeg nd K q = K q := by
  have z : ∀ (r : Nat) (g : bz_Mm → Nat → bz_Mm), (∀ W i, g W i = st_ W r i 0) → ∀ (m i : Nat) (W : bz_Mm), (∀ p, i ≤ p → p < i + m → itr g i m W r p = 0) ∧ ∀ p, p < i → itr g i m W r p = W r p := by
    intro r g hg m
    induction m with
    | zero => intro i W; exact ⟨fun p a b => by omega, fun p _ => rfl⟩
    | succ m ih =>
      intro i W
      obtain ⟨a, b⟩ := ih (i + 1) (g W i)
      rw [itr_S]
      refine ⟨fun p x y => ?_, fun p hp => ?_⟩
      · by_cases c : p = i
        · subst c; rw [b p (by omega), hg, st_eq, ud_eq]
        · exact a p (by omega) (by omega)
      · rw [b p (by omega), hg, st_eq, ud_ne (by omega)]
  have o1 : ∀ f q, q ≠ 191 + f → ∀ W i, gB1 f W i q = W q := fun f q h W i => by unfold gB1; exact st_ne h
  have o2 : ∀ f q, q ≠ 206 + f → ∀ W i, gB2 f W i q = W q := fun f q h W i => by unfold gB2; exact st_ne h
  have o3 : ∀ q, q ≠ 189 → ∀ W i, gB3 W i q = W q := fun q h W i => by unfold gB3; exact st_ne h
  have gb : ∀ (f : Nat) (W : bz_Mm), f < 4 → gB W f 188 = ud (W 188) f (w32 (W 93 f)) ∧ gB W f 210 = ud (W 210) f 0 ∧ (∀ p, p < 8 → gB W f (191 + f) p = 0) ∧ (∀ w, w < 20 → gB W f (206 + f) w = 0) ∧ ∀ q, q ≠ 188 → q ≠ 210 → q ≠ 191 + f → q ≠ 206 + f → gB W f q = W q := fun f W hf => by
    unfold gB
    refine ⟨?_, ?_, fun p hp => ?_, fun w hw => ?_, fun q x1 x2 x3 x4 => ?_⟩
    · rw [itr_o (o2 f 188 (by omega)), itr_o (o1 f 188 (by omega)), st_ne (by decide), st_eq]
    · rw [itr_o (o2 f 210 (by omega)), itr_o (o1 f 210 (by omega)), st_eq, st_ne (by decide)]
    · rw [itr_o (o2 f (191 + f) (by omega))]
      exact (z (191 + f) (gB1 f) (fun W i => rfl) 8 0 _).1 p (by omega) (by omega)
    · exact (z (206 + f) (gB2 f) (fun W i => rfl) 20 0 _).1 w (by omega) (by omega)
    · rw [itr_o (o2 f q x4), itr_o (o1 f q x3), st_ne x2, st_ne x1]
  have key : ∀ (m f : Nat) (W : bz_Mm), f + m = 4 → (∀ q, q < 188 → W q = K q) → (∀ g, f ≤ g → g < 4 → itr gB f m W 188 g = w32 (K 93 g) ∧ itr gB f m W 210 g = 0 ∧ (∀ p, p < 8 → itr gB f m W (191 + g) p = 0) ∧ ∀ w, w < 20 → itr gB f m W (206 + g) w = 0) ∧ (∀ g, g < f → itr gB f m W 188 g = W 188 g ∧ itr gB f m W 210 g = W 210 g ∧ itr gB f m W (191 + g) = W (191 + g) ∧ itr gB f m W (206 + g) = W (206 + g)) ∧ ∀ q, (q < 188 ∨ q = 189 ∨ q = 190 ∨ (194 < q ∧ q < 206) ∨ 210 < q) → itr gB f m W q = W q := by
    intro m
    induction m with
    | zero => intro f W h1 h2; exact ⟨fun g a b => by omega, fun g _ => ⟨rfl, rfl, rfl, rfl⟩, fun q _ => rfl⟩
    | succ m ih =>
      intro f W h1 h2
      obtain ⟨g1, g2, g3, g4, g5⟩ := gb f W (by omega)
      obtain ⟨a, b, c⟩ := ih (f + 1) (gB W f) (by omega) (fun q hq => by rw [g5 q (by omega) (by omega) (by omega) (by omega)]; exact h2 q hq)
      rw [itr_S]
      refine ⟨fun g x y => ?_, fun g hg => ?_, fun q hq => by rw [c q hq, g5 q (by omega) (by omega) (by omega) (by omega)]⟩
      · by_cases e : g = f
        · subst e
          obtain ⟨y1, y2, y3, y4⟩ := b g (by omega)
          rw [y1, y2, y3, y4, g1, g2, ud_eq, ud_eq, h2 93 (by decide)]
          exact ⟨rfl, rfl, g3, g4⟩
        · exact a g (by omega) y
      · obtain ⟨y1, y2, y3, y4⟩ := b g (by omega)
        rw [y1, y2, y3, y4, g1, g2, ud_ne (by omega), ud_ne (by omega), g5 (191 + g) (by omega) (by omega) (by omega) (by omega), g5 (206 + g) (by omega) (by omega) (by omega) (by omega)]
        exact ⟨rfl, rfl, rfl, rfl⟩
  obtain ⟨a, b, c⟩ := key 4 0 K (by decide) (fun _ _ => rfl)
  unfold sBeg
  refine ⟨fun f hf => ?_, fun i hi => ?_, fun q hq => ?_⟩
  · rw [itr_o (o3 188 (by decide)), itr_o (o3 210 (by decide)), itr_o (o3 (191 + f) (by omega)), itr_o (o3 (206 + f) (by omega))]
    exact a f (by omega) hf
  · exact (z 189 gB3 (fun W i => rfl) nd 0 _).1 i (by omega) (by omega)
  · rw [itr_o (o3 q (by omega))]; exact c q (by omega)
/-- the class's start -/
theorem uUC_start {F : Nat} {M : bz_Mm} (hF : 100 < F) : ∃ M', fUC_start F M = some M' ∧ (∀ q, (q < 53 ∨ q = 56 ∨ q = 57 ∨ 62 < q) → M' q = M q) ∧ (∀ j, (j < 11 ∨ j = 15 ∨ 17 < j) → M' 53 j = M 53 j) ∧ (M' 53 11 = 1 ∧ M' 53 12 = 1 ∧ M' 53 13 = 0 ∧ M' 53 14 = 0 ∧ M' 53 16 = 0 ∧ M' 53 17 = -1) ∧ (∀ j, j < 4 → M' 54 j = M 2 j ∧ M' 55 j = M 2 j ∧ M' 60 j = 0) ∧ (∀ j, j < 32 → M' 58 j = 0) ∧ (∀ j, j < 16 → M' 59 j = 0) ∧ (∀ j, j < 8 → M' 61 j = 0) ∧ ∀ j, j < 3 → M' 62 j = 1000 := by
  unfold fUC_start
  have cp : ∀ (X : bz_Mm) (a b n : Nat) (kk : bz_Mm → Option bz_Mm), cp_ X a b n kk = kk (fun q => if q = b then (fun j => if j < n then X a j else X b j) else X q) := fun _ _ _ _ _ => rfl
  rw [cp, cp, uJA_fill1 (by omega) (by decide), cl_s, uJA_fill1 (by omega) (by decide), cl_s, uJA_fill1 (by omega) (by decide), cl_s, uJA_fill1 (by omega) (by decide), cl_s, uJA_fill1 (by omega) (by decide), cl_s, wf_s, wf_s, wf_s, wf_s, wf_s, wf_s]
  generalize hX2 : (fun q => if q = 55 then (fun j => if j < 4 then (fun q => if q = 54 then (fun j => if j < 4 then M 2 j else M 54 j) else M q) 2 j else (fun q => if q = 54 then (fun j => if j < 4 then M 2 j else M 54 j) else M q) 55 j) else (fun q => if q = 54 then (fun j => if j < 4 then M 2 j else M 54 j) else M q) q : bz_Mm) = X2
  have x54 : ∀ j, j < 4 → X2 54 j = M 2 j := fun j hj => by
    rw [← hX2]; show (if j < 4 then M 2 j else M 54 j) = _; rw [if_pos hj]
  have x55 : ∀ j, j < 4 → X2 55 j = M 2 j := fun j hj => by
    rw [← hX2]; show (if j < 4 then M 2 j else M 55 j) = _; rw [if_pos hj]
  have xo : ∀ q, q ≠ 54 → q ≠ 55 → X2 q = M q := fun q h1 h2 => by
    rw [← hX2]
    show (if q = 55 then _ else if q = 54 then _ else M q) = _
    rw [if_neg h2, if_neg h1]
  refine ⟨_, rfl, fun q hq => ?_, fun j hj => ?_, ⟨?_, ?_, ?_, ?_, ?_, ?_⟩, fun j hj => ⟨?_, ?_, ?_⟩, fun j hj => ?_, fun j hj => ?_, fun j hj => ?_, fun j hj => ?_⟩
  · rw [st_ne (by omega), st_ne (by omega), st_ne (by omega), st_ne (by omega), st_ne (by omega), st_ne (by omega), flz_o (by omega), flz_o (by omega), flz_o (by omega), flz_o (by omega), flz_o (by omega), xo q (by omega) (by omega)]
  · rw [st_eq, ud_ne (by omega), st_eq, ud_ne (by omega), st_eq, ud_ne (by omega), st_eq, ud_ne (by omega), st_eq, ud_ne (by omega), st_eq, ud_ne (by omega), flz_o (by decide), flz_o (by decide), flz_o (by decide), flz_o (by decide), flz_o (by decide), xo 53 (by decide) (by decide)]
  · simp [st_, ud]
  · simp [st_, ud]
  · simp [st_, ud]
  · simp [st_, ud]
  · simp [st_, ud]
  · simp [st_, ud]
  · rw [st_ne (by decide), st_ne (by decide), st_ne (by decide), st_ne (by decide), st_ne (by decide), st_ne (by decide), flz_o (by decide), flz_o (by decide), flz_o (by decide), flz_o (by decide), flz_o (by decide)]; exact x54 j hj
  · rw [st_ne (by decide), st_ne (by decide), st_ne (by decide), st_ne (by decide), st_ne (by decide), st_ne (by decide), flz_o (by decide), flz_o (by decide), flz_o (by decide), flz_o (by decide), flz_o (by decide)]; exact x55 j hj
  · rw [st_ne (by decide), st_ne (by decide), st_ne (by decide), st_ne (by decide), st_ne (by decide), st_ne (by decide), flz_o (by decide), flz_o (by decide), flz_e, if_pos (by omega)]
  · rw [st_ne (by decide), st_ne (by decide), st_ne (by decide), st_ne (by decide), st_ne (by decide), st_ne (by decide), flz_o (by decide), flz_o (by decide), flz_o (by decide), flz_o (by decide), flz_e, if_pos (by omega)]
  · rw [st_ne (by decide), st_ne (by decide), st_ne (by decide), st_ne (by decide), st_ne (by decide), st_ne (by decide), flz_o (by decide), flz_o (by decide), flz_o (by decide), flz_e, if_pos (by omega)]
  · rw [st_ne (by decide), st_ne (by decide), st_ne (by decide), st_ne (by decide), st_ne (by decide), st_ne (by decide), flz_o (by decide), flz_e, if_pos (by omega)]
  · rw [st_ne (by decide), st_ne (by decide), st_ne (by decide), st_ne (by decide), st_ne (by decide), st_ne (by decide), flz_e, if_pos (by omega)]
theorem sd_start {F : Nat} {K M : bz_Mm} {k : Int} {n nf nt nd nl T : Nat} (hF : 100 < F) (hS : STc K M k n nf nt nd nl T) (hc : ∀ g, g < nf → M 2 g = w32 (K 93 g)) : ∃ M', fUC_start F M = some M' ∧ (∀ q, (q < 53 ∨ q = 56 ∨ q = 57 ∨ 62 < q) → M' q = M q) ∧ (∀ j, (j < 11 ∨ j = 15 ∨ 17 < j) → M' 53 j = M 53 j) ∧ M' 53 17 = -1 ∧ STc K M' k n nf nt nd nl T ∧ SD K M' k n nf nt nd 0 M' (sBeg nd K) (sBeg nd K) := by
  obtain ⟨M', a1, a2, a3, a4, a5, a6, a7, a8, a9⟩ := uUC_start (F := F) (M := M) hF
  have hday := hS.day
  have hS' : STc K M' k n nf nt nd nl T := by
    obtain ⟨hA, hT, hDA, h14, hC, hK, ⟨hL, hLq⟩, h43, h7, h0, hal, hfee⟩ := hS
    have f5 : ∀ q, q < 53 → M' q = M q := fun q hq => a2 q (by omega)
    refine ⟨hA.c f5, hT.c f5, hDA.c (fun q hq => f5 q (by omega)), ?_, ?_, hK, ⟨iv_la.c (fun q hq => a2 q (by omega)) (by rw [a2 81 (by decide)]) hL, fun q hq => by rw [a2 q (by omega)]; exact hLq q hq⟩, by rw [a2 81 (by decide)]; exact h43, ?_, h0, hal, ?_⟩
    · rw [f5 1 (by decide)]; exact h14
    · rw [f5 6 (by decide)]; exact hC
    · rw [f5 7 (by decide)]; exact h7
    · rw [f5 49 (by decide)]; exact hfee
  refine ⟨M', a1, a2, a3, a4.2.2.2.2.2, hS', ?_⟩
  obtain ⟨hA, hT, hDA, ⟨h14, hnf⟩, hC, hK, ⟨hL, hLq⟩, h43, h7, h0, hal, hfee⟩ := hS'
  obtain ⟨b1, b2, b3⟩ := sBeg_cl (nd := nd) (K := K)
  have u0 : ∀ g, ∀ m, m ≤ nd → usm K g 0 m = 0 := fun g m => by
    induction m with
    | zero => intro _; rfl
    | succ m ih => intro hm; have := hday m (by omega); rw [usm_S, ih (by omega), if_neg (by omega)]; omega
  have h00 : ∀ x g, ∀ m, m ≤ nd → hsm K x g 0 m = 0 := fun x g m => by
    induction m with
    | zero => intro _; rfl
    | succ m ih => intro hm; have := hday m (by omega); rw [hsm_S, ih (by omega), if_neg (by omega)]; omega
  have nodn : ∀ i, i < nd → ¬ dnx K 0 0 i := fun i hi q => by
    have h1 := hday i hi
    have h2 := (hDA.2.2 i hi).2.2.1
    have := q.2
    omega
  refine ⟨⟨fun _ _ _ => rfl, ⟨rfl, rfl, rfl, rfl, rfl⟩, fun _ _ _ _ => rfl, fun q hq => ⟨b3 q (by omega), b3 q (by omega)⟩, fun g hg => ⟨fun q => by omega, fun _ => ?_⟩, fun g p hg hp => ⟨fun q => by omega, fun _ => ?_⟩, fun g hg => ?_, fun x y hx hy => ?_, fun g d hg hd hop => by omega, fun i hi => ⟨fun q => absurd q (nodn i hi), fun _ => ⟨b2 i hi, b2 i hi, rfl⟩⟩, fun _ _ => rfl⟩, fun g p hg hp => ?_, ⟨0, 0, 0, ⟨a4.2.2.1, ptr_0 hA.2.1⟩, ⟨a4.2.2.2.1, ptr_0 hT.2.1⟩, ⟨a4.2.2.2.2.1, ptr_0 hDA.2.1⟩⟩, ⟨Or.inr a4.1, Or.inr a4.2.1, fun q => by rw [a4.1] at q; omega, fun q => by rw [a4.2.1] at q; omega⟩, fun s nr hs hnr h3 => ?_, fun _ _ => rfl⟩
  · have zf : feF (sBeg nd K) g 0 0 nd = 0 := feF_0 nd (fun i hi => by rw [b3 104 (by omega)]; exact (hDA.2.2 i hi).2.2.1.1)
    have := b1 g (by omega)
    have := a5 g (by omega)
    have := hc g hg
    rw [zf]
    dsimp only
    exact ⟨by omega, by omega⟩
  · have e : pcs M' g p = 0 := a6 (g * 8 + p) (by omega)
    rw [e]
    have := (b1 g (by omega)).2.2.1 p hp
    exact ⟨this, this⟩
  · rw [(b1 g hg).2.1, (a5 g hg).2.2, if_neg (by omega), u0 g nd (Nat.le_refl nd)]
    exact ⟨rfl, rfl, rfl⟩
  · rw [(b1 y hy).2.2.2 (16 + x) (by omega), a7 (x * 4 + y) (by omega), if_neg (by omega), h00 x y nd (Nat.le_refl nd)]
    exact ⟨rfl, rfl, rfl⟩
  · rw [a6 (g * 8 + p) (by omega)]; omega
  · match s, hs with
    | 0, _ => exact a8 nr hnr
    | 1, _ => exact a9 nr (h3 rfl)
theorem gDay_0 {L nf nt nd d : Nat} {W : bz_Mm} : gDay 0 L nf nt nd W d = itr (gGo d nt nd 0 0) 0 nf W := rfl
theorem gDay_2 {L nf nt nd d : Nat} {W : bz_Mm} : gDay 2 L nf nt nd W d = itr (gGo d nt nd 1 0) 0 nf W := rfl
theorem walk_L {F : Nat} {K M0 : bz_Mm} {k : Int} {n nf nt nd nl T N L : Nat} (hF : 500 < F) (hN : N ≤ T) (hT : T ≤ 260) (hS : STc K M0 k n nf nt nd nl T) : ∀ (m fuel D : Nat) (Mu WR WB : bz_Mm), D + m = N → m < fuel → SD K M0 k n nf nt nd D Mu WR WB → ∃ Mu', UC_walkTo_L34 F fuel ((N : Int) - 1) k (D : Int) Mu = some Mu' ∧ UC_walkTo_L34a F fuel ((N : Int) - 1) k (D : Int) Mu = some Mu' ∧ SD K M0 k n nf nt nd N Mu' (itr (gDay 0 L nf nt nd) D m WR) (itr (gDay 2 L nf nt nd) D m WB) := by
  intro m
  induction m with
  | zero =>
    intro fuel D Mu WR WB h1 h2 h3
    obtain ⟨fuel, rfl⟩ : ∃ j, fuel = j + 1 := ⟨fuel - 1, by omega⟩
    have e : D = N := by omega
    subst e
    refine ⟨Mu, ?_, ?_, h3⟩
    · rw [UC_walkTo_L34, w32_n (by omega), w32_id (x := (D : Int) - 1) (by omega) (by omega), if_pos (by omega)]
    · rw [UC_walkTo_L34a, w32_n (by omega), w32_id (x := (D : Int) - 1) (by omega) (by omega), if_pos (by omega)]
  | succ m ih =>
    intro fuel D Mu WR WB h1 h2 h3
    obtain ⟨fuel, rfl⟩ : ∃ j, fuel = j + 1 := ⟨fuel - 1, by omega⟩
    obtain ⟨M1, a1, a2⟩ := uUC_passDay hF (by omega) (by omega) hS h3
    have e : (D : Int) + 1 = ((D + 1 : Nat) : Int) := by omega
    obtain ⟨M2, b1, b2, b3⟩ := ih fuel (D + 1) M1 _ _ (by omega) (by omega) a2
    refine ⟨M2, ?_, ?_, ?_⟩
    · rw [UC_walkTo_L34, w32_n (show D ≤ 2147483647 by omega), w32_id (x := (N : Int) - 1) (by omega) (by omega), if_neg (by omega), a1, cl_s, e]; exact b1
    · rw [UC_walkTo_L34a, w32_n (show D ≤ 2147483647 by omega), w32_id (x := (N : Int) - 1) (by omega) (by omega), if_neg (by omega), a1, cl_s, e]; exact b2
    · rw [itr_S, itr_S, gDay_0, gDay_2]; exact b3
