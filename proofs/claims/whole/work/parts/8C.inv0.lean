/-! what is told, class and reference in one memory -/
def IT (M : bz_Mm) (n nf nt nd nl now : Nat) : Prop :=
  (M 1 13 = now ∧ M 81 0 = now ∧ now ≤ 260) ∧ (M 1 14 = nf ∧ M 81 19 = nf ∧ nf ≤ 4) ∧ (AL M M n ∧ TE n M) ∧ (TA M M nf nt ∧ M 81 27 = nt) ∧
  (DA M M nf nd ∧ M 81 35 = nd ∧ ∀ i, i < nd → M 39 i = M 105 i ∧ -10000 ≤ M 105 i ∧ M 105 i ≤ 10000) ∧ (∀ p, p < 8 → M 6 p = M 92 p ∧ 0 ≤ M 92 p ∧ M 92 p < 3) ∧ iv_la M nl ∧ (∀ j, j < 260 → M 7 j = M 82 j ∧ r32 (M 82 j)) ∧
  (∀ i, i < nd → (¬ opn (M 82) (M 106 i).toNat = true → M 107 i = 0) ∧ (M 107 i = 0 → M 109 i = 0) ∧ (0 ≤ M 109 i ∧ M 109 i ≤ 1000000000) ∧ ((now : Int) ≤ M 106 i → M 107 i = 0) ∧ M 108 i = if M 106 i < now ∧ opn (M 82) (M 106 i).toNat = true then 1 else 0) ∧
  ((∀ w g D', w < 20 → g < 4 → 0 ≤ hwm M w g D' nd) ∧ ∀ i, i < nd → 0 ≤ hbi M nd i + M 107 i) ∧
  (∀ g d, g < nf → d < now → opn (M 82) d = true → (M 48 (g * 260 + d) = M (212 + g) d ∧ 0 ≤ M 48 (g * 260 + d) ∧ M 48 (g * 260 + d) ≤ 10000000) ∧ M 49 (g * 260 + d) = M (217 + g) d ∧ -10000000000000 ≤ M 49 (g * 260 + d) ∧ M 49 (g * 260 + d) ≤ 10000000000000) ∧
  (∀ g, g < nf → M 2 g = w32 (M 93 g)) ∧ ((∀ t, t < n → M 87 t ≤ now ∧ 0 ≤ M 86 t ∧ M 86 t ≤ 10000) ∧ ∀ t, t < nt → M 102 t ≤ now) ∧
  ((∀ w g, w < 20 → g < 4 → M 43 (plH w g) = hwm M w g now nd) ∧ ∀ g, g < 4 → M 44 g = usm M g now nd)
theorem KW.cc {R M K : bz_Mm} {k : Int} {n : Nat} (h : KW R K k n) (hq : ∀ q, ((44 < q ∧ q < 48) ∨ q = 82 ∨ (87 < q ∧ q < 158) ∨ (210 < q ∧ q < 221)) → R q = M q) (h81 : R 81 43 = M 81 43) (hT : ∀ q t, 83 ≤ q → q ≤ 87 → t < n → R q t = M q t) : KW M K k n := by
  obtain ⟨v1, v2, v3, v4⟩ := h
  refine ⟨?_, fun q hq' => by rw [v2 q hq']; exact hq q hq', ⟨v3.1, by rw [v3.2]; exact h81⟩, fun q t a b c => by rw [v4 q t a b c]; exact hT q t a b c⟩
  unfold KN at v1 ⊢
  have kc := fun s nr d => kv_p (M := M) (M' := R) hT s nr k d
  simp only [kc] at v1
  exact v1
theorem IT.rt {M : bz_Mm} {n nf nt nd nl now : Nat} (h : IT M n nf nt nd nl now) : RT nl nt nd M := by
  obtain ⟨i1, i2, ⟨i3, i3b⟩, ⟨i4, i4b⟩, ⟨i5, i5b, i5c⟩, i6, i7, i8, _⟩ := h
  refine ⟨by rw [i2.2.1]; have := i2.2.2; omega, ⟨i4b, i4.1.2⟩, ⟨i5b, i5.1.2⟩, i3b.2.1, fun t ht => ?_, fun i hi => ?_, fun p hp => (i6 p hp).2, i7, fun j hj => (i8 j hj).2⟩
  · obtain ⟨⟨e1, e2, e3, e4, e5, e6⟩, r1, r2, r3⟩ := i4.2.2 t ht
    have := i4.2.1.2.2.2 t ht
    have := i2.2.2
    exact ⟨⟨by omega, by omega⟩, r2, ⟨by omega, by omega⟩, r3⟩
  · obtain ⟨⟨e1, e2, e3, e4⟩, hw, r4, r7, s1, s2⟩ := i5.2.2 i hi
    have := i5.2.1.2.2.2 i hi
    have := i2.2.2
    have := i5c i hi
    refine ⟨?_, ⟨by omega, by omega⟩, ⟨by omega, by omega⟩, ⟨by omega, by omega⟩⟩
    rcases hw with w | w <;> omega
theorem usm_w {K : bz_Mm} {nd : Nat} (h3 : ∀ i, i < nd → 0 ≤ K 103 i ∧ K 103 i < 20) (h : ∀ w g D', w < 20 → g < 4 → 0 ≤ hwm K w g D' nd) : ∀ g D, g < 4 → 0 ≤ usm K g D nd := fun g D hg => usm_p h3 (fun w hw => h w g D hw hg)
theorem IT.stc {M K : bz_Mm} {k : Int} {n nf nt nd nl now : Nat} (h : IT M n nf nt nd nl now) (hk : r32 k) (hW : KW M K k n) : STc K M k n nf nt nd nl now := by
  have hrt := h.rt
  obtain ⟨i1, i2, ⟨i3, i3b⟩, ⟨i4, i4b⟩, ⟨i5, i5b, i5c⟩, i6, i7, i8, i9, i10, i11, i12, i13, i14⟩ := h
  obtain ⟨w1, w2, w3, w5⟩ := hW
  have e : ∀ q, (q = 82 ∨ 87 < q) → q < 158 → K q = M q := fun q a b => w2 q (by omega)
  have h3 : ∀ i, i < nd → 0 ≤ M 103 i ∧ M 103 i < 20 := fun i hi => (hrt.2.2.2.2.2.1 i hi).1
  refine ⟨?_, ?_, ?_, ⟨i2.1, i2.2.2⟩, fun p hp => by rw [e 92 (by decide) (by decide)]; exact i6 p hp, ⟨w1.s w5, w3.1, hk⟩, ⟨i7, fun q hq => (w2 q (by omega)).symm⟩, w3.2.symm, fun j hj => by rw [e 82 (by decide) (by decide)]; exact i8 j hj, fun i hi => ?_, fun g D hg => ?_, fun g d hg hd hop => ?_⟩
  · exact i3.p (fun _ _ _ => rfl) w5
  · unfold TA at i4 ⊢
    rw [e 97 (by decide) (by decide), e 98 (by decide) (by decide), e 99 (by decide) (by decide), e 100 (by decide) (by decide), e 101 (by decide) (by decide), e 102 (by decide) (by decide)]; exact i4
  · unfold DA at i5 ⊢
    rw [e 103 (by decide) (by decide), e 104 (by decide) (by decide), e 105 (by decide) (by decide), e 106 (by decide) (by decide), e 107 (by decide) (by decide), e 109 (by decide) (by decide)]; exact i5
  · rw [e 82 (by decide) (by decide), e 106 (by decide) (by decide), e 107 (by decide) (by decide), e 109 (by decide) (by decide)]
    exact ⟨(i9 i hi).1, (i9 i hi).2.1⟩
  · have : usm K g D nd = usm M g D nd := usm_e nd (fun i hi => by rw [e 104 (by decide) (by decide), e 106 (by decide) (by decide), e 107 (by decide) (by decide)]; exact ⟨rfl, rfl, fun _ _ => rfl⟩)
    rw [this]; exact usm_w h3 i10.1 g D hg
  · rw [e 82 (by decide) (by decide)] at hop
    rw [w2 (217 + g) (by omega)]; exact (i11 g d hg hd hop).2.1
/-! the walk, kept or made anew -/
theorem sd_self {K Ms Mu M' : bz_Mm} {k : Int} {n nf nt nd D : Nat} {WR WB : bz_Mm} (h : SD K Ms k n nf nt nd D Mu WR WB) (hq0 : ∀ q, q ≠ 53 → q < 65 → M' q = Mu q) (h53 : ∀ j, j < 17 → M' 53 j = Mu 53 j) : SD K M' k n nf nt nd D M' WR WB := by
  obtain ⟨⟨s1, s2, s3, s4, s5, s6, s7, s8, s9, s10, s11⟩, hP, ⟨a1, a2, a3, pa, pb, pc⟩, hG, hK, hj⟩ := h
  have fr : ∀ q, q ≠ 42 → q < 53 → M' q = Ms q := fun q h1 h2 => by rw [hq0 q (by omega) (by omega)]; exact s1 q h1 (by omega)
  have pcE : pcs M' = pcs Mu := by unfold pcs; rw [hq0 58 (by decide) (by decide)]
  refine ⟨⟨fun _ _ _ => rfl, ⟨rfl, rfl, rfl, rfl, rfl⟩, fun _ _ _ _ => rfl, s4, ?_, ?_, ?_, ?_, ?_, fun i hi => ⟨fun q => ?_, fun q => ?_⟩, fun _ _ => rfl⟩, ?_, ⟨a1, a2, a3, ?_, ?_, ?_⟩, ?_, fun s nr hs hnr h3 => ?_, fun _ _ => rfl⟩
  · rw [hq0 55 (by decide) (by decide), hq0 54 (by decide) (by decide)]; exact s5
  · rw [pcE]; exact s6
  · rw [hq0 60 (by decide) (by decide)]; exact s7
  · rw [hq0 59 (by decide) (by decide)]; exact s8
  · rw [hq0 56 (by decide) (by decide), hq0 57 (by decide) (by decide)]; exact s9
  · rw [hq0 42 (by decide) (by decide)]; exact (s10 i hi).1 q
  · obtain ⟨y1, y2, y3⟩ := (s10 i hi).2 q
    exact ⟨y1, y2, rfl⟩
  · unfold PCR at hP ⊢; rw [hq0 58 (by decide) (by decide)]; exact hP
  · rw [h53 13 (by decide), fr 10 (by decide) (by decide), fr 11 (by decide) (by decide)]; exact pa
  · rw [h53 14 (by decide), fr 26 (by decide) (by decide), fr 27 (by decide) (by decide)]; exact pb
  · rw [h53 16 (by decide), fr 35 (by decide) (by decide), fr 36 (by decide) (by decide)]; exact pc
  · unfold FLG at hG ⊢
    rw [h53 11 (by decide), h53 12 (by decide), hq0 63 (by decide) (by decide), hq0 64 (by decide) (by decide)]; exact hG
  · rw [hq0 (61 + s) (by omega) (by omega)]; exact hK s nr hs hnr h3
/-- the course stands as walked to k -/
def CW (M : bz_Mm) (k : Int) (n nf nt nd N : Nat) : Prop := ∀ K, KW M K k n → SD K M k n nf nt nd N M (wlk nf nt nd 0 N K) (wlk nf nt nd 1 N K)
def CA (M : bz_Mm) (n nf nt nd now : Nat) : Prop := M 53 17 = -1 ∨ ¬ M 53 18 = M 1 17 ∨ (0 ≤ M 53 17 ∧ M 53 17 ≤ 259 ∧ CW M (M 53 17) n nf nt nd (lastN now (M 53 17)))
theorem wlk_0 {L nf nt nd N : Nat} {K : bz_Mm} : itr (gDay 0 L nf nt nd) 0 N (sBeg nd K) = wlk nf nt nd 0 N K := itr_cg N 0 _ (fun X j _ _ => gDay_0)
theorem wlk_2 {L nf nt nd N : Nat} {K : bz_Mm} : itr (gDay 2 L nf nt nd) 0 N (sBeg nd K) = wlk nf nt nd 1 N K := itr_cg N 0 _ (fun X j _ _ => gDay_2)
theorem KW.ex {F n : Nat} {k : Int} {M : bz_Mm} (hF : 500 < F) (hk : r32 k) (h : TE n M) : ∃ X, fM_knows F M k = some X ∧ KW M X k n := by
  obtain ⟨X, a1, a2, a3, a4⟩ := r_knows hF hk h
  exact ⟨X, a1, a2, fun q hq => a3 q (by omega) (by omega), ⟨by rw [a4, ud_eq], by rw [a4, ud_ne (by decide)]⟩, fun q t u v _ => by rw [a3 q (by omega) (by omega)]⟩
theorem lastN_le {now k : Int} {T : Nat} (h : now = T) : lastN now k ≤ T := by
  unfold lastN
  split <;> omega
theorem walk_any {F : Nat} {M : bz_Mm} {k : Int} {n nf nt nd nl now : Nat} (hF : 500 < F) (hI : IT M n nf nt nd nl now) (hC : CA M n nf nt nd now) (hk : 0 ≤ k ∧ k ≤ 259) (hch : 0 ≤ M 1 17 ∧ M 1 17 ≤ 10000) (hch2 : 0 ≤ M 53 18 ∧ M 53 18 ≤ 10000) (h17 : r32 (M 53 17)) : ∃ M', fUC_walkTo F M k = some M' ∧ (∀ q, q ≠ 42 → (q < 53 ∨ 62 < q ∧ q ≠ 63 ∧ q ≠ 64) → M' q = M q) ∧ (∀ j, (j < 11 ∨ 18 < j) → M' 53 j = M 53 j) ∧ (M' 53 17 = k ∧ M' 53 18 = M 1 17) ∧ CW M' k n nf nt nd (lastN now k) ∧ ∀ i, (i < nd → ¬ (opn (M 82) (M 106 i).toNat = true ∧ M 106 i < (now : Int))) → M' 42 i = M 42 i := by
  have e13 : M 1 13 = now := hI.1.1
  have n260 := hI.1.2.2
  by_cases c : w32 (M 53 17) = w32 k ∧ w32 (M 53 18) = w32 (M 1 17)
  · have c1 : M 53 17 = k := by have := c.1; rw [r32_w h17, w32_id (x := k) (by omega) (by omega)] at this; exact this
    have c2 : M 53 18 = M 1 17 := by have := c.2; rw [w32_id (x := M 53 18) (by omega) (by omega), w32_id (x := M 1 17) (by omega) (by omega)] at this; exact this
    refine ⟨M, ?_, fun _ _ _ => rfl, fun _ _ => rfl, ⟨c1, c2⟩, ?_, fun _ _ => rfl⟩
    · unfold fUC_walkTo
      rw [if_pos c.1, if_pos c.2]
    · rcases hC with z | z | z
      · omega
      · exact absurd c2 z
      · rw [c1] at z; exact z.2.2
  · obtain ⟨X, _, hX⟩ := KW.ex (F := F) (k := k) hF ⟨by omega, by omega⟩ hI.2.2.1.2
    have mk : ∀ K, KW M K k n → ∃ Ms Mu, fUC_walkTo F M k = some (st_ (st_ Mu 53 17 k) 53 18 (M 1 17)) ∧ (∀ q, (q < 53 ∨ q = 56 ∨ q = 57 ∨ 62 < q) → Ms q = M q) ∧ (∀ j, (j < 11 ∨ j = 15 ∨ 17 < j) → Ms 53 j = M 53 j) ∧ SD K Ms k n nf nt nd (lastN now k) Mu (wlk nf nt nd 0 (lastN now k) K) (wlk nf nt nd 1 (lastN now k) K) := fun K hK => by
      have hS := hI.stc (k := k) ⟨by omega, by omega⟩ hK
      obtain ⟨Ms, Mu, _, b2, b3, b4, b5, b6⟩ := walk_new (F := F) (L := 0) hF n260 hS (fun g hg => by rw [hK.2.1 93 (by decide)]; exact hI.2.2.2.2.2.2.2.2.2.2.2.1 g hg) (by rw [e13]; omega) (by omega) (by rw [e13]; exact lastN_le rfl) c
      rw [e13, wlk_0, wlk_2] at b6
      exact ⟨Ms, Mu, b2, b3, b4, b6⟩
    obtain ⟨Ms, Mu, m1, m2, m3, m4⟩ := mk X hX
    refine ⟨_, m1, fun q h1 h2 => ?_, fun j hj => ?_, ⟨?_, ?_⟩, fun K hK => ?_, fun i hz0 => ?_⟩
    · rw [st_ne (by omega), st_ne (by omega), m4.1.1 q h1 (by omega)]; exact m2 q (by omega)
    · rw [st_eq, ud_ne (by omega), st_eq, ud_ne (by omega), m4.2.2.2.2.2 j (by omega)]; exact m3 j (by omega)
    · rw [st_eq, ud_ne (by decide), st_eq, ud_eq]
    · rw [st_eq, ud_eq]
    · have fr : ∀ q, (44 < q ∧ q < 48) ∨ 64 < q → st_ (st_ Mu 53 17 k) 53 18 (M 1 17) q = M q := fun q hq => by
        rw [st_ne (by omega), st_ne (by omega), m4.1.1 q (by omega) (by omega)]; exact m2 q (by omega)
      have hK' : KW M K k n := hK.cc (fun q hq => fr q (by omega)) (by rw [fr 81 (by decide)]) (fun q t u v _ => by rw [fr q (by omega)])
      obtain ⟨Ms', Mu', p1, p2, p3, p4⟩ := mk K hK'
      rw [m1] at p1
      have ee : st_ (st_ Mu 53 17 k) 53 18 (M 1 17) = st_ (st_ Mu' 53 17 k) 53 18 (M 1 17) := Option.some.inj p1
      rw [ee]
      exact sd_self p4 (fun q hq _ => by rw [st_ne hq, st_ne hq]) (fun j hj => by rw [st_eq, ud_ne (by omega), st_eq, ud_ne (by omega)])
    · by_cases hi : i < nd
      case neg => rw [st_ne (by decide), st_ne (by decide), m4.1.2.2.2.2.2.2.2.2.2.2 i (by omega), m2 42 (by decide)]
      have hz := hz0 hi
      rw [st_ne (by decide), st_ne (by decide), ((m4.1.2.2.2.2.2.2.2.2.2.1 i hi).2 (fun q => hz ?_)).2.2, m2 42 (by decide)]
      obtain ⟨q1, q2⟩ := q
      rw [hX.2.1 82 (by decide), hX.2.1 106 (by decide)] at q1
      rw [hX.2.1 106 (by decide), hX.2.1 104 (by decide)] at q2
      have := (hI.2.2.2.2.1.1.2.2 i hi).2.2.1
      have := lastN_le (now := (now : Int)) (k := k) (T := now) rfl
      exact ⟨q1, by omega⟩
