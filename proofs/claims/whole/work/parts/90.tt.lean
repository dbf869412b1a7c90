/-! calls that tell of days to come leave the kept walk and the kept search -/
def TT (M M' : bz_Mm) (n nd nd' now : Nat) : Prop :=
  (∀ q, ((q = 92 ∧ 0 < now) ∨ q = 93 ∨ (97 ≤ q ∧ q ≤ 102)) → M' q = M q) ∧ (∀ q t, 83 ≤ q → q ≤ 87 → t < n → M' q t = M q t) ∧
  (nd ≤ nd' ∧ (∀ i, i < nd → (M' 103 i = M 103 i ∧ M' 104 i = M 104 i ∧ M' 105 i = M 105 i ∧ M' 106 i = M 106 i) ∧ M' 107 i = M 107 i ∧ M' 109 i = M 109 i) ∧ ∀ i, nd ≤ i → i < nd' → (now : Int) ≤ M' 106 i) ∧
  (∀ d, d < now → opn (M' 82) d = opn (M 82) d) ∧ (∀ f d w, f < 4 → w < 12 → d < now → rv M' f (d : Nat) w = rv M f (d : Nat) w) ∧ (∀ g d, g < 4 → d < now → M' (217 + g) d = M (217 + g) d) ∧
  (∀ q, 52 < q → q < 65 → M' q = M q) ∧ (M' 10 = M 10 ∧ M' 11 = M 11 ∧ M' 26 = M 26 ∧ M' 27 = M 27) ∧ (∀ a D : Nat, D ≤ now → ptr (M 35) (M 36) nd a D → ptr (M' 35) (M' 36) nd' a D) ∧ ∀ i, i < nd → M' 42 i = M 42 i
def mx (n : Nat) (M X : bz_Mm) : bz_Mm := fun q => if 83 ≤ q ∧ q ≤ 87 then (fun t => if t < n then M q t else X q t) else if (44 < q ∧ q < 48) ∨ q = 82 ∨ (87 < q ∧ q < 158) ∨ (210 < q ∧ q < 221) then M q else if q = 81 then ud (X 81) 43 (M 81 43) else X q
theorem mx_s {n q : Nat} {M X : bz_Mm} (h : (44 < q ∧ q < 48) ∨ q = 82 ∨ (87 < q ∧ q < 158) ∨ (210 < q ∧ q < 221)) : mx n M X q = M q := by
  unfold mx; rw [if_neg (by omega), if_pos h]
theorem mx_t {n q t : Nat} {M X : bz_Mm} (h1 : 83 ≤ q) (h2 : q ≤ 87) (ht : t < n) : mx n M X q t = M q t := by
  unfold mx; rw [if_pos ⟨h1, h2⟩]; exact if_pos ht
theorem mx_u {n q t : Nat} {M X : bz_Mm} (h1 : 83 ≤ q) (h2 : q ≤ 87) (ht : n ≤ t) : mx n M X q t = X q t := by
  unfold mx; rw [if_pos ⟨h1, h2⟩]; exact if_neg (by omega)
theorem mx_1 {n : Nat} {M X : bz_Mm} : mx n M X 81 = ud (X 81) 43 (M 81 43) := by
  unfold mx; rw [if_neg (by omega), if_neg (by omega), if_pos rfl]
theorem mx_o {n q : Nat} {M X : bz_Mm} (h : 158 ≤ q) (h2 : q < 188) : mx n M X q = X q := by
  unfold mx; rw [if_neg (by omega), if_neg (by omega), if_neg (by omega)]
theorem mx_kw {n : Nat} {k : Int} {M M' K' : bz_Mm} (hr : ∀ q t, 83 ≤ q → q ≤ 87 → t < n → M' q t = M q t) (h : KW M' K' k n) : KW M (mx n M K') k n := by
  obtain ⟨v1, v2, v3, v4⟩ := h
  refine ⟨?_, fun q hq => mx_s hq, ⟨by rw [mx_1, ud_ne (by decide)]; exact v3.1, by rw [mx_1, ud_eq]⟩, fun q t a b c => mx_t a b c⟩
  have kc := fun s nr d => kv_p (M := M) (M' := M') hr s nr k d
  unfold KN at v1 ⊢
  simp only [kc] at v1
  refine ⟨fun p d hp hd => ?_, fun d hd => ?_⟩
  · rw [mx_o (by omega) (by omega), mx_o (by omega) (by omega), mx_o (by omega) (by omega)]; exact v1.1 p d hp hd
  · rw [mx_o (by omega) (by omega), mx_o (by omega) (by omega), mx_o (by omega) (by omega)]; exact v1.2 d hd
theorem mx_kx {n ns now h : Nat} {M M' X' : bz_Mm} (hr : ∀ q t, 83 ≤ q → q ≤ 87 → t < n → M' q t = M q t) (hs : ∀ q i, 88 ≤ q → q ≤ 91 → i < ns → M' q i = M q i) (hX : KX M' X' h n ns now) : KX M (mx n M X') h n ns now := by
  obtain ⟨x1, x2, x3, x4, x5⟩ := hX
  refine ⟨fun q hq => mx_s hq, ⟨by rw [mx_1, ud_ne (by decide)]; exact x2.1, by rw [mx_1, ud_eq]⟩, fun q t a b c => mx_t a b c, fun i i1 i2 => ?_, ?_⟩
  · obtain ⟨p1, p2, p3, p4, p5⟩ := x4 i i1 i2
    rw [mx_u (by decide) (by decide) (Nat.le_add_right _ _), mx_u (by decide) (by decide) (Nat.le_add_right _ _), mx_u (by decide) (by decide) (Nat.le_add_right _ _), mx_u (by decide) (by decide) (Nat.le_add_right _ _), mx_u (by decide) (by decide) (Nat.le_add_right _ _), p1, p2, p3, p4, p5, hs 88 i (by decide) (by decide) i1, hs 89 i (by decide) (by decide) i1, hs 90 i (by decide) (by decide) i1, hs 91 i (by decide) (by decide) i1]
    exact ⟨rfl, rfl, rfl, rfl, rfl⟩
  · have kc := fun s nr d => kv_p (M := X') (M' := mx n M X') (n := n + cnB h ns 0) (fun q t a b _ => by
      by_cases c : t < n
      · rw [mx_t a b c, x3 q t a b c, hr q t a b c]
      · exact mx_u a b (by omega)) s nr (knw now : Int) d
    unfold KN at x5 ⊢
    simp only [kc]
    refine ⟨fun p d hp hd => ?_, fun d hd => ?_⟩
    · rw [mx_o (by omega) (by omega), mx_o (by omega) (by omega), mx_o (by omega) (by omega)]; exact x5.1 p d hp hd
    · rw [mx_o (by omega) (by omega), mx_o (by omega) (by omega), mx_o (by omega) (by omega)]; exact x5.2 d hd
theorem cg_tt {M M' K K' : bz_Mm} {n nt nd nd' nl nl' now N : Nat} (hT : TT M M' n nd nd' now) (hN : N ≤ now) (hl : iv_la M nl) (hl' : iv_la M' nl') (e : ∀ q, ((44 < q ∧ q < 48) ∨ q = 82 ∨ (87 < q ∧ q < 158) ∨ (210 < q ∧ q < 221)) → K q = M q) (e' : ∀ q, ((44 < q ∧ q < 48) ∨ q = 82 ∨ (87 < q ∧ q < 158) ∨ (210 < q ∧ q < 221)) → K' q = M' q) (h43 : K 81 43 = M 81 43) (h43' : K' 81 43 = M' 81 43) (h61 : K' 81 61 = K 81 61) (kn : ∀ q, 158 ≤ q → q < 188 → K' q = K q) : CG K K' nt nd nd' N := by
  obtain ⟨t1, t2, ⟨t3, t4, t5⟩, t6, t7, t8, _⟩ := hT
  have a1 := hl.2.1
  have a2 := hl.2.2.1
  have b1 := hl'.2.1
  have b2 := hl'.2.2.1
  refine ⟨fun q hq => by rw [e' q (by omega), e q (by omega)]; exact t1 q (by omega), fun q d a b _ _ => by rw [kn q a b], Or.inl h61, t3, fun i hi => ?_, fun i hi _ => ?_, fun i a b => ?_, fun d hd => ?_, fun f d w hf hw hd => ?_, fun g d hg hd => ?_⟩
  · rw [e' 103 (by decide), e' 104 (by decide), e' 105 (by decide), e' 106 (by decide), e 103 (by decide), e 104 (by decide), e 105 (by decide), e 106 (by decide)]; exact (t4 i hi).1
  · rw [e' 107 (by decide), e' 109 (by decide), e 107 (by decide), e 109 (by decide)]; exact (t4 i hi).2
  · rw [e' 106 (by decide)]; have := t5 i a b; omega
  · rw [e' 82 (by decide), e 82 (by decide)]; exact t6 d (by omega)
  · rw [rv_c (M := M') (M' := K') (fun q a b => e' q (by omega)) h43' (by rw [b1]; omega) f hf d w, rv_c (M := M) (M' := K) (fun q a b => e q (by omega)) h43 (by rw [a1]; omega) f hf d w]
    exact t7 f d w hf hw (by omega)
  · rw [e' (217 + g) (by omega), e (217 + g) (by omega)]; exact t8 g d hg (by omega)
theorem CW.tt {M M' : bz_Mm} {k : Int} {n nf nt nd nd' nl nl' now N : Nat} (hI : IT M n nf nt nd nl now) (hI' : IT M' n nf nt nd' nl' now) (hT : TT M M' n nd nd' now) (hk : 0 ≤ k ∧ k ≤ 259) (hN : N ≤ now) (hC : CW M k n nf nt nd N) : CW M' k n nf nt nd' N := fun K' hK' => by
  have n260 := hI.1.2.2
  have hr := hT.2.1
  have hKW : KW M (mx n M K') k n := mx_kw hr hK'
  have kr : r32 k := ⟨by omega, by omega⟩
  have st := hI.stc kr hKW
  have st' := hI'.stc kr hK'
  have old := hC _ hKW
  have cg := cg_tt (nt := nt) (K := mx n M K') (K' := K') hT hN hI.2.2.2.2.2.2.1 hI'.2.2.2.2.2.2.1 (fun q hq => mx_s hq) hK'.2.1 (by rw [mx_1, ud_eq]) hK'.2.2.1.2 (by rw [mx_1, ud_ne (by decide)]) (fun q a b => by rw [mx_o a b])
  have w1 := st.wok (W := mx n M K') (fun _ _ => rfl)
  have w2 := st'.wok (W := K') (fun _ _ => rfl)
  have d1 := st.day
  have d2 := st'.day
  have kT : ∀ q t, 83 ≤ q → q ≤ 87 → t < n → K' q t = mx n M K' q t := fun q t a b c => by rw [mx_t a b c, hK'.2.2.2 q t a b c]; exact hr q t a b c
  generalize hK0 : mx n M K' = K at st old cg w1 d1 kT
  obtain ⟨Ms, m1, m2, m3, m4, m5, m6⟩ := sd_start (F := 501) (by decide) st' (fun g hg => by rw [hK'.2.1 93 (by decide)]; exact hI'.2.2.2.2.2.2.2.2.2.2.2.1 g hg)
  obtain ⟨Mu, _, _, new⟩ := walk_L (F := 501) (L := 0) (by decide) hN n260 m5 N 501 0 Ms _ _ (by omega) (by omega) m6
  rw [wlk_0, wlk_2] at new
  obtain ⟨_, _, hDA, ⟨h14, hnf⟩, _, _, _, _, _, hz, hal, _⟩ := st
  obtain ⟨_, _, hDA', _, _, _, _, _, _, hz', _, _⟩ := st'
  have CHK : CH K nf nt nd nl := ⟨w1, hDA.1.2, hnf, fun i hi => ⟨(hDA.2.2 i hi).2.2.2.1, (d1 i hi).1, (hz i hi).1⟩, hal⟩
  have f104 : ∀ i, i < nd → 0 ≤ K 104 i ∧ K 104 i < nf := fun i hi => (hDA.2.2 i hi).2.2.1
  have f104' : ∀ i, i < nd' → 0 ≤ K' 104 i ∧ K' 104 i < nf := fun i hi => (hDA'.2.2 i hi).2.2.1
  have ww : ∀ bk : Int, (bk = 0 ∨ bk = 1) → WW K K' bk nf nd N 0 (wlk nf nt nd bk N K) (wlk nf nt nd' bk N K') := fun bk hb => cg_walk hb cg CHK f104 w2 hDA'.1.2 (fun i hi => (hDA'.2.2 i hi).2.2.2.1) (by omega) (Nat.le_refl N)
  obtain ⟨_, r2, r3, r4⟩ := ww 0 (Or.inl rfl)
  obtain ⟨_, b2, _, b4⟩ := ww 1 (Or.inr rfl)
  generalize wlk nf nt nd 0 N K = A at old r2 r3 r4
  generalize wlk nf nt nd 1 N K = B at old b2 b4
  generalize wlk nf nt nd' 0 N K' = A' at new r2 r3 r4 ⊢
  generalize wlk nf nt nd' 1 N K' = B' at new b2 b4 ⊢
  obtain ⟨⟨s1, s2, s3, s4, s5, s6, s7, s8, s9, s10, s11⟩, hP, ⟨a1, a2, a3, pa, pb, pc⟩, hG, hK, hj⟩ := old
  obtain ⟨⟨_, _, _, z4, _, _, z7, z8, _, z10, _⟩, _⟩ := new
  obtain ⟨_, _, ⟨c3, c4, c5, c6, c7, c8, c9, c10⟩⟩ := cg
  obtain ⟨_, _, ⟨_, _, _⟩, _, _, _, q1, ⟨q2, q3, q4, q5⟩, q6, q7⟩ := hT
  have feA : ∀ g, feF A g N 0 nd = 0 := fun g => feF_0 nd (fun i hi => by rw [(s4 104 (by omega)).1]; exact (f104 i hi).1)
  have feB : ∀ g, feF B g N 0 nd = 0 := fun g => feF_0 nd (fun i hi => by rw [(s4 104 (by omega)).2]; exact (f104 i hi).1)
  have feA' : ∀ g, feF A' g N 0 nd' = 0 := fun g => feF_0 nd' (fun i hi => by rw [(z4 104 (by omega)).1]; exact (f104' i hi).1)
  have feB' : ∀ g, feF B' g N 0 nd' = 0 := fun g => feF_0 nd' (fun i hi => by rw [(z4 104 (by omega)).2]; exact (f104' i hi).1)
  have pe : pcs M' = pcs M := by unfold pcs; rw [q1 58 (by decide) (by decide)]
  have dne : ∀ i, dnx K' N 0 i → i < nd' → i < nd ∧ dnx K N 0 i := fun i hd hi => by
    obtain ⟨y1, y2⟩ := hd
    have p0 := (f104' i hi).1
    have y3 : K' 106 i < N := by omega
    by_cases c : i < nd
    · obtain ⟨_, _, _, e6⟩ := c5 i c
      have := (d1 i c).1
      refine ⟨c, ?_, Or.inl (by omega)⟩
      rw [← e6, ← c8 (K' 106 i).toNat (by omega)]; exact y1
    · exact absurd (c7 i (by omega) hi) (by omega)
  refine ⟨⟨fun _ _ _ => rfl, ⟨rfl, rfl, rfl, rfl, rfl⟩, fun _ _ _ _ => rfl, z4, fun g hg => ⟨fun q => by omega, fun _ => ?_⟩, fun g p hg hp => ⟨fun q => by omega, fun _ => ?_⟩, fun g hg => ?_, fun x y hx hy => ?_, fun g d hg hd hop => ?_, fun i hi => ⟨fun q => ?_, fun q => ?_⟩, fun _ _ => rfl⟩, ?_, ⟨a1, a2, a3, ?_, ?_, ?_⟩, ?_, fun s nr hs hnr h3 => ?_, fun _ _ => rfl⟩
  · obtain ⟨y1, y2⟩ := (s5 g hg).2 (by omega)
    rw [feA', feB', q1 55 (by decide) (by decide), q1 54 (by decide) (by decide), (r2 g (by omega)).1, (b2 g (by omega)).1]
    rw [feA] at y1
    rw [feB] at y2
    exact ⟨y1, y2⟩
  · obtain ⟨y1, y2⟩ := (s6 g p hg hp).2 (by omega)
    rw [pe, (r2 g (by omega)).2.2.2.1 p hp, (b2 g (by omega)).2.2.2.1 p hp]; exact ⟨y1, y2⟩
  · obtain ⟨y1, y2, y3⟩ := s7 g hg
    obtain ⟨v1, v2, v3⟩ := z7 g hg
    rw [q1 60 (by decide) (by decide)]
    have e1 : M 60 g = A' 210 g := by rw [y1]; exact (r2 g hg).2.1.symm
    exact ⟨e1, by rw [e1, ← v1]; exact v2, by rw [e1, ← v1]; exact v3⟩
  · obtain ⟨y1, y2, y3⟩ := s8 x y hx hy
    obtain ⟨v1, v2, v3⟩ := z8 x y hx hy
    rw [q1 59 (by decide) (by decide)]
    have e1 : M 59 (x * 4 + y) = A' (206 + y) (16 + x) := by rw [y1]; exact ((r2 y hy).2.2.2.2 (16 + x) (by omega)).symm
    exact ⟨e1, by rw [e1, ← v1]; exact v2, by rw [e1, ← v1]; exact v3⟩
  · have dN : d < N := by omega
    have hop' : opn (K 82) d = true := by rw [← c8 d dN]; exact hop
    obtain ⟨y1, y2, y3, y4⟩ := s9 g d hg (Or.inl dN) hop'
    obtain ⟨v1, v2⟩ := r3 rfl g d hg (Or.inl dN) hop'
    rw [q1 56 (by decide) (by decide), q1 57 (by decide) (by decide), v1, v2]
    exact ⟨y1, y2, y3, y4⟩
  · obtain ⟨hi2, hd⟩ := dne i q hi
    obtain ⟨y1, y2, y3⟩ := (s10 i hi2).1 hd
    obtain ⟨v1, v2, v3⟩ := (z10 i hi).1 q
    rw [q7 i hi2, y1, r4 i hi2]
    rw [r4 i hi2] at v3
    exact ⟨rfl, v2, v3⟩
  · obtain ⟨v1, v2, v3⟩ := (z10 i hi).2 q
    exact ⟨v1, v2, rfl⟩
  · unfold PCR at hP ⊢; rw [q1 58 (by decide) (by decide)]; exact hP
  · rw [q1 53 (by decide) (by decide), q2, q3]; exact pa
  · rw [q1 53 (by decide) (by decide), q4, q5]; exact pb
  · rw [q1 53 (by decide) (by decide)]; exact ⟨pc.1, q6 a3 N hN pc.2⟩
  · unfold FLG at hG ⊢; rw [q1 53 (by decide) (by decide), q1 63 (by decide) (by decide), q1 64 (by decide) (by decide)]; exact hG
  · rw [q1 (61 + s) (by omega) (by omega), hK s nr hs hnr h3]
    cases N with
    | zero => rfl
    | succ D => exact (kv_p kT s nr k D).symm
theorem CA.tt {M M' : bz_Mm} {n nf nt nd nd' nl nl' now : Nat} (hI : IT M n nf nt nd nl now) (hI' : IT M' n nf nt nd' nl' now) (hT : TT M M' n nd nd' now) (h17 : M' 1 17 = M 1 17) (hC : CA M n nf nt nd now) : CA M' n nf nt nd' now := by
  have q1 := hT.2.2.2.2.2.2.1 53 (by decide) (by decide)
  unfold CA at hC ⊢
  rw [q1, h17]
  rcases hC with c | c | ⟨c1, c2, c3⟩
  · exact Or.inl c
  · exact Or.inr (Or.inl c)
  · exact Or.inr (Or.inr ⟨c1, c2, CW.tt hI hI' hT ⟨c1, c2⟩ (lastN_le rfl) c3⟩)
theorem ex_.tt {M M' : bz_Mm} {n nf nt nd nd' nl nl' now ns na : Nat} (hI : IT M n nf nt nd nl now) (hI' : IT M' n nf nt nd' nl' now) (hT : TT M M' n nd nd' now) (hA : IAu M nf now na) (hs : ∀ q i, 88 ≤ q → q ≤ 91 → i < ns → M' q i = M q i) (ha : ∀ q, 226 < q → q < 230 → M' q = M q) : ex_ M' n nf nt nd' ns now na = ex_ M n nf nt nd ns now na := by
  have n260 := hI.1.2.2
  have hr := hT.2.1
  have main : ∀ (X X' : bz_Mm) (h : Nat), KX M X h n ns now → KX M' X' h n ns now → (∀ q, 158 ≤ q → q < 188 → X' q = X q) → (EXP M' X' nf nt nd' now na ↔ EXP M X nf nt nd now na) := fun X X' h kx kx' kn => by
    have st := kx.stg hI (FR.r hI.2.2.1.2.2.1)
    have st' := kx'.stg hI' (FR.r hI'.2.2.1.2.2.1)
    have cg := cg_tt (nt := nt) (K := X) (K' := X') hT (Nat.le_refl now) hI.2.2.2.2.2.2.1 hI'.2.2.2.2.2.2.1 kx.1 kx'.1 kx.2.1.2 kx'.2.1.2 (by rw [kx.2.1.1, kx'.2.1.1]) kn
    have w1 := STg.wok st (W := X) (fun _ _ => rfl)
    have w2 := STg.wok st' (W := X') (fun _ _ => rfl)
    have d1 := STg.day st
    obtain ⟨_, _, hDA, ⟨h14, hnf⟩, _, _, _, _, _, hz, hal, _⟩ := st
    obtain ⟨_, _, hDA', _⟩ := st'
    obtain ⟨_, _, ww3, _⟩ := cg_walk (bk := 0) (m := now) (Or.inl rfl) cg ⟨w1, hDA.1.2, hnf, fun i hi => ⟨(hDA.2.2 i hi).2.2.2.1, (d1 i hi).1, (hz i hi).1⟩, hal⟩ (fun i hi => (hDA.2.2 i hi).2.2.1) w2 hDA'.1.2 (fun i hi => (hDA'.2.2 i hi).2.2.2.1) n260 (Nat.le_refl now)
    unfold EXP
    rw [ha 227 (by decide) (by decide), ha 228 (by decide) (by decide), ha 229 (by decide) (by decide)]
    have pt : ∀ a, a < na → wlk nf nt nd' 0 now X' (196 + (M 227 a).toNat) (M 228 a).toNat = wlk nf nt nd 0 now X (196 + (M 227 a).toNat) (M 228 a).toNat := fun a haa => by
      obtain ⟨_, a2, a3, _⟩ := hA.2 a haa
      exact (ww3 rfl (M 227 a).toNat (M 228 a).toNat (by omega) (Or.inl (by omega)) (by rw [kx.1 82 (by decide)]; exact a3.2.2.2)).1
    exact ⟨fun t a haa => by rw [← pt a haa]; exact t a haa, fun t a haa => by rw [pt a haa]; exact t a haa⟩
  funext h
  refine propext ⟨fun ⟨X', a, b⟩ => ?_, fun ⟨X, a, b⟩ => ?_⟩
  · have kx := mx_kx hr hs a
    exact ⟨_, kx, (main _ X' h kx a (fun q u v => by rw [mx_o u v])).mp b⟩
  · have kx' := mx_kx (M := M') (M' := M) (fun q t u v w => (hr q t u v w).symm) (fun q i u v w => (hs q i u v w).symm) a
    exact ⟨_, kx', (main X _ h a kx' (fun q u v => by rw [mx_o u v])).mpr b⟩
