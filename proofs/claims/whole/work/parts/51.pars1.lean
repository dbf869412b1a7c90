/-! the next token; words -/
def skp (T : Nat → Int) (n b : Nat) : Nat := rn pSp T b (n - b)
def te (T : Nat → Int) (n s : Nat) : Nat := if kd T n s = 3 then s + 1 else if kd T n s = 1 then rn pLe T s (n - s) else if kd T n s = 2 then rn pDi T s (n - s) else s
def nv (T : Nat → Int) (n s : Nat) : Int := if kd T n s = 2 then nu T s (n - s) 0 else 0
def nm (M : bz_Mm) (T : Nat → Int) (n b : Nat) : bz_Mm := fun a => if a = 50 then (fun j => if j = 3 then kd T n (skp T n b) else if j = 4 then (skp T n b : Int) else if j = 5 then (te T n (skp T n b) : Int) else if j = 6 then nv T n (skp T n b) else M 50 j) else M a
theorem nmx_e {M : bz_Mm} {s k v e : Int} : st_ (st_ (st_ (st_ M 50 4 s) 50 3 k) 50 6 v) 50 5 e = (fun a => if a = 50 then (fun j => if j = 3 then k else if j = 4 then s else if j = 5 then e else if j = 6 then v else M 50 j) else M a) := by
  funext a j
  unfold st_ ud
  by_cases h : a = 50
  · rw [if_pos h, if_pos rfl, if_pos rfl, if_pos rfl, if_pos h]
    repeat' split
    all_goals first | rfl | omega
  · rw [if_neg h, if_neg h, if_neg h, if_neg h, if_neg h]
theorem uUX_next {F n b : Nat} {M : bz_Mm} {T S : Nat → Int} (hF : 600 < F) (ht : tx T S n) (hT : M 51 = T) (hn : M 50 2 = n) (hb : M 50 5 = b) (hbn : b ≤ n) : fUX_next F M = some (nm M T n b) := by
  have h6 := ht.1
  have hs := rn_r (P := pSp) (T := T) (n - b) b
  have e0 : rn pSp T b (n - b) = skp T n b := rfl
  rw [e0] at hs
  unfold fUX_next
  rw [lt_x, hb, uUX_skip ht hT hn (n - b) F b (by omega) (by omega), cl1_s, wf_s, e0]
  generalize hsv : skp T n b = s at hs ⊢
  have a1 : st_ M 50 4 (s : Int) 51 = T := by rw [st_ne (by decide)]; exact hT
  have a2 : st_ M 50 4 (s : Int) 50 2 = n := by rw [st_eq, ud_ne (by decide)]; exact hn
  rw [uUX_kindAt ht a1 a2 (by omega), cl_s, wf_s, wf_s]
  have b1 : st_ (st_ (st_ M 50 4 (s : Int)) 50 3 (kd T n s)) 50 6 0 51 = T := by rw [st_ne (by decide), st_ne (by decide)]; exact a1
  have b2 : st_ (st_ (st_ M 50 4 (s : Int)) 50 3 (kd T n s)) 50 6 0 50 2 = n := by rw [st_eq, ud_ne (by decide), st_eq, ud_ne (by decide)]; exact a2
  have b3 : st_ (st_ (st_ M 50 4 (s : Int)) 50 3 (kd T n s)) 50 6 0 50 3 = kd T n s := by rw [st_eq, ud_ne (by decide), st_eq, ud_eq]
  have b6 : st_ (st_ (st_ M 50 4 (s : Int)) 50 3 (kd T n s)) 50 6 0 50 6 = 0 := by rw [st_eq, ud_eq]
  have kr := kd_r T n s
  rw [b3, w32_id (x := kd T n s) (by omega) (by omega)]
  have fin : ∀ (e : Nat) (v : Int), e = te T n s → v = nv T n s → some (st_ (st_ (st_ (st_ M 50 4 (s : Int)) 50 3 (kd T n s)) 50 6 v) 50 5 (e : Int)) = some (nm M T n b) := fun e v h1 h2 => by
    rw [nmx_e, h1, h2]
    unfold nm
    rw [hsv]
  by_cases c3 : kd T n s = 3
  · have q1 : ¬ kd T n s = 1 := by omega
    have q2 : ¬ kd T n s = 2 := by omega
    rw [if_pos c3, cl1_s, if_neg q1, if_neg q2, cl2_s, wf_s]
    exact fin (s + 1) 0 (by unfold te; rw [if_pos c3]) (by unfold nv; rw [if_neg q2])
  · rw [if_neg c3, cl1_s]
    by_cases c1 : kd T n s = 1
    · have q2 : ¬ kd T n s = 2 := by omega
      rw [if_pos c1, uUX_letters ht b1 b2 (by rw [b3]; exact c1) (n - s) F s (by omega) (by omega), cl2_s, cl2_s, wf_s]
      exact fin _ 0 (by unfold te; rw [if_neg c3, if_pos c1]) (by unfold nv; rw [if_neg q2])
    · rw [if_neg c1]
      by_cases c2 : kd T n s = 2
      · rw [if_pos c2, uUX_digits ht (n - s) F s _ b1 b2 (by rw [b3]; exact c2) (by rw [b6]; omega) (by omega) (by omega), cl2_s, cl2_s, wf_s, b6, st_st]
        exact fin _ _ (by unfold te; rw [if_neg c3, if_neg c1, if_pos c2]) (by unfold nv; rw [if_pos c2])
      · rw [if_neg c2, cl2_s, wf_s]
        exact fin s 0 (by unfold te; rw [if_neg c3, if_neg c1, if_neg c2]) (by unfold nv; rw [if_neg c2])
/-! words -/
theorem wrd : ∀ w, w < 18 → fJS_length w = (sn_ w : Nat) ∧ 0 < sn_ w ∧ sn_ w ≤ 6 := by decide +kernel
theorem wrc : ∀ w, w < 18 → ∀ j : Nat, j < sn_ w → 97 ≤ ch_ w (j : Int) ∧ ch_ w (j : Int) ≤ 122 := by
  have h : ∀ w, w < 18 → ∀ j : Nat, j < 7 → (j < sn_ w → 97 ≤ ch_ w (j : Int) ∧ ch_ w (j : Int) ≤ 122) := by decide +kernel
  intro w hw j hj
  exact h w hw j (by have := (wrd w hw).2.2; omega) hj
def wm (T : Nat → Int) (s w : Nat) : Nat → Nat → Bool
  | _, 0 => true
  | j, m + 1 => if T (s + j) = ch_ w (j : Int) then wm T s w (j + 1) m else false
theorem wm_S (T : Nat → Int) (s w j m : Nat) : wm T s w j (m + 1) = if T (s + j) = ch_ w (j : Int) then wm T s w (j + 1) m else false := rfl
theorem wm_U {F n s w : Nat} {M : bz_Mm} {T S : Nat → Int} (hw : w < 18) (ht : tx T S n) (hT : M 51 = T) (hs : M 50 4 = s) (hl : s + sn_ w ≤ n) : ∀ (m fuel j : Nat), j + m = sn_ w → m < fuel → UX_isWord_L28 F fuel M w (j : Int) = some (if wm T s w j m = true then .inr 0 else .inl 0) := by
  have h6 := ht.1
  obtain ⟨w1, w2, w3⟩ := wrd w hw
  intro m
  induction m with
  | zero =>
    intro fuel j h1 h2
    obtain ⟨fuel, rfl⟩ : ∃ j, fuel = j + 1 := ⟨fuel - 1, by omega⟩
    rw [UX_isWord_L28, w1, w32_id (x := (j : Int)) (by omega) (by omega), w32_id (x := ((sn_ w : Nat) : Int)) (by omega) (by omega), if_neg (by omega)]
    rfl
  | succ m ih =>
    intro fuel j h1 h2
    obtain ⟨fuel, rfl⟩ : ∃ j, fuel = j + 1 := ⟨fuel - 1, by omega⟩
    have e : (j : Int) + 1 = ((j + 1 : Nat) : Int) := by omega
    have e2 : (s : Int) + (j : Int) = ((s + j : Nat) : Int) := by omega
    obtain ⟨b1, b2⟩ := ht.2 (s + j) (by omega)
    obtain ⟨c1, c2⟩ := wrc w hw j (by omega)
    have ca : fJS_charAt F M w (j : Int) = some (ch_ w (j : Int)) := by
      unfold fJS_charAt
      rw [w32_id (x := (j : Int)) (by omega) (by omega), if_pos (by omega)]
    rw [UX_isWord_L28, w1, w32_id (x := (j : Int)) (by omega) (by omega), w32_id (x := ((sn_ w : Nat) : Int)) (by omega) (by omega), if_pos (by omega), hs, e2, rd_s (by omega) (by decide), hT, ca, cl_s, w32_id (x := T (s + j)) (by omega) (by omega), w32_id (x := ch_ w (j : Int)) (by omega) (by omega), e, ih fuel (j + 1) (by omega) (by omega), wm_S]
    by_cases c : T (s + j) = ch_ w (j : Int)
    · rw [if_pos c, if_pos c]
    · rw [if_neg c, if_neg c, if_neg (by decide)]
theorem wm_M {F n s w : Nat} {M : bz_Mm} {T S : Nat → Int} (hw : w < 18) (ht : tx T S n) (hT : M 110 = S) (hs : M 81 38 = s) (hl : s + sn_ w ≤ n) : ∀ (m fuel j : Nat), j + m = sn_ w → m < fuel → M_isWord_L20 F fuel M w (j : Int) = some (if wm T s w j m = true then .inr 0 else .inl 0) := by
  have h6 := ht.1
  obtain ⟨w1, w2, w3⟩ := wrd w hw
  intro m
  induction m with
  | zero =>
    intro fuel j h1 h2
    obtain ⟨fuel, rfl⟩ : ∃ j, fuel = j + 1 := ⟨fuel - 1, by omega⟩
    rw [M_isWord_L20, w1, w32_id (x := (j : Int)) (by omega) (by omega), w32_id (x := ((sn_ w : Nat) : Int)) (by omega) (by omega), if_neg (by omega)]
    rfl
  | succ m ih =>
    intro fuel j h1 h2
    obtain ⟨fuel, rfl⟩ : ∃ j, fuel = j + 1 := ⟨fuel - 1, by omega⟩
    have e : (j : Int) + 1 = ((j + 1 : Nat) : Int) := by omega
    have e2 : (s : Int) + (j : Int) = ((s + j : Nat) : Int) := by omega
    obtain ⟨b1, b2⟩ := ht.2 (s + j) (by omega)
    obtain ⟨d1, d2, d3, d4, d5⟩ := sb_r b1
    obtain ⟨c1, c2⟩ := wrc w hw j (by omega)
    have ca : fJS_charAt F M w (j : Int) = some (ch_ w (j : Int)) := by
      unfold fJS_charAt
      rw [w32_id (x := (j : Int)) (by omega) (by omega), if_pos (by omega)]
    rw [M_isWord_L20, w1, w32_id (x := (j : Int)) (by omega) (by omega), w32_id (x := ((sn_ w : Nat) : Int)) (by omega) (by omega), if_pos (by omega), hs, e2, rd_s (by omega) (by decide), hT, ca, cl_s, b2, w32_id (x := sb (T (s + j))) (by omega) (by omega), w32_id (x := ch_ w (j : Int)) (by omega) (by omega), e, ih fuel (j + 1) (by omega) (by omega), wm_S]
    by_cases c : T (s + j) = ch_ w (j : Int)
    · rw [if_pos ((d3 _ (by omega)).mpr c), if_pos c]
    · rw [if_neg (fun q => c ((d3 _ (by omega)).mp q)), if_neg c, if_neg (by decide)]
/-- word w stands at s -/
def wd (T : Nat → Int) (n s w : Nat) : Prop := rn pLe T s (n - s) = s + sn_ w ∧ wm T s w 0 (sn_ w) = true
theorem wd_kd {T : Nat → Int} {n s w : Nat} (hw : w < 18) (hs : s ≤ n) (h : wd T n s w) : kd T n s = 1 := by
  obtain ⟨w1, w2, w3⟩ := wrd w hw
  have hr := rn_r (P := pLe) (T := T) (n - s) s
  have h1 := h.1
  exact (kd_1 (by omega)).mpr (rn_all (n - s) s s (Nat.le_refl s) (by omega))
theorem uUX_isWord {F n s w : Nat} {M : bz_Mm} {T S : Nat → Int} (hF : 600 < F) (hw : w < 18) (ht : tx T S n) (hT : M 51 = T) (hs : M 50 4 = s) (hsn : s ≤ n) (hk : M 50 3 = kd T n s) (he : M 50 5 = te T n s) : ∃ x : Int, fUX_isWord F M w = some x ∧ (w32 x = 0 ↔ ¬ wd T n s w) := by
  have h6 := ht.1
  obtain ⟨w1, w2, w3⟩ := wrd w hw
  have kr := kd_r T n s
  have hr := rn_r (P := pLe) (T := T) (n - s) s
  unfold fUX_isWord
  rw [hk, w32_id (x := kd T n s) (by omega) (by omega)]
  by_cases c1 : kd T n s = 1
  · have e1 : te T n s = rn pLe T s (n - s) := by unfold te; rw [if_neg (by omega), if_pos c1]
    rw [if_pos c1, he, hs, e1, w1, w32_id (x := ((sn_ w : Nat) : Int)) (by omega) (by omega), w32_id (x := ((rn pLe T s (n - s) : Nat) : Int) - (s : Int)) (by omega) (by omega)]
    by_cases c2 : rn pLe T s (n - s) = s + sn_ w
    · have k : UX_isWord_L28 F F M w 0 = _ := wm_U (F := F) hw ht hT hs (by omega) (sn_ w) F 0 (by omega) (by omega)
      rw [if_pos (by omega), k]
      by_cases c3 : wm T s w 0 (sn_ w) = true
      · rw [if_pos c3, cs1_r]
        exact ⟨1, rfl, by rw [w32_1p]; simp; exact ⟨c2, c3⟩⟩
      · rw [if_neg c3, cs1_l]
        exact ⟨0, rfl, by rw [w32_0]; simp; exact fun q => c3 q.2⟩
    · rw [if_neg (by omega)]
      exact ⟨0, rfl, by rw [w32_0]; simp; exact fun q => c2 q.1⟩
  · rw [if_neg c1]
    exact ⟨0, rfl, by rw [w32_0]; simp; exact fun q => c1 (wd_kd hw hsn q)⟩
