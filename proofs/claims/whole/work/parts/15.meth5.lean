def M_deals_L3 (F : Nat) : Nat → Int → Int → Int → Int → Int → bz_Mm → Option (bz_Mm)
  | 0, _, _, _, _, _, _ => none
  | n + 1, l1, l2, l3, l4, l5, M =>
    if w32 l5 < w32 (M 81 35) then
    (rd_ M 104 l5 200 fun x1 =>
    if w32 x1 = w32 l1 then
    (rd_ M 106 l5 200 fun x2 =>
    if w32 x2 = w32 l2 then
    (ra_ l1 4 fun i3 =>
    rd_ M 103 l5 200 fun x4 =>
    rd_ M (206 + i3) x4 20 fun x5 =>
    cl_ (fM_dealtOf F M l5 l4 x5) fun x6 =>
    cl1_ (if w32 l3 = 0 then
    (if 0 < w64 x6 then
    (ra_ l1 4 fun i11 =>
    rd_ M (196 + i11) l2 260 fun x12 =>
    wa_ M 189 l5 200 ((w64 ((x6 * x12) + 99)).tdiv 100) fun m13 =>
    some (m13))
    else
    (ra_ l1 4 fun i8 =>
    rd_ M (196 + i8) l2 260 fun x9 =>
    wa_ M 189 l5 200 ((w64 ((-x6) * x9)).tdiv 100) fun m10 =>
    some (m10)))
    else
    (rd_ M 109 l5 200 fun x14 =>
    wa_ M 189 l5 200 x14 fun m15 =>
    some (m15))) fun m16 =>
    rd_ m16 188 l1 4 fun x17 =>
    cl1_ (if 0 < w64 x6 then
    (rd_ m16 189 l5 200 fun x21 =>
    some (x21))
    else
    (rd_ m16 189 l5 200 fun x20 =>
    some (-x20))) fun v19 =>
    wa_ m16 188 l1 4 (x17 + v19) fun m22 =>
    ra_ l1 4 fun i23 =>
    rd_ m22 103 l5 200 fun x24 =>
    rd_ m22 (206 + i23) x24 20 fun x25 =>
    wa_ m22 (206 + i23) x24 20 (x25 + x6) fun m26 =>
    rd_ m26 210 l1 4 fun x27 =>
    wa_ m26 210 l1 4 (x27 + x6) fun m28 =>
    if w32 l4 = 0 then
    (M_deals_L3 F n l1 l2 l3 l4 (l5 + 1) m28)
    else
    (wa_ m28 107 l5 200 x6 fun m29 =>
    M_deals_L3 F n l1 l2 l3 l4 (l5 + 1) m29))
    else
    (M_deals_L3 F n l1 l2 l3 l4 (l5 + 1) M))
    else
    (M_deals_L3 F n l1 l2 l3 l4 (l5 + 1) M))
    else
    (some M)
theorem lM_deals_L3 (E : bz_E) (F : Nat) {K : bz_K} {rv : Option Value} {M1 : bz_Mm} (X : bz_X K E prog_14_method_56_code 8 "UnitsWrongModel" none 2 49 rv M1) {l1 : Int} {l2 : Int} {l3 : Int} {l4 : Int} {res : (bz_Mm)}
    (kx : ∀ (M : bz_Mm), some M = some res → bz_J K 8 219 [] [] M) :
    ∀ (n : Nat) (l5 : Int) (M : bz_Mm), M_deals_L3 F n l1 l2 l3 l4 l5 M = some res → bz_J K 8 3 [(5, bz_i l5), (0, bz_rf E 81), (1, bz_i l1), (2, bz_i l2), (3, bz_i l3), (4, bz_i l4)] [] M := by
  intro n
  induction n with
  | zero => intro l5 M hf; cases hf
  | succ n ih =>
    intro l5 M hf
    rw [M_deals_L3] at hf
    refine j_iload X dM_deals_3 0 rfl ?_
    refine j_aload_n X dM_deals_5 rfl 1 rfl ?_
    refine j_geti X gf_M_302_81 dM_deals_6 ?_
    refine j_icmp_ge X (tgt := 219) rfl rfl dM_deals_9 (by decide) hf (fun hf => ?_) (fun hf => ?_)
    · exact j_sub [] rfl (kx _ hf)
    · refine j_aload_n X dM_deals_12 rfl 1 rfl ?_
      refine j_geta X gf_M_77_81 dM_deals_13 ?_
      refine j_iload X dM_deals_16 0 rfl ?_
      refine j_iald X sh_104 dM_deals_18 hf (fun x1 hf => ?_)
      refine j_iload_n X dM_deals_19 rfl 2 rfl ?_
      refine j_icmp_ne X (tgt := 213) rfl rfl dM_deals_20 (by decide) hf (fun hf => ?_) (fun hf => ?_)
      · refine j_iinc X (y := l5 + 1) (lv' := [(5, bz_i (l5 + 1)), (0, bz_rf E 81), (1, bz_i l1), (2, bz_i l2), (3, bz_i l3), (4, bz_i l4)]) dM_deals_213 0 rfl rfl (by decide) rfl ?_
        refine j_goto X (tgt := 3) dM_deals_216 (by decide) ?_
        exact ih _ _ hf
      · refine j_aload_n X dM_deals_23 rfl 1 rfl ?_
        refine j_geta X gf_M_83_81 dM_deals_24 ?_
        refine j_iload X dM_deals_27 0 rfl ?_
        refine j_iald X sh_106 dM_deals_29 hf (fun x2 hf => ?_)
        refine j_iload_n X dM_deals_30 rfl 3 rfl ?_
        refine j_icmp_eq X (tgt := 37) rfl rfl dM_deals_31 (by decide) hf (fun hf => ?_) (fun hf => ?_)
        · refine j_aload_n X dM_deals_37 rfl 1 rfl ?_
          refine j_iload X dM_deals_38 0 rfl ?_
          refine j_iload X dM_deals_40 5 rfl ?_
          refine j_aload_n X dM_deals_42 rfl 1 rfl ?_
          refine j_geta X gf_M_154_81 dM_deals_43 ?_
          refine j_iload_n X dM_deals_46 rfl 2 rfl ?_
          refine j_aald X sh_205 (by decide) (by decide) dM_deals_47 hf (fun i3 hi3 hf => ?_)
          show bz_J _ _ 48 _ _ _
          refine j_aload_n X dM_deals_48 rfl 1 rfl ?_
          refine j_geta X gf_M_74_81 dM_deals_49 ?_
          refine j_iload X dM_deals_52 0 rfl ?_
          refine j_iald X sh_103 dM_deals_54 hf (fun x4 hf => ?_)
          refine j_lald X (sr_205 i3 hi3) dM_deals_55 hf (fun x5 hf => ?_)
          obtain ⟨x6, hzx6, hf⟩ := q_cl hf
          refine j_cv X (st := []) (cM_dealtOf E F hzx6) gyM_dealtOf gv_M_dealtOf_81 rfl (by decide) (by decide) wd_1657 rfl (Nat.le_of_ble_eq_true rfl) dM_deals_56 ?_
          refine j_lstore X (lv' := [(6, bz_l x6), (5, bz_i l5), (0, bz_rf E 81), (1, bz_i l1), (2, bz_i l2), (3, bz_i l3), (4, bz_i l4)]) dM_deals_59 (by decide) rfl ?_
          refine j_iload_n X dM_deals_61 rfl 5 rfl ?_
          show bz_J _ _ 62 _ _ _
          obtain ⟨resJ7, hf0, hkJ7⟩ := q_l1 hf
          have J7 : ∀ (m16 : bz_Mm), some m16 = some resJ7 → bz_J K 8 134 [(6, bz_l x6), (5, bz_i l5), (0, bz_rf E 81), (1, bz_i l1), (2, bz_i l2), (3, bz_i l3), (4, bz_i l4)] [] m16 := by
            intro m16 he
            have hf := hkJ7 _ he
            refine j_aload_n X dM_deals_134 rfl 2 rfl ?_
            refine j_geta X gf_M_137_81 dM_deals_135 ?_
            refine j_iload_n X dM_deals_138 rfl 3 rfl ?_
            refine j_dup2 X dM_deals_139 rfl rfl ?_
            refine j_lald X sh_188 dM_deals_140 hf (fun x17 hf => ?_)
            refine j_lload X dM_deals_141 0 rfl ?_
            refine j_lconst X (v := 0) dM_deals_143 rfl ?_
            show bz_J _ _ 144 _ _ _
            obtain ⟨resJ18, hf0, hkJ18⟩ := q_l1 hf
            have J18 : ∀ (v19 : Int), some v19 = some resJ18 → bz_J K 8 166 [(6, bz_l x6), (5, bz_i l5), (0, bz_rf E 81), (1, bz_i l1), (2, bz_i l2), (3, bz_i l3), (4, bz_i l4)] [bz_l v19, bz_l x17, bz_i l1, bz_rf E 188] m16 := by
              intro v19 he
              have hf := hkJ18 _ he
              refine j_ladd X dM_deals_166 ?_
              refine j_last X sh_188 dM_deals_167 hf (fun m22 hf => ?_)
              refine j_aload_n X dM_deals_168 rfl 2 rfl ?_
              refine j_geta X gf_M_154_81 dM_deals_169 ?_
              refine j_iload_n X dM_deals_172 rfl 3 rfl ?_
              refine j_aald X sh_205 (by decide) (by decide) dM_deals_173 hf (fun i23 hi23 hf => ?_)
              refine j_aload_n X dM_deals_174 rfl 2 rfl ?_
              show bz_J _ _ 175 _ _ _
              refine j_geta X gf_M_74_81 dM_deals_175 ?_
              refine j_iload X dM_deals_178 1 rfl ?_
              refine j_iald X sh_103 dM_deals_180 hf (fun x24 hf => ?_)
              refine j_dup2 X dM_deals_181 rfl rfl ?_
              refine j_lald X (sr_205 i23 hi23) dM_deals_182 hf (fun x25 hf => ?_)
              refine j_lload X dM_deals_183 0 rfl ?_
              refine j_ladd X dM_deals_185 ?_
              refine j_last X (sr_205 i23 hi23) dM_deals_186 hf (fun m26 hf => ?_)
              show bz_J _ _ 187 _ _ _
              refine j_aload_n X dM_deals_187 rfl 2 rfl ?_
              refine j_geta X gf_M_157_81 dM_deals_188 ?_
              refine j_iload_n X dM_deals_191 rfl 3 rfl ?_
              refine j_dup2 X dM_deals_192 rfl rfl ?_
              refine j_lald X sh_210 dM_deals_193 hf (fun x27 hf => ?_)
              refine j_lload X dM_deals_194 0 rfl ?_
              refine j_ladd X dM_deals_196 ?_
              refine j_last X sh_210 dM_deals_197 hf (fun m28 hf => ?_)
              show bz_J _ _ 198 _ _ _
              refine j_iload X dM_deals_198 6 rfl ?_
              refine j_if_eq X (tgt := 213) rfl dM_deals_200 (by decide) hf (fun hf => ?_) (fun hf => ?_)
              · refine j_iinc X (y := l5 + 1) (lv' := [(5, bz_i (l5 + 1)), (6, bz_l x6), (0, bz_rf E 81), (1, bz_i l1), (2, bz_i l2), (3, bz_i l3), (4, bz_i l4)]) dM_deals_213 1 rfl rfl (by decide) rfl ?_
                refine j_goto X (tgt := 3) dM_deals_216 (by decide) ?_
                exact j_sub [0, 2, 3, 4, 5, 6] rfl (ih _ _ hf)
              · refine j_aload_n X dM_deals_203 rfl 2 rfl ?_
                refine j_geta X gf_M_86_81 dM_deals_204 ?_
                refine j_iload X dM_deals_207 1 rfl ?_
                refine j_lload X dM_deals_209 0 rfl ?_
                refine j_l2i X dM_deals_211 ?_
                refine j_iast X sh_107 dM_deals_212 hf (fun m29 hf => ?_)
                refine j_iinc X (y := l5 + 1) (lv' := [(5, bz_i (l5 + 1)), (6, bz_l x6), (0, bz_rf E 81), (1, bz_i l1), (2, bz_i l2), (3, bz_i l3), (4, bz_i l4)]) dM_deals_213 1 rfl rfl (by decide) rfl ?_
                show bz_J _ _ 216 _ _ _
                refine j_goto X (tgt := 3) dM_deals_216 (by decide) ?_
                exact j_sub [0, 2, 3, 4, 5, 6] rfl (ih _ _ hf)
            clear hf
            have hf := hf0
            clear hf0
            refine j_lcmp_le X (tgt := 158) rfl (w64_lit rfl) dM_deals_144 dM_deals_145 (by decide) hf (fun hf => ?_) (fun hf => ?_)
            · refine j_aload_n X dM_deals_158 rfl 2 rfl ?_
              refine j_geta X gf_M_140_81 dM_deals_159 ?_
              refine j_iload X dM_deals_162 1 rfl ?_
              refine j_lald X sh_189 dM_deals_164 hf (fun x20 hf => ?_)
              refine j_lneg X dM_deals_165 ?_
              exact J18 _ hf
            · refine j_aload_n X dM_deals_148 rfl 2 rfl ?_
              refine j_geta X gf_M_140_81 dM_deals_149 ?_
              refine j_iload X dM_deals_152 1 rfl ?_
              refine j_lald X sh_189 dM_deals_154 hf (fun x21 hf => ?_)
              refine j_goto X (tgt := 166) dM_deals_155 (by decide) ?_
              exact J18 _ hf
          clear hf
          have hf := hf0
          clear hf0
          refine j_if_eq X (tgt := 82) rfl dM_deals_62 (by decide) hf (fun hf => ?_) (fun hf => ?_)
          · refine j_aload_n X dM_deals_82 rfl 2 rfl ?_
            refine j_geta X gf_M_140_81 dM_deals_83 ?_
            refine j_iload X dM_deals_86 1 rfl ?_
            refine j_lload X dM_deals_88 0 rfl ?_
            refine j_lconst X (v := 0) dM_deals_90 rfl ?_
            refine j_lcmp_le X (tgt := 117) rfl (w64_lit rfl) dM_deals_91 dM_deals_92 (by decide) hf (fun hf => ?_) (fun hf => ?_)
            · refine j_lload X dM_deals_117 0 rfl ?_
              refine j_lneg X dM_deals_119 ?_
              refine j_aload_n X dM_deals_120 rfl 2 rfl ?_
              refine j_geta X gf_M_148_81 dM_deals_121 ?_
              refine j_iload_n X dM_deals_124 rfl 3 rfl ?_
              refine j_aald X sh_195 (by decide) (by decide) dM_deals_125 hf (fun i8 hi8 hf => ?_)
              refine j_iload_n X dM_deals_126 rfl 4 rfl ?_
              show bz_J _ _ 127 _ _ _
              refine j_lald X (sr_195 i8 hi8) dM_deals_127 hf (fun x9 hf => ?_)
              refine j_lmul X dM_deals_128 ?_
              refine j_ldc2 X (v := 100) wd_1435 dM_deals_129 ?_
              refine j_ldl X (w64_lit rfl) (by decide) dM_deals_132 ?_
              refine j_last X sh_189 dM_deals_133 hf (fun m10 hf => ?_)
              exact J7 _ hf
            · refine j_lload X dM_deals_95 0 rfl ?_
              refine j_aload_n X dM_deals_97 rfl 2 rfl ?_
              refine j_geta X gf_M_148_81 dM_deals_98 ?_
              refine j_iload_n X dM_deals_101 rfl 3 rfl ?_
              refine j_aald X sh_195 (by decide) (by decide) dM_deals_102 hf (fun i11 hi11 hf => ?_)
              refine j_iload_n X dM_deals_103 rfl 4 rfl ?_
              refine j_lald X (sr_195 i11 hi11) dM_deals_104 hf (fun x12 hf => ?_)
              show bz_J _ _ 105 _ _ _
              refine j_lmul X dM_deals_105 ?_
              refine j_ldc2 X (v := 99) wd_1669 dM_deals_106 ?_
              refine j_ladd X dM_deals_109 ?_
              refine j_ldc2 X (v := 100) wd_1435 dM_deals_110 ?_
              refine j_ldl X (w64_lit rfl) (by decide) dM_deals_113 ?_
              refine j_goto X (tgt := 133) dM_deals_114 (by decide) ?_
              refine j_last X sh_189 dM_deals_133 hf (fun m13 hf => ?_)
              exact J7 _ hf
          · refine j_aload_n X dM_deals_65 rfl 2 rfl ?_
            refine j_geta X gf_M_140_81 dM_deals_66 ?_
            refine j_iload X dM_deals_69 1 rfl ?_
            refine j_aload_n X dM_deals_71 rfl 2 rfl ?_
            refine j_geta X gf_M_92_81 dM_deals_72 ?_
            refine j_iload X dM_deals_75 1 rfl ?_
            refine j_lald X sh_109 dM_deals_77 hf (fun x14 hf => ?_)
            show bz_J _ _ 78 _ _ _
            refine j_last X sh_189 dM_deals_78 hf (fun m15 hf => ?_)
            refine j_goto X (tgt := 134) dM_deals_79 (by decide) ?_
            exact J7 _ hf
        · refine j_goto X (tgt := 213) dM_deals_34 (by decide) ?_
          refine j_iinc X (y := l5 + 1) (lv' := [(5, bz_i (l5 + 1)), (0, bz_rf E 81), (1, bz_i l1), (2, bz_i l2), (3, bz_i l3), (4, bz_i l4)]) dM_deals_213 0 rfl rfl (by decide) rfl ?_
          refine j_goto X (tgt := 3) dM_deals_216 (by decide) ?_
          exact ih _ _ hf
def fM_deals (F : Nat) (M : bz_Mm) (a1 : Int) (a2 : Int) (a3 : Int) (a4 : Int) : Option (bz_Mm) :=
  cl1_ (M_deals_L3 F F a1 a2 a3 a4 0 M) fun m30 =>
  some m30
set_option maxHeartbeats 4000000 in
set_option maxRecDepth 20000 in
theorem cM_deals (E : bz_E) (F : Nat)  {M : bz_Mm} {a1 : Int} {a2 : Int} {a3 : Int} {a4 : Int} {x0 : bz_Mm} (hf : fM_deals F M a1 a2 a3 a4 = some x0) : bz_Ct E yM_deals (.code yM_deals prog_14_method_56_code 8 none) 2 49 [bz_rf E 81, bz_i a1, bz_i a2, bz_i a3, bz_i a4] M (none) x0 := by
  refine bz_met (by decide +kernel) (Nat.le_of_ble_eq_true rfl) (fun K X => ?_)
  have X : bz_X K E prog_14_method_56_code 8 "UnitsWrongModel" none 2 49 _ _ := X
  unfold fM_deals at hf
  show bz_J K 8 0 [(0, bz_rf E 81), (1, bz_i a1), (2, bz_i a2), (3, bz_i a3), (4, bz_i a4)] [] M
  refine j_iconst X dM_deals_0 ?_
  refine j_istore X (lv' := [(5, bz_i 0), (0, bz_rf E 81), (1, bz_i a1), (2, bz_i a2), (3, bz_i a3), (4, bz_i a4)]) dM_deals_1 (by decide) rfl ?_
  obtain ⟨res31, hz31, hk31⟩ := q_l1 hf
  clear hf
  refine lM_deals_L3 E F X (fun m30 he => ?_) F 0 M hz31
  have hf := hk31 _ he
  cases hf
  exact j_vret X dM_deals_219 rfl rfl
def M_goesThrough_L36 (F : Nat) : Nat → Int → Int → Int → Int → bz_Mm → Option (bz_Mm)
  | 0, _, _, _, _, _ => none
  | n + 1, l5, l4, l1, l6, M =>
    if w32 l6 < w32 (M 81 19) then
    (cl_ (fM_papers F M l6 l1) fun m5 =>
    cl_ (fM_feeds1 F m5 l6 l1) fun m6 =>
    cl_ (fM_isOpen F m6 l1) fun x7 =>
    if w32 x7 = 0 then
    (M_goesThrough_L36 F n l5 l4 l1 (l6 + 1) m6)
    else
    (cl1_ (if w32 l5 = 0 then
    (cl_ (fM_prices F m6 l6 l1 l4) fun m9 =>
    some (m9))
    else
    (rd_ m6 188 l6 4 fun x10 =>
    ra_ l6 4 fun i11 =>
    rd_ m6 (217 + i11) l1 260 fun x12 =>
    wa_ m6 188 l6 4 (x10 - x12) fun m13 =>
    some (m13))) fun m14 =>
    cl_ (fM_deals F m14 l6 l1 l5 l4) fun m15 =>
    M_goesThrough_L36 F n l5 l4 l1 (l6 + 1) m15))
    else
    (some M)
theorem lM_goesThrough_L36 (E : bz_E) (F : Nat) {K : bz_K} {rv : Option Value} {M1 : bz_Mm} (X : bz_X K E prog_14_method_57_code 7 "UnitsWrongModel" none 4 106 rv M1) {l5 : Int} {l4 : Int} {l1 : Int} {res : (bz_Mm)}
    (kx : ∀ (M : bz_Mm), some M = some res → bz_J K 7 123 [] [] M) :
    ∀ (n : Nat) (l6 : Int) (M : bz_Mm), M_goesThrough_L36 F n l5 l4 l1 l6 M = some res → bz_J K 7 36 [(6, bz_i l6), (5, bz_i l5), (4, bz_i l4), (0, bz_rf E 81), (1, bz_i l1)] [] M := by
  intro n
  induction n with
  | zero => intro l6 M hf; cases hf
  | succ n ih =>
    intro l6 M hf
    rw [M_goesThrough_L36] at hf
    refine j_iload X dM_goesThrough_36 0 rfl ?_
    refine j_aload_n X dM_goesThrough_38 rfl 3 rfl ?_
    refine j_geti X gf_M_275_81 dM_goesThrough_39 ?_
    refine j_icmp_ge X (tgt := 123) rfl rfl dM_goesThrough_42 (by decide) hf (fun hf => ?_) (fun hf => ?_)
    · exact j_sub [] rfl (kx _ hf)
    · refine j_aload_n X dM_goesThrough_45 rfl 3 rfl ?_
      refine j_iload X dM_goesThrough_46 0 rfl ?_
      refine j_iload_n X dM_goesThrough_48 rfl 4 rfl ?_
      obtain ⟨m5, hz, hf⟩ := q_cl hf
      refine j_cv X (st := []) (cM_papers E F hz) gyM_papers gv_M_papers_81 rfl (by decide) (by decide) wd_1634 rfl (Nat.le_of_ble_eq_true rfl) dM_goesThrough_49 ?_
      clear hz
      refine j_aload_n X dM_goesThrough_52 rfl 3 rfl ?_
      refine j_iload X dM_goesThrough_53 0 rfl ?_
      refine j_iload_n X dM_goesThrough_55 rfl 4 rfl ?_
      show bz_J _ _ 56 _ _ _
      obtain ⟨m6, hz, hf⟩ := q_cl hf
      refine j_cv X (st := []) (cM_feeds1 E F hz) gyM_feeds1 gv_M_feeds1_81 rfl (by decide) (by decide) wd_1640 rfl (Nat.le_of_ble_eq_true rfl) dM_goesThrough_56 ?_
      clear hz
      refine j_aload_n X dM_goesThrough_59 rfl 3 rfl ?_
      refine j_iload_n X dM_goesThrough_60 rfl 4 rfl ?_
      obtain ⟨x7, hzx7, hf⟩ := q_cl hf
      refine j_cv X (st := []) (cM_isOpen E F hzx7) gyM_isOpen gv_M_isOpen_81 rfl (by decide) (by decide) wd_1415 rfl (Nat.le_of_ble_eq_true rfl) dM_goesThrough_61 ?_
      refine j_if_ne X (tgt := 70) rfl dM_goesThrough_64 (by decide) hf (fun hf => ?_) (fun hf => ?_)
      · refine j_iload X dM_goesThrough_70 1 rfl ?_
        obtain ⟨resJ8, hf0, hkJ8⟩ := q_l1 hf
        have J8 : ∀ (m14 : bz_Mm), some m14 = some resJ8 → bz_J K 7 106 [(6, bz_i l6), (5, bz_i l5), (4, bz_i l4), (0, bz_rf E 81), (1, bz_i l1)] [] m14 := by
          intro m14 he
          have hf := hkJ8 _ he
          refine j_aload_n X dM_goesThrough_106 rfl 3 rfl ?_
          refine j_iload X dM_goesThrough_107 0 rfl ?_
          refine j_iload_n X dM_goesThrough_109 rfl 4 rfl ?_
          refine j_iload X dM_goesThrough_110 1 rfl ?_
          refine j_iload X dM_goesThrough_112 2 rfl ?_
          obtain ⟨m15, hz, hf⟩ := q_cl hf
          refine j_cv X (st := []) (cM_deals E F hz) gyM_deals gv_M_deals_81 rfl (by decide) (by decide) wd_1665 rfl (Nat.le_of_ble_eq_true rfl) dM_goesThrough_114 ?_
          clear hz
          refine j_iinc X (y := l6 + 1) (lv' := [(6, bz_i (l6 + 1)), (5, bz_i l5), (4, bz_i l4), (0, bz_rf E 81), (1, bz_i l1)]) dM_goesThrough_117 0 rfl rfl (by decide) rfl ?_
          show bz_J _ _ 120 _ _ _
          refine j_goto X (tgt := 36) dM_goesThrough_120 (by decide) ?_
          exact ih _ _ hf
        clear hf
        have hf := hf0
        clear hf0
        refine j_if_eq X (tgt := 97) rfl dM_goesThrough_72 (by decide) hf (fun hf => ?_) (fun hf => ?_)
        · refine j_aload_n X dM_goesThrough_97 rfl 3 rfl ?_
          refine j_iload X dM_goesThrough_98 0 rfl ?_
          refine j_iload_n X dM_goesThrough_100 rfl 4 rfl ?_
          refine j_iload X dM_goesThrough_101 2 rfl ?_
          obtain ⟨m9, hz, hf⟩ := q_cl hf
          refine j_cv X (st := []) (cM_prices E F hz) gyM_prices gv_M_prices_81 rfl (by decide) (by decide) wd_1644 rfl (Nat.le_of_ble_eq_true rfl) dM_goesThrough_103 ?_
          clear hz
          exact J8 _ hf
        · refine j_aload_n X dM_goesThrough_75 rfl 3 rfl ?_
          refine j_geta X gf_M_137_81 dM_goesThrough_76 ?_
          refine j_iload X dM_goesThrough_79 0 rfl ?_
          refine j_dup2 X dM_goesThrough_81 rfl rfl ?_
          refine j_lald X sh_188 dM_goesThrough_82 hf (fun x10 hf => ?_)
          refine j_aload_n X dM_goesThrough_83 rfl 3 rfl ?_
          refine j_geta X gf_M_163_81 dM_goesThrough_84 ?_
          show bz_J _ _ 87 _ _ _
          refine j_iload X dM_goesThrough_87 0 rfl ?_
          refine j_aald X sh_216 (by decide) (by decide) dM_goesThrough_89 hf (fun i11 hi11 hf => ?_)
          refine j_iload_n X dM_goesThrough_90 rfl 4 rfl ?_
          refine j_lald X (sr_216 i11 hi11) dM_goesThrough_91 hf (fun x12 hf => ?_)
          refine j_lsub X dM_goesThrough_92 ?_
          refine j_last X sh_188 dM_goesThrough_93 hf (fun m13 hf => ?_)
          refine j_goto X (tgt := 106) dM_goesThrough_94 (by decide) ?_
          exact J8 _ hf
      · refine j_goto X (tgt := 117) dM_goesThrough_67 (by decide) ?_
        refine j_iinc X (y := l6 + 1) (lv' := [(6, bz_i (l6 + 1)), (5, bz_i l5), (4, bz_i l4), (0, bz_rf E 81), (1, bz_i l1)]) dM_goesThrough_117 0 rfl rfl (by decide) rfl ?_
        refine j_goto X (tgt := 36) dM_goesThrough_120 (by decide) ?_
        exact ih _ _ hf
def fM_goesThrough (F : Nat) (M : bz_Mm) (a1 : Int) (a2 : Int) (a3 : Int) : Option (bz_Mm) :=
  cl1_ (if w32 a2 = 1 then
  (if w32 a1 = w32 a3 then
  (some (1))
  else
  (some (0)))
  else
  (some (0))) fun v2 =>
  cl1_ (if w32 a2 = 0 then
  (some (0))
  else
  (if w32 v2 = 0 then
  (some (1))
  else
  (some (0)))) fun v4 =>
  cl1_ (M_goesThrough_L36 F F v4 v2 a1 0 M) fun m16 =>
  some m16
set_option maxHeartbeats 4000000 in
set_option maxRecDepth 20000 in
theorem cM_goesThrough (E : bz_E) (F : Nat)  {M : bz_Mm} {a1 : Int} {a2 : Int} {a3 : Int} {x0 : bz_Mm} (hf : fM_goesThrough F M a1 a2 a3 = some x0) : bz_Ct E yM_goesThrough (.code yM_goesThrough prog_14_method_57_code 7 none) 4 106 [bz_rf E 81, bz_i a1, bz_i a2, bz_i a3] M (none) x0 := by
  refine bz_met (by decide +kernel) (Nat.le_of_ble_eq_true rfl) (fun K X => ?_)
  have X : bz_X K E prog_14_method_57_code 7 "UnitsWrongModel" none 4 106 _ _ := X
  unfold fM_goesThrough at hf
  show bz_J K 7 0 [(0, bz_rf E 81), (1, bz_i a1), (2, bz_i a2), (3, bz_i a3)] [] M
  refine j_iload_n X dM_goesThrough_0 rfl 2 rfl ?_
  refine j_iconst X dM_goesThrough_1 ?_
  obtain ⟨resJ1, hf0, hkJ1⟩ := q_l1 hf
  have J1 : ∀ (v2 : Int), some v2 = some resJ1 → bz_J K 7 15 [(0, bz_rf E 81), (1, bz_i a1), (2, bz_i a2)] [bz_i v2] M := by
    intro v2 he
    have hf := hkJ1 _ he
    refine j_istore X (lv' := [(4, bz_i v2), (0, bz_rf E 81), (1, bz_i a1), (2, bz_i a2)]) dM_goesThrough_15 (by decide) rfl ?_
    refine j_iload_n X dM_goesThrough_17 rfl 3 rfl ?_
    obtain ⟨resJ3, hf0, hkJ3⟩ := q_l1 hf
    have J3 : ∀ (v4 : Int), some v4 = some resJ3 → bz_J K 7 31 [(4, bz_i v2), (0, bz_rf E 81), (1, bz_i a1)] [bz_i v4] M := by
      intro v4 he
      have hf := hkJ3 _ he
      refine j_istore X (lv' := [(5, bz_i v4), (4, bz_i v2), (0, bz_rf E 81), (1, bz_i a1)]) dM_goesThrough_31 (by decide) rfl ?_
      refine j_iconst X dM_goesThrough_33 ?_
      refine j_istore X (lv' := [(6, bz_i 0), (5, bz_i v4), (4, bz_i v2), (0, bz_rf E 81), (1, bz_i a1)]) dM_goesThrough_34 (by decide) rfl ?_
      obtain ⟨res17, hz17, hk17⟩ := q_l1 hf
      clear hf
      refine lM_goesThrough_L36 E F X (fun m16 he => ?_) F 0 M hz17
      have hf := hk17 _ he
      cases hf
      exact j_vret X dM_goesThrough_123 rfl rfl
    clear hf
    have hf := hf0
    clear hf0
    refine j_if_eq X (tgt := 30) rfl dM_goesThrough_18 (by decide) hf (fun hf => ?_) (fun hf => ?_)
    · refine j_iconst X dM_goesThrough_30 ?_
      exact j_sub [0, 1, 2] rfl (J3 _ hf)
    · refine j_iload X dM_goesThrough_21 0 rfl ?_
      refine j_if_ne X (tgt := 30) rfl dM_goesThrough_23 (by decide) hf (fun hf => ?_) (fun hf => ?_)
      · refine j_iconst X dM_goesThrough_30 ?_
        exact j_sub [0, 1, 2] rfl (J3 _ hf)
      · refine j_iconst X dM_goesThrough_26 ?_
        refine j_goto X (tgt := 31) dM_goesThrough_27 (by decide) ?_
        exact j_sub [0, 1, 2] rfl (J3 _ hf)
  clear hf
  have hf := hf0
  clear hf0
  refine j_icmp_ne X (tgt := 14) rfl (w32_lit rfl) dM_goesThrough_2 (by decide) hf (fun hf => ?_) (fun hf => ?_)
  · refine j_iconst X dM_goesThrough_14 ?_
    exact j_sub [0, 1, 2] rfl (J1 _ hf)
  · refine j_iload_n X dM_goesThrough_5 rfl 1 rfl ?_
    refine j_iload_n X dM_goesThrough_6 rfl 3 rfl ?_
    refine j_icmp_ne X (tgt := 14) rfl rfl dM_goesThrough_7 (by decide) hf (fun hf => ?_) (fun hf => ?_)
    · refine j_iconst X dM_goesThrough_14 ?_
      exact j_sub [0, 1, 2] rfl (J1 _ hf)
    · refine j_iconst X dM_goesThrough_10 ?_
      refine j_goto X (tgt := 15) dM_goesThrough_11 (by decide) ?_
      exact j_sub [0, 1, 2] rfl (J1 _ hf)
def M_through_L12 (F : Nat) : Nat → Int → Int → Int → bz_Mm → Option (bz_Mm)
  | 0, _, _, _, _ => none
  | n + 1, l1, l3, l4, M =>
    if w32 l1 < w32 l4 then
    (some M)
    else
    (cl_ (fM_goesThrough F M l4 l3 l1) fun m3 =>
    M_through_L12 F n l1 l3 (l4 + 1) m3)
theorem lM_through_L12 (E : bz_E) (F : Nat) {K : bz_K} {rv : Option Value} {M1 : bz_Mm} (X : bz_X K E prog_14_method_58_code 5 "UnitsWrongModel" none 5 132 rv M1) {l1 : Int} {l3 : Int} {res : (bz_Mm)}
    (kx : ∀ (M : bz_Mm), some M = some res → bz_J K 5 32 [] [] M) :
    ∀ (n : Nat) (l4 : Int) (M : bz_Mm), M_through_L12 F n l1 l3 l4 M = some res → bz_J K 5 12 [(4, bz_i l4), (0, bz_rf E 81), (1, bz_i l1), (3, bz_i l3)] [] M := by
  intro n
  induction n with
  | zero => intro l4 M hf; cases hf
  | succ n ih =>
    intro l4 M hf
    rw [M_through_L12] at hf
    refine j_iload X dM_through_12 0 rfl ?_
    refine j_iload_n X dM_through_14 rfl 2 rfl ?_
    refine j_icmp_gt X (tgt := 32) rfl rfl dM_through_15 (by decide) hf (fun hf => ?_) (fun hf => ?_)
    · exact j_sub [] rfl (kx _ hf)
    · refine j_aload_n X dM_through_18 rfl 1 rfl ?_
      refine j_iload X dM_through_19 0 rfl ?_
      refine j_iload_n X dM_through_21 rfl 3 rfl ?_
      refine j_iload_n X dM_through_22 rfl 2 rfl ?_
      obtain ⟨m3, hz, hf⟩ := q_cl hf
      refine j_cv X (st := []) (cM_goesThrough E F hz) gyM_goesThrough gv_M_goesThrough_81 rfl (by decide) (by decide) wd_1630 rfl (Nat.le_of_ble_eq_true rfl) dM_through_23 ?_
      clear hz
      refine j_iinc X (y := l4 + 1) (lv' := [(4, bz_i (l4 + 1)), (0, bz_rf E 81), (1, bz_i l1), (3, bz_i l3)]) dM_through_26 0 rfl rfl (by decide) rfl ?_
      refine j_goto X (tgt := 12) dM_through_29 (by decide) ?_
      exact ih _ _ hf
def fM_through (F : Nat) (M : bz_Mm) (a1 : Int) (a2 : Int) (a3 : Int) : Option (bz_Mm) :=
  cl_ (fM_knows F M a2) fun m1 =>
  cl_ (fM_begins F m1) fun m2 =>
  cl1_ (M_through_L12 F F a1 a3 0 m2) fun m4 =>
  some m4
set_option maxHeartbeats 4000000 in
set_option maxRecDepth 20000 in
theorem cM_through (E : bz_E) (F : Nat)  {M : bz_Mm} {a1 : Int} {a2 : Int} {a3 : Int} {x0 : bz_Mm} (hf : fM_through F M a1 a2 a3 = some x0) : bz_Ct E yM_through (.code yM_through prog_14_method_58_code 5 none) 5 132 [bz_rf E 81, bz_i a1, bz_i a2, bz_i a3] M (none) x0 := by
  refine bz_met (by decide +kernel) (Nat.le_of_ble_eq_true rfl) (fun K X => ?_)
  have X : bz_X K E prog_14_method_58_code 5 "UnitsWrongModel" none 5 132 _ _ := X
  unfold fM_through at hf
  show bz_J K 5 0 [(0, bz_rf E 81), (1, bz_i a1), (2, bz_i a2), (3, bz_i a3)] [] M
  refine j_aload_n X dM_through_0 rfl 0 rfl ?_
  refine j_iload_n X dM_through_1 rfl 2 rfl ?_
  obtain ⟨m1, hz, hf⟩ := q_cl hf
  refine j_cv X (st := []) (cM_knows E F hz) gyM_knows gv_M_knows_81 rfl (by decide) (by decide) wd_1618 rfl (Nat.le_of_ble_eq_true rfl) dM_through_2 ?_
  clear hz
  refine j_aload_n X dM_through_5 rfl 0 rfl ?_
  obtain ⟨m2, hz, hf⟩ := q_cl hf
  refine j_cv X (st := []) (cM_begins E F hz) gyM_begins gv_M_begins_81 rfl (by decide) (by decide) wd_1626 rfl (Nat.le_of_ble_eq_true rfl) dM_through_6 ?_
  clear hz
  refine j_iconst X dM_through_9 ?_
  refine j_istore X (lv' := [(4, bz_i 0), (0, bz_rf E 81), (1, bz_i a1), (2, bz_i a2), (3, bz_i a3)]) dM_through_10 (by decide) rfl ?_
  obtain ⟨res5, hz5, hk5⟩ := q_l1 hf
  clear hf
  refine j_sub [0, 1, 2, 4] rfl ?_
  refine lM_through_L12 E F X (fun m4 he => ?_) F 0 m2 hz5
  have hf := hk5 _ he
  cases hf
  exact j_vret X dM_through_32 rfl rfl
def M_books_L15 (F : Nat) : Nat → Int → bz_Mm → Option (bz_Mm)
  | 0, _, _ => none
  | n + 1, l1, M =>
    if w32 l1 < w32 (M 81 19) then
    (ra_ l1 4 fun i2 =>
    ra_ l1 4 fun i3 =>
    rd_ M (196 + i3) (M 81 0) 260 fun x4 =>
    wa_ M (212 + i2) (M 81 0) 260 x4 fun m5 =>
    ra_ l1 4 fun i6 =>
    cl_ (fM_isOpen F m5 (m5 81 0)) fun x7 =>
    if w32 x7 = 0 then
    (wa_ m5 (217 + i6) (m5 81 0) 260 0 fun m8 =>
    M_books_L15 F n (l1 + 1) m8)
    else
    (ra_ l1 4 fun i9 =>
    rd_ m5 (201 + i9) (m5 81 0) 260 fun x10 =>
    wa_ m5 (217 + i6) (m5 81 0) 260 x10 fun m11 =>
    M_books_L15 F n (l1 + 1) m11))
    else
    (some M)
def M_books_L90 (F : Nat) : Nat → Int → bz_Mm → Option (bz_Mm)
  | 0, _, _ => none
  | n + 1, l1, M =>
    if w32 l1 < w32 (M 81 35) then
    (rd_ M 106 l1 200 fun x13 =>
    if w32 x13 = w32 (M 81 0) then
    (cl_ (fM_isOpen F M (M 81 0)) fun x14 =>
    if w32 x14 = 0 then
    (M_books_L90 F n (l1 + 1) M)
    else
    (rd_ M 189 l1 200 fun x15 =>
    wa_ M 109 l1 200 x15 fun m16 =>
    wa_ m16 108 l1 200 1 fun m17 =>
    M_books_L90 F n (l1 + 1) m17))
    else
    (M_books_L90 F n (l1 + 1) M))
    else
    (some M)
theorem lM_books_L15 (E : bz_E) (F : Nat) {K : bz_K} {rv : Option Value} {M1 : bz_Mm} (X : bz_X K E prog_14_method_59_code 2 "UnitsWrongModel" none 6 156 rv M1) {res : (bz_Mm)}
    (kx : ∀ (M : bz_Mm), some M = some res → bz_J K 2 88 [(0, bz_rf E 81)] [] M) :
    ∀ (n : Nat) (l1 : Int) (M : bz_Mm), M_books_L15 F n l1 M = some res → bz_J K 2 15 [(1, bz_i l1), (0, bz_rf E 81)] [] M := by
  intro n
  induction n with
  | zero => intro l1 M hf; cases hf
  | succ n ih =>
    intro l1 M hf
    rw [M_books_L15] at hf
    refine j_iload_n X dM_books_15 rfl 0 rfl ?_
    refine j_aload_n X dM_books_16 rfl 1 rfl ?_
    refine j_geti X gf_M_275_81 dM_books_17 ?_
    refine j_icmp_ge X (tgt := 88) rfl rfl dM_books_20 (by decide) hf (fun hf => ?_) (fun hf => ?_)
    · exact j_sub [1] rfl (kx _ hf)
    · refine j_aload_n X dM_books_23 rfl 1 rfl ?_
      refine j_geta X gf_M_160_81 dM_books_24 ?_
      refine j_iload_n X dM_books_27 rfl 0 rfl ?_
      refine j_aald X sh_211 (by decide) (by decide) dM_books_28 hf (fun i2 hi2 hf => ?_)
      refine j_aload_n X dM_books_29 rfl 1 rfl ?_
      refine j_geti X gf_M_216_81 dM_books_30 ?_
      refine j_aload_n X dM_books_33 rfl 1 rfl ?_
      show bz_J _ _ 34 _ _ _
      refine j_geta X gf_M_148_81 dM_books_34 ?_
      refine j_iload_n X dM_books_37 rfl 0 rfl ?_
      refine j_aald X sh_195 (by decide) (by decide) dM_books_38 hf (fun i3 hi3 hf => ?_)
      refine j_aload_n X dM_books_39 rfl 1 rfl ?_
      refine j_geti X gf_M_216_81 dM_books_40 ?_
      refine j_lald X (sr_195 i3 hi3) dM_books_43 hf (fun x4 hf => ?_)
      refine j_last X (sr_211 i2 hi2) dM_books_44 hf (fun m5 hf => ?_)
      refine j_aload_n X dM_books_45 rfl 1 rfl ?_
      show bz_J _ _ 46 _ _ _
      refine j_geta X gf_M_163_81 dM_books_46 ?_
      refine j_iload_n X dM_books_49 rfl 0 rfl ?_
      refine j_aald X sh_216 (by decide) (by decide) dM_books_50 hf (fun i6 hi6 hf => ?_)
      refine j_aload_n X dM_books_51 rfl 1 rfl ?_
      refine j_geti X gf_M_216_81 dM_books_52 ?_
      refine j_aload_n X dM_books_55 rfl 1 rfl ?_
      refine j_aload_n X dM_books_56 rfl 1 rfl ?_
      refine j_geti X gf_M_216_81 dM_books_57 ?_
      show bz_J _ _ 60 _ _ _
      obtain ⟨x7, hzx7, hf⟩ := q_cl hf
      refine j_cv X (st := [bz_i (m5 81 0), bz_rf E (217 + i6)]) (cM_isOpen E F hzx7) gyM_isOpen gv_M_isOpen_81 rfl (by decide) (by decide) wd_1415 rfl (Nat.le_of_ble_eq_true rfl) dM_books_60 ?_
      refine j_if_eq X (tgt := 80) rfl dM_books_63 (by decide) hf (fun hf => ?_) (fun hf => ?_)
      · refine j_lconst X (v := 0) dM_books_80 rfl ?_
        refine j_last X (sr_216 i6 hi6) dM_books_81 hf (fun m8 hf => ?_)
        refine j_iinc X (y := l1 + 1) (lv' := [(1, bz_i (l1 + 1)), (0, bz_rf E 81)]) dM_books_82 0 rfl rfl (by decide) rfl ?_
        refine j_goto X (tgt := 15) dM_books_85 (by decide) ?_
        exact ih _ _ hf
      · refine j_aload_n X dM_books_66 rfl 1 rfl ?_
        refine j_geta X gf_M_151_81 dM_books_67 ?_
        refine j_iload_n X dM_books_70 rfl 0 rfl ?_
        refine j_aald X sh_200 (by decide) (by decide) dM_books_71 hf (fun i9 hi9 hf => ?_)
        refine j_aload_n X dM_books_72 rfl 1 rfl ?_
        refine j_geti X gf_M_216_81 dM_books_73 ?_
        refine j_lald X (sr_200 i9 hi9) dM_books_76 hf (fun x10 hf => ?_)
        show bz_J _ _ 77 _ _ _
        refine j_goto X (tgt := 81) dM_books_77 (by decide) ?_
        refine j_last X (sr_216 i6 hi6) dM_books_81 hf (fun m11 hf => ?_)
        refine j_iinc X (y := l1 + 1) (lv' := [(1, bz_i (l1 + 1)), (0, bz_rf E 81)]) dM_books_82 0 rfl rfl (by decide) rfl ?_
        refine j_goto X (tgt := 15) dM_books_85 (by decide) ?_
        exact ih _ _ hf
theorem lM_books_L90 (E : bz_E) (F : Nat) {K : bz_K} {rv : Option Value} {M1 : bz_Mm} (X : bz_X K E prog_14_method_59_code 2 "UnitsWrongModel" none 6 156 rv M1) {res : (bz_Mm)}
    (kx : ∀ (M : bz_Mm), some M = some res → bz_J K 2 150 [] [] M) :
    ∀ (n : Nat) (l1 : Int) (M : bz_Mm), M_books_L90 F n l1 M = some res → bz_J K 2 90 [(1, bz_i l1), (0, bz_rf E 81)] [] M := by
  intro n
  induction n with
  | zero => intro l1 M hf; cases hf
  | succ n ih =>
    intro l1 M hf
    rw [M_books_L90] at hf
    refine j_iload_n X dM_books_90 rfl 0 rfl ?_
    refine j_aload_n X dM_books_91 rfl 1 rfl ?_
    refine j_geti X gf_M_302_81 dM_books_92 ?_
    refine j_icmp_ge X (tgt := 150) rfl rfl dM_books_95 (by decide) hf (fun hf => ?_) (fun hf => ?_)
    · exact j_sub [] rfl (kx _ hf)
    · refine j_aload_n X dM_books_98 rfl 1 rfl ?_
      refine j_geta X gf_M_83_81 dM_books_99 ?_
      refine j_iload_n X dM_books_102 rfl 0 rfl ?_
      refine j_iald X sh_106 dM_books_103 hf (fun x13 hf => ?_)
      refine j_aload_n X dM_books_104 rfl 1 rfl ?_
      refine j_geti X gf_M_216_81 dM_books_105 ?_
      refine j_icmp_ne X (tgt := 144) rfl rfl dM_books_108 (by decide) hf (fun hf => ?_) (fun hf => ?_)
      · refine j_iinc X (y := l1 + 1) (lv' := [(1, bz_i (l1 + 1)), (0, bz_rf E 81)]) dM_books_144 0 rfl rfl (by decide) rfl ?_
        refine j_goto X (tgt := 90) dM_books_147 (by decide) ?_
        exact ih _ _ hf
      · refine j_aload_n X dM_books_111 rfl 1 rfl ?_
        refine j_aload_n X dM_books_112 rfl 1 rfl ?_
        refine j_geti X gf_M_216_81 dM_books_113 ?_
        obtain ⟨x14, hzx14, hf⟩ := q_cl hf
        refine j_cv X (st := []) (cM_isOpen E F hzx14) gyM_isOpen gv_M_isOpen_81 rfl (by decide) (by decide) wd_1415 rfl (Nat.le_of_ble_eq_true rfl) dM_books_116 ?_
        refine j_if_ne X (tgt := 125) rfl dM_books_119 (by decide) hf (fun hf => ?_) (fun hf => ?_)
        · refine j_aload_n X dM_books_125 rfl 1 rfl ?_
          refine j_geta X gf_M_92_81 dM_books_126 ?_
          refine j_iload_n X dM_books_129 rfl 0 rfl ?_
          refine j_aload_n X dM_books_130 rfl 1 rfl ?_
          refine j_geta X gf_M_140_81 dM_books_131 ?_
          refine j_iload_n X dM_books_134 rfl 0 rfl ?_
          refine j_lald X sh_189 dM_books_135 hf (fun x15 hf => ?_)
          show bz_J _ _ 136 _ _ _
          refine j_last X sh_109 dM_books_136 hf (fun m16 hf => ?_)
          refine j_aload_n X dM_books_137 rfl 1 rfl ?_
          refine j_geta X gf_M_89_81 dM_books_138 ?_
          refine j_iload_n X dM_books_141 rfl 0 rfl ?_
          refine j_iconst X dM_books_142 ?_
          refine j_zast X sh_108 (by decide +kernel) dM_books_143 hf (fun m17 hf => ?_)
          refine j_iinc X (y := l1 + 1) (lv' := [(1, bz_i (l1 + 1)), (0, bz_rf E 81)]) dM_books_144 0 rfl rfl (by decide) rfl ?_
          refine j_goto X (tgt := 90) dM_books_147 (by decide) ?_
          exact ih _ _ hf
        · refine j_goto X (tgt := 144) dM_books_122 (by decide) ?_
          refine j_iinc X (y := l1 + 1) (lv' := [(1, bz_i (l1 + 1)), (0, bz_rf E 81)]) dM_books_144 0 rfl rfl (by decide) rfl ?_
          refine j_goto X (tgt := 90) dM_books_147 (by decide) ?_
          exact ih _ _ hf
def fM_books (F : Nat) (M : bz_Mm) : Option (bz_Mm) :=
  cl_ (fM_through F M (M 81 0) (M 81 0) 1) fun m1 =>
  cl1_ (M_books_L15 F F 0 m1) fun m12 =>
  cl1_ (M_books_L90 F F 0 m12) fun m18 =>
  some m18
set_option maxHeartbeats 4000000 in
set_option maxRecDepth 20000 in
theorem cM_books (E : bz_E) (F : Nat)  {M : bz_Mm} {x0 : bz_Mm} (hf : fM_books F M = some x0) : bz_Ct E yM_books (.code yM_books prog_14_method_59_code 2 none) 6 156 [bz_rf E 81] M (none) x0 := by
  refine bz_met (by decide +kernel) (Nat.le_of_ble_eq_true rfl) (fun K X => ?_)
  have X : bz_X K E prog_14_method_59_code 2 "UnitsWrongModel" none 6 156 _ _ := X
  unfold fM_books at hf
  show bz_J K 2 0 [(0, bz_rf E 81)] [] M
  refine j_aload_n X dM_books_0 rfl 0 rfl ?_
  refine j_aload_n X dM_books_1 rfl 0 rfl ?_
  refine j_geti X gf_M_216_81 dM_books_2 ?_
  refine j_aload_n X dM_books_5 rfl 0 rfl ?_
  refine j_geti X gf_M_216_81 dM_books_6 ?_
  refine j_iconst X dM_books_9 ?_
  obtain ⟨m1, hz, hf⟩ := q_cl hf
  refine j_cv X (st := []) (cM_through E F hz) gyM_through gv_M_through_81 rfl (by decide) (by decide) wd_1614 rfl (Nat.le_of_ble_eq_true rfl) dM_books_10 ?_
  clear hz
  show bz_J _ _ 13 _ _ _
  refine j_iconst X dM_books_13 ?_
  refine j_istore_n X (lv' := [(1, bz_i 0), (0, bz_rf E 81)]) dM_books_14 rfl (by decide) rfl ?_
  obtain ⟨res20, hz20, hk20⟩ := q_l1 hf
  clear hf
  refine lM_books_L15 E F X (fun m12 he => ?_) F 0 m1 hz20
  have hf := hk20 _ he
  refine j_iconst X dM_books_88 ?_
  refine j_istore_n X (lv' := [(1, bz_i 0), (0, bz_rf E 81)]) dM_books_89 rfl (by decide) rfl ?_
  obtain ⟨res19, hz19, hk19⟩ := q_l1 hf
  clear hf
  refine lM_books_L90 E F X (fun m18 he => ?_) F 0 m12 hz19
  have hf := hk19 _ he
  cases hf
  exact j_vret X dM_books_150 rfl rfl
def M_go_L16 (F : Nat) : Nat → Int → Int → bz_Mm → Option (bz_Mm)
  | 0, _, _, _ => none
  | n + 1, l1, l2, M =>
    if w32 l2 < w32 l1 then
    (if w32 (M 81 0) < 260 then
    (cl_ (fM_books F M) fun m1 =>
    wf_ m1 81 0 ((m1 81 0) + 1) fun m2 =>
    M_go_L16 F n l1 (l2 + 1) m2)
    else
    (some M))
    else
    (some M)
theorem lM_go_L16 (E : bz_E) (F : Nat) {K : bz_K} {rv : Option Value} {M1 : bz_Mm} (X : bz_X K E prog_14_method_60_code 3 "UnitsWrongModel" (some .int) 7 177 rv M1) {l1 : Int} {res : (bz_Mm)}
    (kx : ∀ (M : bz_Mm), some M = some res → bz_J K 3 51 [(0, bz_rf E 81)] [] M) :
    ∀ (n : Nat) (l2 : Int) (M : bz_Mm), M_go_L16 F n l1 l2 M = some res → bz_J K 3 16 [(2, bz_i l2), (0, bz_rf E 81), (1, bz_i l1)] [] M := by
  intro n
  induction n with
  | zero => intro l2 M hf; cases hf
  | succ n ih =>
    intro l2 M hf
    rw [M_go_L16] at hf
    refine j_iload_n X dM_go_16 rfl 0 rfl ?_
    refine j_iload_n X dM_go_17 rfl 2 rfl ?_
    refine j_icmp_ge X (tgt := 51) rfl rfl dM_go_18 (by decide) hf (fun hf => ?_) (fun hf => ?_)
    · exact j_sub [1] rfl (kx _ hf)
    · refine j_aload_n X dM_go_21 rfl 1 rfl ?_
      refine j_geti X gf_M_216_81 dM_go_22 ?_
      refine j_sipush X dM_go_25 rfl ?_
      refine j_icmp_ge X (tgt := 51) rfl (w32_lit rfl) dM_go_28 (by decide) hf (fun hf => ?_) (fun hf => ?_)
      · exact j_sub [1] rfl (kx _ hf)
      · refine j_aload_n X dM_go_31 rfl 1 rfl ?_
        obtain ⟨m1, hz, hf⟩ := q_cl hf
        refine j_cv X (st := []) (cM_books E F hz) gyM_books gv_M_books_81 rfl (by decide) (by decide) wd_1610 rfl (Nat.le_of_ble_eq_true rfl) dM_go_32 ?_
        clear hz
        refine j_aload_n X dM_go_35 rfl 1 rfl ?_
        refine j_dup X dM_go_36 rfl ?_
        refine j_geti X gf_M_216_81 dM_go_37 ?_
        refine j_iconst X dM_go_40 ?_
        refine j_iadd X dM_go_41 ?_
        show bz_J _ _ 42 _ _ _
        refine j_puti X pf_M_216_81 dM_go_42 hf (fun m2 hf => ?_)
        refine j_iinc X (y := l2 + 1) (lv' := [(2, bz_i (l2 + 1)), (0, bz_rf E 81), (1, bz_i l1)]) dM_go_45 0 rfl rfl (by decide) rfl ?_
        refine j_goto X (tgt := 16) dM_go_48 (by decide) ?_
        exact ih _ _ hf
def fM_go (F : Nat) (M : bz_Mm) (a1 : Int) : Option (Int × bz_Mm) :=
  if w32 (fM_in (w32 a1) 0 40) = 0 then
  (some (((-1), M)))
  else
  (cl1_ (M_go_L16 F F a1 0 M) fun m3 =>
  some ((m3 81 0, m3)))
set_option maxHeartbeats 4000000 in
set_option maxRecDepth 20000 in
theorem cM_go (E : bz_E) (F : Nat)  {M : bz_Mm} {a1 : Int} {x0 : Int × bz_Mm} (hf : fM_go F M a1 = some x0) : bz_Ct E yM_go (.code yM_go prog_14_method_60_code 3 (some .int)) 7 177 [bz_rf E 81, bz_i a1] M (some (bz_i x0.1)) x0.2 := by
  refine bz_met (by decide +kernel) (Nat.le_of_ble_eq_true rfl) (fun K X => ?_)
  have X : bz_X K E prog_14_method_60_code 3 "UnitsWrongModel" (some .int) 7 177 _ _ := X
  unfold fM_go at hf
  show bz_J K 3 0 [(0, bz_rf E 81), (1, bz_i a1)] [] M
  refine j_iload_n X dM_go_0 rfl 1 rfl ?_
  refine j_i2l X rfl dM_go_1 ?_
  refine j_lconst X (v := 0) dM_go_2 rfl ?_
  refine j_ldc2 X (v := 40) wd_1609 dM_go_3 ?_
  refine j_cs X (st := []) (cM_in E) gyM_in wd_1409 rfl (by decide) (by decide) wd_1408 rfl (Nat.le_of_ble_eq_true rfl) dM_go_6 ?_
  refine j_if_ne X (tgt := 14) rfl dM_go_9 (by decide) hf (fun hf => ?_) (fun hf => ?_)
  · refine j_iconst X dM_go_14 ?_
    refine j_istore_n X (lv' := [(2, bz_i 0), (0, bz_rf E 81), (1, bz_i a1)]) dM_go_15 rfl (by decide) rfl ?_
    obtain ⟨res4, hz4, hk4⟩ := q_l1 hf
    clear hf
    refine lM_go_L16 E F X (fun m3 he => ?_) F 0 M hz4
    have hf := hk4 _ he
    refine j_aload_n X dM_go_51 rfl 0 rfl ?_
    refine j_geti X gf_M_216_81 dM_go_52 ?_
    cases hf
    exact j_iret X dM_go_55 rfl rfl
  · refine j_iconst X dM_go_12 ?_
    cases hf
    exact j_iret X dM_go_13 rfl rfl
def fM_isOver (F : Nat) (M : bz_Mm) (a1 : Int) (a2 : Int) : Option (Int) :=
  if w32 (fM_isFund M a1) = 0 then
  (some 0)
  else
  (cl_ (fM_isOpen F M a2) fun x1 =>
  if w32 x1 = 0 then
  (some 0)
  else
  (if w32 a2 < w32 (M 81 0) then
  (some 1)
  else
  (some 0)))
set_option maxHeartbeats 4000000 in
set_option maxRecDepth 20000 in
theorem cM_isOver (E : bz_E) (F : Nat)  {M : bz_Mm} {a1 : Int} {a2 : Int} {x0 : Int} (hf : fM_isOver F M a1 a2 = some x0) : bz_Ct E yM_isOver (.code yM_isOver prog_14_method_61_code 3 (some .boolean)) 2 46 [bz_rf E 81, bz_i a1, bz_i a2] M (some (bz_i x0)) M := by
  refine bz_met (by decide +kernel) (Nat.le_of_ble_eq_true rfl) (fun K X => ?_)
  have X : bz_X K E prog_14_method_61_code 3 "UnitsWrongModel" (some .boolean) 2 46 _ _ := X
  unfold fM_isOver at hf
  show bz_J K 3 0 [(0, bz_rf E 81), (1, bz_i a1), (2, bz_i a2)] [] M
  refine j_aload_n X dM_isOver_0 rfl 0 rfl ?_
  refine j_iload_n X dM_isOver_1 rfl 1 rfl ?_
  refine j_cv X (st := []) (cM_isFund E) gyM_isFund gv_M_isFund_81 rfl (by decide) (by decide) wd_1479 rfl (Nat.le_of_ble_eq_true rfl) dM_isOver_2 ?_
  refine j_if_eq X (tgt := 28) rfl dM_isOver_5 (by decide) hf (fun hf => ?_) (fun hf => ?_)
  · refine j_iconst X dM_isOver_28 ?_
    cases hf
    exact j_zret X (by decide +kernel) dM_isOver_29 rfl rfl
  · refine j_aload_n X dM_isOver_8 rfl 0 rfl ?_
    refine j_iload_n X dM_isOver_9 rfl 2 rfl ?_
    obtain ⟨x1, hzx1, hf⟩ := q_cl hf
    refine j_cv X (st := []) (cM_isOpen E F hzx1) gyM_isOpen gv_M_isOpen_81 rfl (by decide) (by decide) wd_1415 rfl (Nat.le_of_ble_eq_true rfl) dM_isOver_10 ?_
    refine j_if_eq X (tgt := 28) rfl dM_isOver_13 (by decide) hf (fun hf => ?_) (fun hf => ?_)
    · refine j_iconst X dM_isOver_28 ?_
      cases hf
      exact j_zret X (by decide +kernel) dM_isOver_29 rfl rfl
    · refine j_iload_n X dM_isOver_16 rfl 2 rfl ?_
      refine j_aload_n X dM_isOver_17 rfl 0 rfl ?_
      refine j_geti X gf_M_216_81 dM_isOver_18 ?_
      refine j_icmp_ge X (tgt := 28) rfl rfl dM_isOver_21 (by decide) hf (fun hf => ?_) (fun hf => ?_)
      · refine j_iconst X dM_isOver_28 ?_
        cases hf
        exact j_zret X (by decide +kernel) dM_isOver_29 rfl rfl
      · refine j_iconst X dM_isOver_24 ?_
        refine j_goto X (tgt := 29) dM_isOver_25 (by decide) ?_
        cases hf
        exact j_zret X (by decide +kernel) dM_isOver_29 rfl rfl
def gM_told (a0 : Int) : Option Int :=
  some (fM_near a0 ((-2000000000)) 2000000000)
def fM_told (a0 : Int) : Int :=
  (fM_near a0 ((-2000000000)) 2000000000)
theorem tM_told (a0 : Int) : gM_told a0 = some (fM_told a0) := by
  unfold gM_told fM_told
  (repeat' (first | rfl | split))
set_option maxHeartbeats 4000000 in
set_option maxRecDepth 20000 in
theorem cM_told (E : bz_E) {M : bz_Mm} {a0 : Int} : bz_Ct E yM_told (.code yM_told prog_14_method_4_code 2 (some .int)) 1 25 [bz_l a0] M (some (bz_i (fM_told a0))) M := by
  have hf := tM_told a0
  refine bz_met (by decide +kernel) (Nat.le_of_ble_eq_true rfl) (fun K X => ?_)
  have X : bz_X K E prog_14_method_4_code 2 "UnitsWrongModel" (some .int) 1 25 _ _ := X
  unfold gM_told at hf
  generalize fM_told a0 = rr at hf X
  show bz_J K 2 0 [(0, bz_l a0)] [] M
  refine j_lload_n X dM_told_0 rfl 0 rfl ?_
  refine j_ldc2 X (v := -2000000000) wd_1681 dM_told_1 ?_
  refine j_ldc2 X (v := 2000000000) wd_1552 dM_told_4 ?_
  refine j_cs X (st := []) (cM_near E) gyM_near wd_1554 rfl (by decide) (by decide) wd_1553 rfl (Nat.le_of_ble_eq_true rfl) dM_told_7 ?_
  refine j_l2i X dM_told_10 ?_
  cases hf
  exact j_iret X dM_told_11 rfl rfl
def fM_booked (F : Nat) (M : bz_Mm) (a1 : Int) (a2 : Int) : Option (Int) :=
  cl_ (fM_isOver F M a1 a2) fun x1 =>
  if w32 x1 = 0 then
  (some ((-1)))
  else
  (ra_ a1 4 fun i2 =>
  rd_ M (212 + i2) a2 260 fun x3 =>
  some (fM_told x3))
set_option maxHeartbeats 4000000 in
set_option maxRecDepth 20000 in
theorem cM_booked (E : bz_E) (F : Nat)  {M : bz_Mm} {a1 : Int} {a2 : Int} {x0 : Int} (hf : fM_booked F M a1 a2 = some x0) : bz_Ct E yM_booked (.code yM_booked prog_14_method_62_code 3 (some .int)) 3 68 [bz_rf E 81, bz_i a1, bz_i a2] M (some (bz_i x0)) M := by
  refine bz_met (by decide +kernel) (Nat.le_of_ble_eq_true rfl) (fun K X => ?_)
  have X : bz_X K E prog_14_method_62_code 3 "UnitsWrongModel" (some .int) 3 68 _ _ := X
  unfold fM_booked at hf
  show bz_J K 3 0 [(0, bz_rf E 81), (1, bz_i a1), (2, bz_i a2)] [] M
  refine j_aload_n X dM_booked_0 rfl 0 rfl ?_
  refine j_iload_n X dM_booked_1 rfl 1 rfl ?_
  refine j_iload_n X dM_booked_2 rfl 2 rfl ?_
  obtain ⟨x1, hzx1, hf⟩ := q_cl hf
  refine j_cv X (st := []) (cM_isOver E F hzx1) gyM_isOver gv_M_isOver_81 rfl (by decide) (by decide) wd_1674 rfl (Nat.le_of_ble_eq_true rfl) dM_booked_3 ?_
  refine j_if_eq X (tgt := 23) rfl dM_booked_6 (by decide) hf (fun hf => ?_) (fun hf => ?_)
  · refine j_iconst X dM_booked_23 ?_
    cases hf
    exact j_iret X dM_booked_24 rfl rfl
  · refine j_aload_n X dM_booked_9 rfl 0 rfl ?_
    refine j_geta X gf_M_160_81 dM_booked_10 ?_
    refine j_iload_n X dM_booked_13 rfl 1 rfl ?_
    refine j_aald X sh_211 (by decide) (by decide) dM_booked_14 hf (fun i2 hi2 hf => ?_)
    refine j_iload_n X dM_booked_15 rfl 2 rfl ?_
    refine j_lald X (sr_211 i2 hi2) dM_booked_16 hf (fun x3 hf => ?_)
    refine j_cs X (st := []) (cM_told E) gyM_told wd_1679 rfl (by decide) (by decide) wd_1678 rfl (Nat.le_of_ble_eq_true rfl) dM_booked_17 ?_
    show bz_J _ _ 20 _ _ _
    refine j_goto X (tgt := 24) dM_booked_20 (by decide) ?_
    cases hf
    exact j_iret X dM_booked_24 rfl rfl
def fM_right (F : Nat) (M : bz_Mm) (a1 : Int) (a2 : Int) (a3 : Int) : Option (Int × bz_Mm) :=
  cl_ (fM_isOver F M a1 a2) fun x1 =>
  if w32 x1 = 0 then
  (some (((-1), M)))
  else
  (if w32 (fM_in (w32 a3) (w32 a2) (w32 (fM_known0 M))) = 0 then
  (some (((-1), M)))
  else
  (cl_ (fM_through F M a2 a3 0) fun m2 =>
  ra_ a1 4 fun i3 =>
  rd_ m2 (196 + i3) a2 260 fun x4 =>
  some ((fM_told x4, m2))))
set_option maxHeartbeats 4000000 in
set_option maxRecDepth 20000 in
theorem cM_right (E : bz_E) (F : Nat)  {M : bz_Mm} {a1 : Int} {a2 : Int} {a3 : Int} {x0 : Int × bz_Mm} (hf : fM_right F M a1 a2 a3 = some x0) : bz_Ct E yM_right (.code yM_right prog_14_method_63_code 4 (some .int)) 6 156 [bz_rf E 81, bz_i a1, bz_i a2, bz_i a3] M (some (bz_i x0.1)) x0.2 := by
  refine bz_met (by decide +kernel) (Nat.le_of_ble_eq_true rfl) (fun K X => ?_)
  have X : bz_X K E prog_14_method_63_code 4 "UnitsWrongModel" (some .int) 6 156 _ _ := X
  unfold fM_right at hf
  show bz_J K 4 0 [(0, bz_rf E 81), (1, bz_i a1), (2, bz_i a2), (3, bz_i a3)] [] M
  refine j_aload_n X dM_right_0 rfl 0 rfl ?_
  refine j_iload_n X dM_right_1 rfl 1 rfl ?_
  refine j_iload_n X dM_right_2 rfl 2 rfl ?_
  obtain ⟨x1, hzx1, hf⟩ := q_cl hf
  refine j_cv X (st := []) (cM_isOver E F hzx1) gyM_isOver gv_M_isOver_81 rfl (by decide) (by decide) wd_1674 rfl (Nat.le_of_ble_eq_true rfl) dM_right_3 ?_
  refine j_if_eq X (tgt := 24) rfl dM_right_6 (by decide) hf (fun hf => ?_) (fun hf => ?_)
  · refine j_iconst X dM_right_24 ?_
    cases hf
    exact j_iret X dM_right_25 rfl rfl
  · refine j_iload_n X dM_right_9 rfl 3 rfl ?_
    refine j_i2l X rfl dM_right_10 ?_
    refine j_iload_n X dM_right_11 rfl 2 rfl ?_
    refine j_i2l X rfl dM_right_12 ?_
    refine j_aload_n X dM_right_13 rfl 0 rfl ?_
    refine j_cv X (st := [bz_l (w32 a2), bz_l (w32 a3)]) (cM_known0 E) gyM_known0 gv_M_known0_81 rfl (by decide) (by decide) wd_1440 rfl (Nat.le_of_ble_eq_true rfl) dM_right_14 ?_
    refine j_i2l X rfl dM_right_17 ?_
    show bz_J _ _ 18 _ _ _
    refine j_cs X (st := []) (cM_in E) gyM_in wd_1409 rfl (by decide) (by decide) wd_1408 rfl (Nat.le_of_ble_eq_true rfl) dM_right_18 ?_
    refine j_if_ne X (tgt := 26) rfl dM_right_21 (by decide) hf (fun hf => ?_) (fun hf => ?_)
    · refine j_aload_n X dM_right_26 rfl 0 rfl ?_
      refine j_iload_n X dM_right_27 rfl 2 rfl ?_
      refine j_iload_n X dM_right_28 rfl 3 rfl ?_
      refine j_iconst X dM_right_29 ?_
      obtain ⟨m2, hz, hf⟩ := q_cl hf
      refine j_cv X (st := []) (cM_through E F hz) gyM_through gv_M_through_81 rfl (by decide) (by decide) wd_1614 rfl (Nat.le_of_ble_eq_true rfl) dM_right_30 ?_
      clear hz
      refine j_aload_n X dM_right_33 rfl 0 rfl ?_
      refine j_geta X gf_M_148_81 dM_right_34 ?_
      show bz_J _ _ 37 _ _ _
      refine j_iload_n X dM_right_37 rfl 1 rfl ?_
      refine j_aald X sh_195 (by decide) (by decide) dM_right_38 hf (fun i3 hi3 hf => ?_)
      refine j_iload_n X dM_right_39 rfl 2 rfl ?_
      refine j_lald X (sr_195 i3 hi3) dM_right_40 hf (fun x4 hf => ?_)
      refine j_cs X (st := []) (cM_told E) gyM_told wd_1679 rfl (by decide) (by decide) wd_1678 rfl (Nat.le_of_ble_eq_true rfl) dM_right_41 ?_
      cases hf
      exact j_iret X dM_right_44 rfl rfl
    · refine j_iconst X dM_right_24 ?_
      cases hf
      exact j_iret X dM_right_25 rfl rfl
def fM_fee (F : Nat) (M : bz_Mm) (a1 : Int) (a2 : Int) (a3 : Int) : Option (Int × bz_Mm) :=
  cl_ (fM_isOver F M a1 a2) fun x1 =>
  if w32 x1 = 0 then
  (some (((-1), M)))
  else
  (if w32 (fM_in (w32 a3) 0 1) = 0 then
  (some (((-1), M)))
  else
  (if w32 a3 = 0 then
  (ra_ a1 4 fun i5 =>
  rd_ M (217 + i5) a2 260 fun x6 =>
  some ((fM_told x6, M)))
  else
  (cl_ (fM_through F M a2 (fM_known0 M) 0) fun m2 =>
  ra_ a1 4 fun i3 =>
  rd_ m2 (201 + i3) a2 260 fun x4 =>
  some ((fM_told x4, m2)))))
set_option maxHeartbeats 4000000 in
set_option maxRecDepth 20000 in
theorem cM_fee (E : bz_E) (F : Nat)  {M : bz_Mm} {a1 : Int} {a2 : Int} {a3 : Int} {x0 : Int × bz_Mm} (hf : fM_fee F M a1 a2 a3 = some x0) : bz_Ct E yM_fee (.code yM_fee prog_14_method_64_code 4 (some .int)) 6 156 [bz_rf E 81, bz_i a1, bz_i a2, bz_i a3] M (some (bz_i x0.1)) x0.2 := by
  refine bz_met (by decide +kernel) (Nat.le_of_ble_eq_true rfl) (fun K X => ?_)
  have X : bz_X K E prog_14_method_64_code 4 "UnitsWrongModel" (some .int) 6 156 _ _ := X
  unfold fM_fee at hf
  show bz_J K 4 0 [(0, bz_rf E 81), (1, bz_i a1), (2, bz_i a2), (3, bz_i a3)] [] M
  refine j_aload_n X dM_fee_0 rfl 0 rfl ?_
  refine j_iload_n X dM_fee_1 rfl 1 rfl ?_
  refine j_iload_n X dM_fee_2 rfl 2 rfl ?_
  obtain ⟨x1, hzx1, hf⟩ := q_cl hf
  refine j_cv X (st := []) (cM_isOver E F hzx1) gyM_isOver gv_M_isOver_81 rfl (by decide) (by decide) wd_1674 rfl (Nat.le_of_ble_eq_true rfl) dM_fee_3 ?_
  refine j_if_eq X (tgt := 19) rfl dM_fee_6 (by decide) hf (fun hf => ?_) (fun hf => ?_)
  · refine j_iconst X dM_fee_19 ?_
    cases hf
    exact j_iret X dM_fee_20 rfl rfl
  · refine j_iload_n X dM_fee_9 rfl 3 rfl ?_
    refine j_i2l X rfl dM_fee_10 ?_
    refine j_lconst X (v := 0) dM_fee_11 rfl ?_
    refine j_lconst X (v := 1) dM_fee_12 rfl ?_
    refine j_cs X (st := []) (cM_in E) gyM_in wd_1409 rfl (by decide) (by decide) wd_1408 rfl (Nat.le_of_ble_eq_true rfl) dM_fee_13 ?_
    refine j_if_ne X (tgt := 21) rfl dM_fee_16 (by decide) hf (fun hf => ?_) (fun hf => ?_)
    · refine j_iload_n X dM_fee_21 rfl 3 rfl ?_
      refine j_if_ne X (tgt := 37) rfl dM_fee_22 (by decide) hf (fun hf => ?_) (fun hf => ?_)
      · refine j_aload_n X dM_fee_37 rfl 0 rfl ?_
        refine j_iload_n X dM_fee_38 rfl 2 rfl ?_
        refine j_aload_n X dM_fee_39 rfl 0 rfl ?_
        refine j_cv X (st := [bz_i a2, bz_rf E 81]) (cM_known0 E) gyM_known0 gv_M_known0_81 rfl (by decide) (by decide) wd_1440 rfl (Nat.le_of_ble_eq_true rfl) dM_fee_40 ?_
        refine j_iconst X dM_fee_43 ?_
        obtain ⟨m2, hz, hf⟩ := q_cl hf
        refine j_cv X (st := []) (cM_through E F hz) gyM_through gv_M_through_81 rfl (by decide) (by decide) wd_1614 rfl (Nat.le_of_ble_eq_true rfl) dM_fee_44 ?_
        clear hz
        refine j_aload_n X dM_fee_47 rfl 0 rfl ?_
        show bz_J _ _ 48 _ _ _
        refine j_geta X gf_M_151_81 dM_fee_48 ?_
        refine j_iload_n X dM_fee_51 rfl 1 rfl ?_
        refine j_aald X sh_200 (by decide) (by decide) dM_fee_52 hf (fun i3 hi3 hf => ?_)
        refine j_iload_n X dM_fee_53 rfl 2 rfl ?_
        refine j_lald X (sr_200 i3 hi3) dM_fee_54 hf (fun x4 hf => ?_)
        refine j_cs X (st := []) (cM_told E) gyM_told wd_1679 rfl (by decide) (by decide) wd_1678 rfl (Nat.le_of_ble_eq_true rfl) dM_fee_55 ?_
        cases hf
        exact j_iret X dM_fee_58 rfl rfl
      · refine j_aload_n X dM_fee_25 rfl 0 rfl ?_
        refine j_geta X gf_M_163_81 dM_fee_26 ?_
        refine j_iload_n X dM_fee_29 rfl 1 rfl ?_
        refine j_aald X sh_216 (by decide) (by decide) dM_fee_30 hf (fun i5 hi5 hf => ?_)
        refine j_iload_n X dM_fee_31 rfl 2 rfl ?_
        refine j_lald X (sr_216 i5 hi5) dM_fee_32 hf (fun x6 hf => ?_)
        refine j_cs X (st := []) (cM_told E) gyM_told wd_1679 rfl (by decide) (by decide) wd_1678 rfl (Nat.le_of_ble_eq_true rfl) dM_fee_33 ?_
        show bz_J _ _ 36 _ _ _
        cases hf
        exact j_iret X dM_fee_36 rfl rfl
    · refine j_iconst X dM_fee_19 ?_
      cases hf
      exact j_iret X dM_fee_20 rfl rfl
def fM_error (F : Nat) (M : bz_Mm) (a1 : Int) (a2 : Int) (a3 : Int) : Option (Int × bz_Mm) :=
  cl_ (fM_isOver F M a1 a2) fun x1 =>
  if w32 x1 = 0 then
  (some (((-2147483648), M)))
  else
  (if w32 (fM_in (w32 a3) (w32 a2) (w32 (fM_known0 M))) = 0 then
  (some (((-2147483648), M)))
  else
  (cl_ (fM_through F M a2 a3 0) fun m2 =>
  ra_ a1 4 fun i3 =>
  rd_ m2 (212 + i3) a2 260 fun x4 =>
  ra_ a1 4 fun i5 =>
  rd_ m2 (196 + i5) a2 260 fun x6 =>
  some ((fM_told (x4 - x6), m2))))
set_option maxHeartbeats 4000000 in
set_option maxRecDepth 20000 in
theorem cM_error (E : bz_E) (F : Nat)  {M : bz_Mm} {a1 : Int} {a2 : Int} {a3 : Int} {x0 : Int × bz_Mm} (hf : fM_error F M a1 a2 a3 = some x0) : bz_Ct E yM_error (.code yM_error prog_14_method_65_code 4 (some .int)) 6 156 [bz_rf E 81, bz_i a1, bz_i a2, bz_i a3] M (some (bz_i x0.1)) x0.2 := by
  refine bz_met (by decide +kernel) (Nat.le_of_ble_eq_true rfl) (fun K X => ?_)
  have X : bz_X K E prog_14_method_65_code 4 "UnitsWrongModel" (some .int) 6 156 _ _ := X
  unfold fM_error at hf
  show bz_J K 4 0 [(0, bz_rf E 81), (1, bz_i a1), (2, bz_i a2), (3, bz_i a3)] [] M
  refine j_aload_n X dM_error_0 rfl 0 rfl ?_
  refine j_iload_n X dM_error_1 rfl 1 rfl ?_
  refine j_iload_n X dM_error_2 rfl 2 rfl ?_
  obtain ⟨x1, hzx1, hf⟩ := q_cl hf
  refine j_cv X (st := []) (cM_isOver E F hzx1) gyM_isOver gv_M_isOver_81 rfl (by decide) (by decide) wd_1674 rfl (Nat.le_of_ble_eq_true rfl) dM_error_3 ?_
  refine j_if_eq X (tgt := 24) rfl dM_error_6 (by decide) hf (fun hf => ?_) (fun hf => ?_)
  · refine j_ldcw X (v := -2147483648) wd_1448 dM_error_24 ?_
    cases hf
    exact j_iret X dM_error_27 rfl rfl
  · refine j_iload_n X dM_error_9 rfl 3 rfl ?_
    refine j_i2l X rfl dM_error_10 ?_
    refine j_iload_n X dM_error_11 rfl 2 rfl ?_
    refine j_i2l X rfl dM_error_12 ?_
    refine j_aload_n X dM_error_13 rfl 0 rfl ?_
    refine j_cv X (st := [bz_l (w32 a2), bz_l (w32 a3)]) (cM_known0 E) gyM_known0 gv_M_known0_81 rfl (by decide) (by decide) wd_1440 rfl (Nat.le_of_ble_eq_true rfl) dM_error_14 ?_
    refine j_i2l X rfl dM_error_17 ?_
    show bz_J _ _ 18 _ _ _
    refine j_cs X (st := []) (cM_in E) gyM_in wd_1409 rfl (by decide) (by decide) wd_1408 rfl (Nat.le_of_ble_eq_true rfl) dM_error_18 ?_
    refine j_if_ne X (tgt := 28) rfl dM_error_21 (by decide) hf (fun hf => ?_) (fun hf => ?_)
    · refine j_aload_n X dM_error_28 rfl 0 rfl ?_
      refine j_iload_n X dM_error_29 rfl 2 rfl ?_
      refine j_iload_n X dM_error_30 rfl 3 rfl ?_
      refine j_iconst X dM_error_31 ?_
      obtain ⟨m2, hz, hf⟩ := q_cl hf
      refine j_cv X (st := []) (cM_through E F hz) gyM_through gv_M_through_81 rfl (by decide) (by decide) wd_1614 rfl (Nat.le_of_ble_eq_true rfl) dM_error_32 ?_
      clear hz
      refine j_aload_n X dM_error_35 rfl 0 rfl ?_
      refine j_geta X gf_M_160_81 dM_error_36 ?_
      show bz_J _ _ 39 _ _ _
      refine j_iload_n X dM_error_39 rfl 1 rfl ?_
      refine j_aald X sh_211 (by decide) (by decide) dM_error_40 hf (fun i3 hi3 hf => ?_)
      refine j_iload_n X dM_error_41 rfl 2 rfl ?_
      refine j_lald X (sr_211 i3 hi3) dM_error_42 hf (fun x4 hf => ?_)
      refine j_aload_n X dM_error_43 rfl 0 rfl ?_
      refine j_geta X gf_M_148_81 dM_error_44 ?_
      refine j_iload_n X dM_error_47 rfl 1 rfl ?_
      refine j_aald X sh_195 (by decide) (by decide) dM_error_48 hf (fun i5 hi5 hf => ?_)
      show bz_J _ _ 49 _ _ _
      refine j_iload_n X dM_error_49 rfl 2 rfl ?_
      refine j_lald X (sr_195 i5 hi5) dM_error_50 hf (fun x6 hf => ?_)
      refine j_lsub X dM_error_51 ?_
      refine j_cs X (st := []) (cM_told E) gyM_told wd_1679 rfl (by decide) (by decide) wd_1678 rfl (Nat.le_of_ble_eq_true rfl) dM_error_52 ?_
      cases hf
      exact j_iret X dM_error_55 rfl rfl
    · refine j_ldcw X (v := -2147483648) wd_1448 dM_error_24 ?_
      cases hf
      exact j_iret X dM_error_27 rfl rfl
def gM_lastOver (M : bz_Mm) (a1 : Int) : Option Int :=
  if w32 ((M 81 0) - 1) < w32 a1 then
  (some ((M 81 0) - 1))
  else
  (some a1)
def fM_lastOver (M : bz_Mm) (a1 : Int) : Int :=
  if w32 ((M 81 0) - 1) < w32 a1 then
  (((M 81 0) - 1))
  else
  (a1)
theorem tM_lastOver (M : bz_Mm) (a1 : Int) : gM_lastOver M a1 = some (fM_lastOver M a1) := by
  unfold gM_lastOver fM_lastOver
  (repeat' (first | rfl | split))
set_option maxHeartbeats 4000000 in
set_option maxRecDepth 20000 in
theorem cM_lastOver (E : bz_E) {M : bz_Mm} {a1 : Int} : bz_Ct E yM_lastOver (.code yM_lastOver prog_14_method_67_code 2 (some .int)) 0 0 [bz_rf E 81, bz_i a1] M (some (bz_i (fM_lastOver M a1))) M := by
  have hf := tM_lastOver M a1
  refine bz_met (by decide +kernel) (Nat.le_of_ble_eq_true rfl) (fun K X => ?_)
  have X : bz_X K E prog_14_method_67_code 2 "UnitsWrongModel" (some .int) 0 0 _ _ := X
  unfold gM_lastOver at hf
  generalize fM_lastOver M a1 = rr at hf X
  show bz_J K 2 0 [(0, bz_rf E 81), (1, bz_i a1)] [] M
  refine j_aload_n X dM_lastOver_0 rfl 0 rfl ?_
  refine j_geti X gf_M_216_81 dM_lastOver_1 ?_
  refine j_iconst X dM_lastOver_4 ?_
  refine j_isub X dM_lastOver_5 ?_
  refine j_iload_n X dM_lastOver_6 rfl 1 rfl ?_
  refine j_icmp_ge X (tgt := 19) rfl rfl dM_lastOver_7 (by decide) hf (fun hf => ?_) (fun hf => ?_)
  · refine j_iload_n X dM_lastOver_19 rfl 1 rfl ?_
    cases hf
    exact j_iret X dM_lastOver_20 rfl rfl
  · refine j_aload_n X dM_lastOver_10 rfl 0 rfl ?_
    refine j_geti X gf_M_216_81 dM_lastOver_11 ?_
    refine j_iconst X dM_lastOver_14 ?_
    refine j_isub X dM_lastOver_15 ?_
    refine j_goto X (tgt := 20) dM_lastOver_16 (by decide) ?_
    cases hf
    exact j_iret X dM_lastOver_20 rfl rfl
def fM_counts (F : Nat) (M : bz_Mm) (a1 : Int) (a2 : Int) (a3 : Int) : Option (Int) :=
  ra_ a1 4 fun i1 =>
  rd_ M (212 + i1) a2 260 fun x2 =>
  ra_ a1 4 fun i3 =>
  rd_ M (196 + i3) a2 260 fun x4 =>
  lt_ (x2 - x4) fun l4 =>
  cl1_ (if w64 l4 < 0 then
  (some (-l4))
  else
  (some (l4))) fun v6 =>
  ra_ a1 4 fun i7 =>
  rd_ M (196 + i7) a2 260 fun x8 =>
  if w64 ((w32 a3) * x8) < w64 (10000 * v6) then
  (some 1)
  else
  (some 0)
set_option maxHeartbeats 4000000 in
set_option maxRecDepth 20000 in
theorem cM_counts (E : bz_E) (F : Nat)  {M : bz_Mm} {a1 : Int} {a2 : Int} {a3 : Int} {x0 : Int} (hf : fM_counts F M a1 a2 a3 = some x0) : bz_Ct E yM_counts (.code yM_counts prog_14_method_66_code 6 (some .boolean)) 0 0 [bz_rf E 81, bz_i a1, bz_i a2, bz_i a3] M (some (bz_i x0)) M := by
  refine bz_met (by decide +kernel) (Nat.le_of_ble_eq_true rfl) (fun K X => ?_)
  have X : bz_X K E prog_14_method_66_code 6 "UnitsWrongModel" (some .boolean) 0 0 _ _ := X
  unfold fM_counts at hf
  show bz_J K 6 0 [(0, bz_rf E 81), (1, bz_i a1), (2, bz_i a2), (3, bz_i a3)] [] M
  refine j_aload_n X dM_counts_0 rfl 0 rfl ?_
  refine j_geta X gf_M_160_81 dM_counts_1 ?_
  refine j_iload_n X dM_counts_4 rfl 1 rfl ?_
  refine j_aald X sh_211 (by decide) (by decide) dM_counts_5 hf (fun i1 hi1 hf => ?_)
  refine j_iload_n X dM_counts_6 rfl 2 rfl ?_
  refine j_lald X (sr_211 i1 hi1) dM_counts_7 hf (fun x2 hf => ?_)
  refine j_aload_n X dM_counts_8 rfl 0 rfl ?_
  show bz_J _ _ 9 _ _ _
  refine j_geta X gf_M_148_81 dM_counts_9 ?_
  refine j_iload_n X dM_counts_12 rfl 1 rfl ?_
  refine j_aald X sh_195 (by decide) (by decide) dM_counts_13 hf (fun i3 hi3 hf => ?_)
  refine j_iload_n X dM_counts_14 rfl 2 rfl ?_
  refine j_lald X (sr_195 i3 hi3) dM_counts_15 hf (fun x4 hf => ?_)
  refine j_lsub X dM_counts_16 ?_
  refine j_lt (g := bz_l) hf (fun l4 hf => ?_)
  refine j_lstore X (lv' := [(4, bz_l l4), (0, bz_rf E 81), (1, bz_i a1), (2, bz_i a2), (3, bz_i a3)]) dM_counts_17 (by decide) rfl ?_
  refine j_ldc2 X (v := 10000) wd_1432 dM_counts_19 ?_
  show bz_J _ _ 22 _ _ _
  refine j_lload X dM_counts_22 0 rfl ?_
  refine j_lconst X (v := 0) dM_counts_24 rfl ?_
  obtain ⟨resJ5, hf0, hkJ5⟩ := q_l1 hf
  have J5 : ∀ (v6 : Int), some v6 = some resJ5 → bz_J K 6 37 [(0, bz_rf E 81), (1, bz_i a1), (2, bz_i a2), (3, bz_i a3)] [bz_l v6, bz_l 10000] M := by
    intro v6 he
    have hf := hkJ5 _ he
    refine j_lmul X dM_counts_37 ?_
    refine j_iload_n X dM_counts_38 rfl 3 rfl ?_
    refine j_i2l X rfl dM_counts_39 ?_
    refine j_aload_n X dM_counts_40 rfl 0 rfl ?_
    refine j_geta X gf_M_148_81 dM_counts_41 ?_
    refine j_iload_n X dM_counts_44 rfl 1 rfl ?_
    refine j_aald X sh_195 (by decide) (by decide) dM_counts_45 hf (fun i7 hi7 hf => ?_)
    show bz_J _ _ 46 _ _ _
    refine j_iload_n X dM_counts_46 rfl 2 rfl ?_
    refine j_lald X (sr_195 i7 hi7) dM_counts_47 hf (fun x8 hf => ?_)
    refine j_lmul X dM_counts_48 ?_
    refine j_lcmp_le X (tgt := 57) rfl rfl dM_counts_49 dM_counts_50 (by decide) hf (fun hf => ?_) (fun hf => ?_)
    · refine j_iconst X dM_counts_57 ?_
      cases hf
      exact j_zret X (by decide +kernel) dM_counts_58 rfl rfl
    · refine j_iconst X dM_counts_53 ?_
      refine j_goto X (tgt := 58) dM_counts_54 (by decide) ?_
      cases hf
      exact j_zret X (by decide +kernel) dM_counts_58 rfl rfl
  clear hf
  have hf := hf0
  clear hf0
  refine j_lcmp_ge X (tgt := 35) rfl (w64_lit rfl) dM_counts_25 dM_counts_26 (by decide) hf (fun hf => ?_) (fun hf => ?_)
  · refine j_lload X dM_counts_35 0 rfl ?_
    exact j_sub [1, 2, 3, 4] rfl (J5 _ hf)
  · refine j_lload X dM_counts_29 0 rfl ?_
    refine j_lneg X dM_counts_31 ?_
    refine j_goto X (tgt := 37) dM_counts_32 (by decide) ?_
    exact j_sub [1, 2, 3, 4] rfl (J5 _ hf)
def M_errors_L31 (F : Nat) : Nat → bz_Mm → Int → Int → Int → Option (Int)
  | 0, _, _, _, _ => none
  | n + 1, M, l1, l3, l2 =>
    if w32 (fM_lastOver M (fM_known0 M)) < w32 l3 then
    (some l2)
    else
    (cl_ (fM_isOpen F M l3) fun x2 =>
    if w32 x2 = 0 then
    (lt_ (l2 + 0) fun l2 =>
    M_errors_L31 F n M l1 (l3 + 1) l2)
    else
    (cl_ (fM_ruleOf F M l1 (fM_known0 M) 4) fun x3 =>
    cl_ (fM_counts F M l1 l3 x3) fun x4 =>
    if w32 x4 = 0 then
    (lt_ (l2 + 0) fun l2 =>
    M_errors_L31 F n M l1 (l3 + 1) l2)
    else
    (lt_ (l2 + 1) fun l2 =>
    M_errors_L31 F n M l1 (l3 + 1) l2)))
theorem lM_errors_L31 (E : bz_E) (F : Nat) {K : bz_K} {rv : Option Value} {M1 : bz_Mm} (X : bz_X K E prog_14_method_68_code 4 "UnitsWrongModel" (some .int) 6 156 rv M1) {M : bz_Mm} {l1 : Int} {res : (Int)}
    (kx : ∀ (l2 : Int), some l2 = some res → bz_J K 4 84 [(2, bz_i l2)] [] M) :
    ∀ (n : Nat) (l3 : Int) (l2 : Int), M_errors_L31 F n M l1 l3 l2 = some res → bz_J K 4 31 [(3, bz_i l3), (2, bz_i l2), (0, bz_rf E 81), (1, bz_i l1)] [] M := by
  intro n
  induction n with
  | zero => intro l3 l2 hf; cases hf
  | succ n ih =>
    intro l3 l2 hf
    rw [M_errors_L31] at hf
    refine j_iload_n X dM_errors_31 rfl 0 rfl ?_
    refine j_aload_n X dM_errors_32 rfl 2 rfl ?_
    refine j_aload_n X dM_errors_33 rfl 2 rfl ?_
    refine j_cv X (st := [bz_rf E 81, bz_i l3]) (cM_known0 E) gyM_known0 gv_M_known0_81 rfl (by decide) (by decide) wd_1440 rfl (Nat.le_of_ble_eq_true rfl) dM_errors_34 ?_
    refine j_cv X (st := [bz_i l3]) (cM_lastOver E) gyM_lastOver gv_M_lastOver_81 rfl (by decide) (by decide) wd_1698 rfl (Nat.le_of_ble_eq_true rfl) dM_errors_37 ?_
    refine j_icmp_gt X (tgt := 84) rfl rfl dM_errors_40 (by decide) hf (fun hf => ?_) (fun hf => ?_)
    · exact j_sub [1] rfl (kx _ hf)
    · refine j_iload_n X dM_errors_43 rfl 1 rfl ?_
      refine j_aload_n X dM_errors_44 rfl 2 rfl ?_
      refine j_iload_n X dM_errors_45 rfl 0 rfl ?_
      obtain ⟨x2, hzx2, hf⟩ := q_cl hf
      refine j_cv X (st := [bz_i l2]) (cM_isOpen E F hzx2) gyM_isOpen gv_M_isOpen_81 rfl (by decide) (by decide) wd_1415 rfl (Nat.le_of_ble_eq_true rfl) dM_errors_46 ?_
      refine j_if_eq X (tgt := 75) rfl dM_errors_49 (by decide) hf (fun hf => ?_) (fun hf => ?_)
      · refine j_iconst X dM_errors_75 ?_
        refine j_iadd X dM_errors_76 ?_
        refine j_lt (g := bz_i) hf (fun l2 hf => ?_)
        refine j_istore_n X (lv' := [(2, bz_i l2), (3, bz_i l3), (0, bz_rf E 81), (1, bz_i l1)]) dM_errors_77 rfl (by decide) rfl ?_
        refine j_iinc X (y := l3 + 1) (lv' := [(3, bz_i (l3 + 1)), (2, bz_i l2), (0, bz_rf E 81), (1, bz_i l1)]) dM_errors_78 1 rfl rfl (by decide) rfl ?_
        refine j_goto X (tgt := 31) dM_errors_81 (by decide) ?_
        exact ih _ _ hf
      · refine j_aload_n X dM_errors_52 rfl 2 rfl ?_
        refine j_iload_n X dM_errors_53 rfl 3 rfl ?_
        refine j_iload_n X dM_errors_54 rfl 0 rfl ?_
        refine j_aload_n X dM_errors_55 rfl 2 rfl ?_
        refine j_iload_n X dM_errors_56 rfl 3 rfl ?_
        refine j_aload_n X dM_errors_57 rfl 2 rfl ?_
        refine j_cv X (st := [bz_i l1, bz_rf E 81, bz_i l3, bz_i l1, bz_rf E 81, bz_i l2]) (cM_known0 E) gyM_known0 gv_M_known0_81 rfl (by decide) (by decide) wd_1440 rfl (Nat.le_of_ble_eq_true rfl) dM_errors_58 ?_
        show bz_J _ _ 61 _ _ _
        refine j_iconst X dM_errors_61 ?_
        obtain ⟨x3, hzx3, hf⟩ := q_cl hf
        refine j_cv X (st := [bz_i l3, bz_i l1, bz_rf E 81, bz_i l2]) (cM_ruleOf E F hzx3) gyM_ruleOf gv_M_ruleOf_81 rfl (by decide) (by decide) wd_1494 rfl (Nat.le_of_ble_eq_true rfl) dM_errors_62 ?_
        obtain ⟨x4, hzx4, hf⟩ := q_cl hf
        refine j_cv X (st := [bz_i l2]) (cM_counts E F hzx4) gyM_counts gv_M_counts_81 rfl (by decide) (by decide) wd_1702 rfl (Nat.le_of_ble_eq_true rfl) dM_errors_65 ?_
        refine j_if_eq X (tgt := 75) rfl dM_errors_68 (by decide) hf (fun hf => ?_) (fun hf => ?_)
        · refine j_iconst X dM_errors_75 ?_
          refine j_iadd X dM_errors_76 ?_
          refine j_lt (g := bz_i) hf (fun l2 hf => ?_)
          refine j_istore_n X (lv' := [(2, bz_i l2), (3, bz_i l3), (0, bz_rf E 81), (1, bz_i l1)]) dM_errors_77 rfl (by decide) rfl ?_
          refine j_iinc X (y := l3 + 1) (lv' := [(3, bz_i (l3 + 1)), (2, bz_i l2), (0, bz_rf E 81), (1, bz_i l1)]) dM_errors_78 1 rfl rfl (by decide) rfl ?_
          refine j_goto X (tgt := 31) dM_errors_81 (by decide) ?_
          exact ih _ _ hf
        · refine j_iconst X dM_errors_71 ?_
          refine j_goto X (tgt := 76) dM_errors_72 (by decide) ?_
          refine j_iadd X dM_errors_76 ?_
          refine j_lt (g := bz_i) hf (fun l2 hf => ?_)
          refine j_istore_n X (lv' := [(2, bz_i l2), (3, bz_i l3), (0, bz_rf E 81), (1, bz_i l1)]) dM_errors_77 rfl (by decide) rfl ?_
          refine j_iinc X (y := l3 + 1) (lv' := [(3, bz_i (l3 + 1)), (2, bz_i l2), (0, bz_rf E 81), (1, bz_i l1)]) dM_errors_78 1 rfl rfl (by decide) rfl ?_
          refine j_goto X (tgt := 31) dM_errors_81 (by decide) ?_
          exact ih _ _ hf
def fM_errors (F : Nat) (M : bz_Mm) (a1 : Int) : Option (Int × bz_Mm) :=
  if w32 (fM_isFund M a1) = 0 then
  (some (((-1), M)))
  else
  (cl_ (fM_through F M (fM_lastOver M (fM_known0 M)) (fM_known0 M) 0) fun m1 =>
  cl1_ (M_errors_L31 F F m1 a1 0 0) fun l2 =>
  some ((l2, m1)))
set_option maxHeartbeats 4000000 in
set_option maxRecDepth 20000 in
theorem cM_errors (E : bz_E) (F : Nat)  {M : bz_Mm} {a1 : Int} {x0 : Int × bz_Mm} (hf : fM_errors F M a1 = some x0) : bz_Ct E yM_errors (.code yM_errors prog_14_method_68_code 4 (some .int)) 6 156 [bz_rf E 81, bz_i a1] M (some (bz_i x0.1)) x0.2 := by
  refine bz_met (by decide +kernel) (Nat.le_of_ble_eq_true rfl) (fun K X => ?_)
  have X : bz_X K E prog_14_method_68_code 4 "UnitsWrongModel" (some .int) 6 156 _ _ := X
  unfold fM_errors at hf
  show bz_J K 4 0 [(0, bz_rf E 81), (1, bz_i a1)] [] M
  refine j_aload_n X dM_errors_0 rfl 0 rfl ?_
  refine j_iload_n X dM_errors_1 rfl 1 rfl ?_
  refine j_cv X (st := []) (cM_isFund E) gyM_isFund gv_M_isFund_81 rfl (by decide) (by decide) wd_1479 rfl (Nat.le_of_ble_eq_true rfl) dM_errors_2 ?_
  refine j_if_ne X (tgt := 10) rfl dM_errors_5 (by decide) hf (fun hf => ?_) (fun hf => ?_)
  · refine j_iconst X dM_errors_10 ?_
    refine j_istore_n X (lv' := [(2, bz_i 0), (0, bz_rf E 81), (1, bz_i a1)]) dM_errors_11 rfl (by decide) rfl ?_
    refine j_aload_n X dM_errors_12 rfl 1 rfl ?_
    refine j_aload_n X dM_errors_13 rfl 1 rfl ?_
    refine j_aload_n X dM_errors_14 rfl 1 rfl ?_
    refine j_cv X (st := [bz_rf E 81, bz_rf E 81]) (cM_known0 E) gyM_known0 gv_M_known0_81 rfl (by decide) (by decide) wd_1440 rfl (Nat.le_of_ble_eq_true rfl) dM_errors_15 ?_
    refine j_cv X (st := [bz_rf E 81]) (cM_lastOver E) gyM_lastOver gv_M_lastOver_81 rfl (by decide) (by decide) wd_1698 rfl (Nat.le_of_ble_eq_true rfl) dM_errors_18 ?_
    show bz_J _ _ 21 _ _ _
    refine j_aload_n X dM_errors_21 rfl 1 rfl ?_
    refine j_cv X (st := [bz_i (fM_lastOver M (fM_known0 M)), bz_rf E 81]) (cM_known0 E) gyM_known0 gv_M_known0_81 rfl (by decide) (by decide) wd_1440 rfl (Nat.le_of_ble_eq_true rfl) dM_errors_22 ?_
    refine j_iconst X dM_errors_25 ?_
    obtain ⟨m1, hz, hf⟩ := q_cl hf
    refine j_cv X (st := []) (cM_through E F hz) gyM_through gv_M_through_81 rfl (by decide) (by decide) wd_1614 rfl (Nat.le_of_ble_eq_true rfl) dM_errors_26 ?_
    clear hz
    refine j_iconst X dM_errors_29 ?_
    refine j_istore_n X (lv' := [(3, bz_i 0), (2, bz_i 0), (0, bz_rf E 81), (1, bz_i a1)]) dM_errors_30 rfl (by decide) rfl ?_
    obtain ⟨res5, hz5, hk5⟩ := q_l1 hf
    clear hf
    refine lM_errors_L31 E F X (fun l2 he => ?_) F 0 0 hz5
    have hf := hk5 _ he
    refine j_iload_n X dM_errors_84 rfl 0 rfl ?_
    cases hf
    exact j_iret X dM_errors_85 rfl rfl
  · refine j_iconst X dM_errors_8 ?_
    cases hf
    exact j_iret X dM_errors_9 rfl rfl
def gM_canHold (M : bz_Mm) (a1 : Int) (a2 : Int) : Option Int :=
  if w32 (fM_isFund M a2) = 0 then
  (some 0)
  else
  (if w32 a1 < 16 then
  (some 1)
  else
  (if w32 a2 < w32 (a1 - 16) then
  (some 1)
  else
  (some 0)))
def fM_canHold (M : bz_Mm) (a1 : Int) (a2 : Int) : Int :=
  if w32 (fM_isFund M a2) = 0 then
  (0)
  else
  (if w32 a1 < 16 then
  (1)
  else
  (if w32 a2 < w32 (a1 - 16) then
  (1)
  else
  (0)))
theorem tM_canHold (M : bz_Mm) (a1 : Int) (a2 : Int) : gM_canHold M a1 a2 = some (fM_canHold M a1 a2) := by
  unfold gM_canHold fM_canHold
  (repeat' (first | rfl | split))
theorem zM_canHold {M : bz_Mm} {a1 : Int} {a2 : Int} : fM_canHold M a1 a2 = 0 ∨ fM_canHold M a1 a2 = 1 := by
  unfold fM_canHold
  (repeat' (first | exact Or.inl rfl | exact Or.inr rfl | exact zM_isFund | split))
set_option maxHeartbeats 4000000 in
set_option maxRecDepth 20000 in
theorem cM_canHold (E : bz_E) {M : bz_Mm} {a1 : Int} {a2 : Int} : bz_Ct E yM_canHold (.code yM_canHold prog_14_method_69_code 3 (some .boolean)) 2 46 [bz_rf E 81, bz_i a1, bz_i a2] M (some (bz_i (fM_canHold M a1 a2))) M := by
  have hf := tM_canHold M a1 a2
  refine bz_met (by decide +kernel) (Nat.le_of_ble_eq_true rfl) (fun K X => ?_)
  have X : bz_X K E prog_14_method_69_code 3 "UnitsWrongModel" (some .boolean) 2 46 _ _ := X
  unfold gM_canHold at hf
  generalize fM_canHold M a1 a2 = rr at hf X
  show bz_J K 3 0 [(0, bz_rf E 81), (1, bz_i a1), (2, bz_i a2)] [] M
  refine j_aload_n X dM_canHold_0 rfl 0 rfl ?_
  refine j_iload_n X dM_canHold_1 rfl 2 rfl ?_
  refine j_cv X (st := []) (cM_isFund E) gyM_isFund gv_M_isFund_81 rfl (by decide) (by decide) wd_1479 rfl (Nat.le_of_ble_eq_true rfl) dM_canHold_2 ?_
  refine j_if_eq X (tgt := 26) rfl dM_canHold_5 (by decide) hf (fun hf => ?_) (fun hf => ?_)
  · refine j_iconst X dM_canHold_26 ?_
    cases hf
    exact j_zret X (by decide +kernel) dM_canHold_27 rfl rfl
  · refine j_iload_n X dM_canHold_8 rfl 1 rfl ?_
    refine j_bipush X dM_canHold_9 rfl ?_
    refine j_icmp_lt X (tgt := 22) rfl (w32_lit rfl) dM_canHold_11 (by decide) hf (fun hf => ?_) (fun hf => ?_)
    · refine j_iconst X dM_canHold_22 ?_
      refine j_goto X (tgt := 27) dM_canHold_23 (by decide) ?_
      cases hf
      exact j_zret X (by decide +kernel) dM_canHold_27 rfl rfl
    · refine j_iload_n X dM_canHold_14 rfl 2 rfl ?_
      refine j_iload_n X dM_canHold_15 rfl 1 rfl ?_
      refine j_bipush X dM_canHold_16 rfl ?_
      refine j_isub X dM_canHold_18 ?_
      refine j_icmp_ge X (tgt := 26) rfl rfl dM_canHold_19 (by decide) hf (fun hf => ?_) (fun hf => ?_)
      · refine j_iconst X dM_canHold_26 ?_
        cases hf
        exact j_zret X (by decide +kernel) dM_canHold_27 rfl rfl
      · refine j_iconst X dM_canHold_22 ?_
        refine j_goto X (tgt := 27) dM_canHold_23 (by decide) ?_
        cases hf
        exact j_zret X (by decide +kernel) dM_canHold_27 rfl rfl
def M_units_L28 (F : Nat) : Nat → bz_Mm → Int → Int → Int → Int → Option (Int)
  | 0, _, _, _, _, _ => none
  | n + 1, M, l3, l2, l5, l4 =>
    if w32 l5 < w32 (M 81 35) then
    (rd_ M 108 l5 200 fun x1 =>
    if w32 x1 = 0 then
    (lt_ (l4 + 0) fun l4 =>
    M_units_L28 F n M l3 l2 (l5 + 1) l4)
    else
    (rd_ M 103 l5 200 fun x2 =>
    if w32 x2 = w32 l3 then
    (rd_ M 104 l5 200 fun x3 =>
    if w32 x3 = w32 l2 then
    (rd_ M 107 l5 200 fun x4 =>
    lt_ (l4 + x4) fun l4 =>
    M_units_L28 F n M l3 l2 (l5 + 1) l4)
    else
    (lt_ (l4 + 0) fun l4 =>
    M_units_L28 F n M l3 l2 (l5 + 1) l4))
    else
    (lt_ (l4 + 0) fun l4 =>
    M_units_L28 F n M l3 l2 (l5 + 1) l4)))
    else
    (some l4)
theorem lM_units_L28 (E : bz_E) (F : Nat) {K : bz_K} {rv : Option Value} {M1 : bz_Mm} (X : bz_X K E prog_14_method_70_code 6 "UnitsWrongModel" (some .int) 3 68 rv M1) {M : bz_Mm} {l3 : Int} {l2 : Int} {res : (Int)}
    (kx : ∀ (l4 : Int), some l4 = some res → bz_J K 6 91 [(4, bz_i l4)] [] M) :
    ∀ (n : Nat) (l5 : Int) (l4 : Int), M_units_L28 F n M l3 l2 l5 l4 = some res → bz_J K 6 28 [(5, bz_i l5), (4, bz_i l4), (3, bz_i l3), (0, bz_rf E 81), (2, bz_i l2)] [] M := by
  intro n
  induction n with
  | zero => intro l5 l4 hf; cases hf
  | succ n ih =>
    intro l5 l4 hf
    rw [M_units_L28] at hf
    refine j_iload X dM_units_28 0 rfl ?_
    refine j_aload_n X dM_units_30 rfl 3 rfl ?_
    refine j_geti X gf_M_302_81 dM_units_31 ?_
    refine j_icmp_ge X (tgt := 91) rfl rfl dM_units_34 (by decide) hf (fun hf => ?_) (fun hf => ?_)
    · exact j_sub [1] rfl (kx _ hf)
    · refine j_iload X dM_units_37 1 rfl ?_
      refine j_aload_n X dM_units_39 rfl 3 rfl ?_
      refine j_geta X gf_M_89_81 dM_units_40 ?_
      refine j_iload X dM_units_43 0 rfl ?_
      refine j_zald X sh_108 dM_units_45 hf (fun x1 hf => ?_)
      refine j_if_eq X (tgt := 81) rfl dM_units_46 (by decide) hf (fun hf => ?_) (fun hf => ?_)
      · refine j_iconst X dM_units_81 ?_
        refine j_iadd X dM_units_82 ?_
        refine j_lt (g := bz_i) hf (fun l4 hf => ?_)
        refine j_istore X (lv' := [(4, bz_i l4), (5, bz_i l5), (3, bz_i l3), (0, bz_rf E 81), (2, bz_i l2)]) dM_units_83 (by decide) rfl ?_
        refine j_iinc X (y := l5 + 1) (lv' := [(5, bz_i (l5 + 1)), (4, bz_i l4), (3, bz_i l3), (0, bz_rf E 81), (2, bz_i l2)]) dM_units_85 1 rfl rfl (by decide) rfl ?_
        refine j_goto X (tgt := 28) dM_units_88 (by decide) ?_
        exact ih _ _ hf
      · refine j_aload_n X dM_units_49 rfl 3 rfl ?_
        refine j_geta X gf_M_74_81 dM_units_50 ?_
        refine j_iload X dM_units_53 0 rfl ?_
        refine j_iald X sh_103 dM_units_55 hf (fun x2 hf => ?_)
        refine j_iload_n X dM_units_56 rfl 2 rfl ?_
        refine j_icmp_ne X (tgt := 81) rfl rfl dM_units_57 (by decide) hf (fun hf => ?_) (fun hf => ?_)
        · refine j_iconst X dM_units_81 ?_
          refine j_iadd X dM_units_82 ?_
          refine j_lt (g := bz_i) hf (fun l4 hf => ?_)
          refine j_istore X (lv' := [(4, bz_i l4), (5, bz_i l5), (3, bz_i l3), (0, bz_rf E 81), (2, bz_i l2)]) dM_units_83 (by decide) rfl ?_
          refine j_iinc X (y := l5 + 1) (lv' := [(5, bz_i (l5 + 1)), (4, bz_i l4), (3, bz_i l3), (0, bz_rf E 81), (2, bz_i l2)]) dM_units_85 1 rfl rfl (by decide) rfl ?_
          refine j_goto X (tgt := 28) dM_units_88 (by decide) ?_
          exact ih _ _ hf
        · refine j_aload_n X dM_units_60 rfl 3 rfl ?_
          refine j_geta X gf_M_77_81 dM_units_61 ?_
          refine j_iload X dM_units_64 0 rfl ?_
          refine j_iald X sh_104 dM_units_66 hf (fun x3 hf => ?_)
          refine j_iload_n X dM_units_67 rfl 4 rfl ?_
          refine j_icmp_ne X (tgt := 81) rfl rfl dM_units_68 (by decide) hf (fun hf => ?_) (fun hf => ?_)
          · refine j_iconst X dM_units_81 ?_
            refine j_iadd X dM_units_82 ?_
            refine j_lt (g := bz_i) hf (fun l4 hf => ?_)
            refine j_istore X (lv' := [(4, bz_i l4), (5, bz_i l5), (3, bz_i l3), (0, bz_rf E 81), (2, bz_i l2)]) dM_units_83 (by decide) rfl ?_
            refine j_iinc X (y := l5 + 1) (lv' := [(5, bz_i (l5 + 1)), (4, bz_i l4), (3, bz_i l3), (0, bz_rf E 81), (2, bz_i l2)]) dM_units_85 1 rfl rfl (by decide) rfl ?_
            refine j_goto X (tgt := 28) dM_units_88 (by decide) ?_
            exact ih _ _ hf
          · refine j_aload_n X dM_units_71 rfl 3 rfl ?_
            refine j_geta X gf_M_86_81 dM_units_72 ?_
            refine j_iload X dM_units_75 0 rfl ?_
            refine j_iald X sh_107 dM_units_77 hf (fun x4 hf => ?_)
            refine j_goto X (tgt := 82) dM_units_78 (by decide) ?_
            refine j_iadd X dM_units_82 ?_
            refine j_lt (g := bz_i) hf (fun l4 hf => ?_)
            refine j_istore X (lv' := [(4, bz_i l4), (5, bz_i l5), (3, bz_i l3), (0, bz_rf E 81), (2, bz_i l2)]) dM_units_83 (by decide) rfl ?_
            show bz_J _ _ 85 _ _ _
            refine j_iinc X (y := l5 + 1) (lv' := [(5, bz_i (l5 + 1)), (4, bz_i l4), (3, bz_i l3), (0, bz_rf E 81), (2, bz_i l2)]) dM_units_85 1 rfl rfl (by decide) rfl ?_
            refine j_goto X (tgt := 28) dM_units_88 (by decide) ?_
            exact ih _ _ hf
def fM_units (F : Nat) (M : bz_Mm) (a1 : Int) (a2 : Int) : Option (Int) :=
  lt_ (fM_placeOf M a1) fun l3 =>
  if w32 l3 = (-1) then
  (some ((-1)))
  else
  (if w32 (fM_canHold M l3 a2) = 0 then
  (some ((-1)))
  else
  (cl1_ (M_units_L28 F F M l3 a2 0 0) fun l4 =>
  some l4))
set_option maxHeartbeats 4000000 in
set_option maxRecDepth 20000 in
theorem cM_units (E : bz_E) (F : Nat)  {M : bz_Mm} {a1 : Int} {a2 : Int} {x0 : Int} (hf : fM_units F M a1 a2 = some x0) : bz_Ct E yM_units (.code yM_units prog_14_method_70_code 6 (some .int)) 3 68 [bz_rf E 81, bz_i a1, bz_i a2] M (some (bz_i x0)) M := by
  refine bz_met (by decide +kernel) (Nat.le_of_ble_eq_true rfl) (fun K X => ?_)
  have X : bz_X K E prog_14_method_70_code 6 "UnitsWrongModel" (some .int) 3 68 _ _ := X
  unfold fM_units at hf
  show bz_J K 6 0 [(0, bz_rf E 81), (1, bz_i a1), (2, bz_i a2)] [] M
  refine j_aload_n X dM_units_0 rfl 0 rfl ?_
  refine j_iload_n X dM_units_1 rfl 1 rfl ?_
  refine j_cv X (st := []) (cM_placeOf E) gyM_placeOf gv_M_placeOf_81 rfl (by decide) (by decide) wd_1489 rfl (Nat.le_of_ble_eq_true rfl) dM_units_2 ?_
  refine j_lt (g := bz_i) hf (fun l3 hf => ?_)
  refine j_istore_n X (lv' := [(3, bz_i l3), (0, bz_rf E 81), (1, bz_i a1), (2, bz_i a2)]) dM_units_5 rfl (by decide) rfl ?_
  refine j_iload_n X dM_units_6 rfl 0 rfl ?_
  refine j_iconst X dM_units_7 ?_
  refine j_icmp_eq X (tgt := 20) rfl (w32_lit rfl) dM_units_8 (by decide) hf (fun hf => ?_) (fun hf => ?_)
  · refine j_iconst X dM_units_20 ?_
    cases hf
    exact j_iret X dM_units_21 rfl rfl
  · refine j_aload_n X dM_units_11 rfl 1 rfl ?_
    refine j_iload_n X dM_units_12 rfl 0 rfl ?_
    refine j_iload_n X dM_units_13 rfl 3 rfl ?_
    refine j_cv X (st := []) (cM_canHold E) gyM_canHold gv_M_canHold_81 rfl (by decide) (by decide) wd_1710 rfl (Nat.le_of_ble_eq_true rfl) dM_units_14 ?_
    refine j_if_ne X (tgt := 22) rfl dM_units_17 (by decide) hf (fun hf => ?_) (fun hf => ?_)
    · refine j_iconst X dM_units_22 ?_
      refine j_istore X (lv' := [(4, bz_i 0), (3, bz_i l3), (0, bz_rf E 81), (1, bz_i a1), (2, bz_i a2)]) dM_units_23 (by decide) rfl ?_
      refine j_iconst X dM_units_25 ?_
      refine j_istore X (lv' := [(5, bz_i 0), (4, bz_i 0), (3, bz_i l3), (0, bz_rf E 81), (1, bz_i a1), (2, bz_i a2)]) dM_units_26 (by decide) rfl ?_
      obtain ⟨res5, hz5, hk5⟩ := q_l1 hf
      clear hf
      refine j_sub [0, 1, 2, 3, 5] rfl ?_
      refine lM_units_L28 E F X (fun l4 he => ?_) F 0 0 hz5
      have hf := hk5 _ he
      refine j_iload X dM_units_91 0 rfl ?_
      cases hf
      exact j_iret X dM_units_93 rfl rfl
    · refine j_iconst X dM_units_20 ?_
      cases hf
      exact j_iret X dM_units_21 rfl rfl
def gM_isKnownDay (M : bz_Mm) (a1 : Int) : Option Int :=
  some (fM_in (w32 a1) 0 (w32 (fM_known0 M)))
def fM_isKnownDay (M : bz_Mm) (a1 : Int) : Int :=
  (fM_in (w32 a1) 0 (w32 (fM_known0 M)))
theorem tM_isKnownDay (M : bz_Mm) (a1 : Int) : gM_isKnownDay M a1 = some (fM_isKnownDay M a1) := by
  unfold gM_isKnownDay fM_isKnownDay
  (repeat' (first | rfl | split))
theorem zM_isKnownDay {M : bz_Mm} {a1 : Int} : fM_isKnownDay M a1 = 0 ∨ fM_isKnownDay M a1 = 1 := by
  unfold fM_isKnownDay
  (repeat' (first | exact Or.inl rfl | exact Or.inr rfl | exact zM_in | split))
set_option maxHeartbeats 4000000 in
set_option maxRecDepth 20000 in
theorem cM_isKnownDay (E : bz_E) {M : bz_Mm} {a1 : Int} : bz_Ct E yM_isKnownDay (.code yM_isKnownDay prog_14_method_76_code 2 (some .boolean)) 1 25 [bz_rf E 81, bz_i a1] M (some (bz_i (fM_isKnownDay M a1))) M := by
  have hf := tM_isKnownDay M a1
  refine bz_met (by decide +kernel) (Nat.le_of_ble_eq_true rfl) (fun K X => ?_)
  have X : bz_X K E prog_14_method_76_code 2 "UnitsWrongModel" (some .boolean) 1 25 _ _ := X
  unfold gM_isKnownDay at hf
  generalize fM_isKnownDay M a1 = rr at hf X
  show bz_J K 2 0 [(0, bz_rf E 81), (1, bz_i a1)] [] M
  refine j_iload_n X dM_isKnownDay_0 rfl 1 rfl ?_
  refine j_i2l X rfl dM_isKnownDay_1 ?_
  refine j_lconst X (v := 0) dM_isKnownDay_2 rfl ?_
  refine j_aload_n X dM_isKnownDay_3 rfl 0 rfl ?_
  refine j_cv X (st := [bz_l 0, bz_l (w32 a1)]) (cM_known0 E) gyM_known0 gv_M_known0_81 rfl (by decide) (by decide) wd_1440 rfl (Nat.le_of_ble_eq_true rfl) dM_isKnownDay_4 ?_
  refine j_i2l X rfl dM_isKnownDay_7 ?_
  refine j_cs X (st := []) (cM_in E) gyM_in wd_1409 rfl (by decide) (by decide) wd_1408 rfl (Nat.le_of_ble_eq_true rfl) dM_isKnownDay_8 ?_
  show bz_J _ _ 11 _ _ _
  cases hf
  exact j_zret X (bz_zz zM_in) dM_isKnownDay_11 rfl rfl
def M_sums_L3 (F : Nat) : Nat → Int → Int → Int → Int → bz_Mm → Option (bz_Mm)
  | 0, _, _, _, _, _ => none
  | n + 1, l1, l2, l3, l4, M =>
    if w32 l4 < 20 then
    (wa_ M 223 l4 20 0 fun m1 =>
    wa_ m1 224 l4 20 0 fun m2 =>
    M_sums_L3 F n l1 l2 l3 (l4 + 1) m2)
    else
    (some M)
def M_sums_L35 (F : Nat) : Nat → Int → Int → Int → Int → bz_Mm → Option (bz_Mm)
  | 0, _, _, _, _, _ => none
  | n + 1, l1, l2, l3, l4, M =>
    if w32 l4 < w32 (M 81 35) then
    (rd_ M 104 l4 200 fun x4 =>
    if w32 x4 = w32 l1 then
    (rd_ M 108 l4 200 fun x5 =>
    if w32 x5 = 0 then
    (M_sums_L35 F n l1 l2 l3 (l4 + 1) M)
    else
    (rd_ M 106 l4 200 fun x6 =>
    if w32 (fM_lastOver M l2) < w32 x6 then
    (M_sums_L35 F n l1 l2 l3 (l4 + 1) M)
    else
    (rd_ M 106 l4 200 fun x7 =>
    cl_ (fM_counts F M l1 x7 l3) fun x8 =>
    if w32 x8 = 0 then
    (M_sums_L35 F n l1 l2 l3 (l4 + 1) M)
    else
    (rd_ M 109 l4 200 fun x9 =>
    rd_ M 189 l4 200 fun x10 =>
    lt_ (x9 - x10) fun l5 =>
    rd_ M 107 l4 200 fun x11 =>
    cl1_ (if w32 x11 < 0 then
    (lt_ (-l5) fun l5 =>
    some (l5))
    else
    (some (l5))) fun l5 =>
    if 0 < w64 l5 then
    (rd_ M 103 l4 200 fun x16 =>
    rd_ M 223 x16 20 fun x17 =>
    wa_ M 223 x16 20 (x17 + l5) fun m18 =>
    M_sums_L35 F n l1 l2 l3 (l4 + 1) m18)
    else
    (rd_ M 103 l4 200 fun x13 =>
    rd_ M 224 x13 20 fun x14 =>
    wa_ M 224 x13 20 (x14 - l5) fun m15 =>
    M_sums_L35 F n l1 l2 l3 (l4 + 1) m15)))))
    else
    (M_sums_L35 F n l1 l2 l3 (l4 + 1) M))
    else
    (some M)
theorem lM_sums_L3 (E : bz_E) (F : Nat) {K : bz_K} {rv : Option Value} {M1 : bz_Mm} (X : bz_X K E prog_14_method_71_code 7 "UnitsWrongModel" none 1 25 rv M1) {l1 : Int} {l2 : Int} {l3 : Int} {res : (bz_Mm)}
    (kx : ∀ (M : bz_Mm), some M = some res → bz_J K 7 32 [(0, bz_rf E 81), (1, bz_i l1), (2, bz_i l2), (3, bz_i l3)] [] M) :
    ∀ (n : Nat) (l4 : Int) (M : bz_Mm), M_sums_L3 F n l1 l2 l3 l4 M = some res → bz_J K 7 3 [(4, bz_i l4), (0, bz_rf E 81), (1, bz_i l1), (2, bz_i l2), (3, bz_i l3)] [] M := by
  intro n
  induction n with
  | zero => intro l4 M hf; cases hf
  | succ n ih =>
    intro l4 M hf
    rw [M_sums_L3] at hf
    refine j_iload X dM_sums_3 0 rfl ?_
    refine j_bipush X dM_sums_5 rfl ?_
    refine j_icmp_ge X (tgt := 32) rfl (w32_lit rfl) dM_sums_7 (by decide) hf (fun hf => ?_) (fun hf => ?_)
    · exact j_sub [1, 2, 3, 4] rfl (kx _ hf)
    · refine j_aload_n X dM_sums_10 rfl 1 rfl ?_
      refine j_geta X gf_M_172_81 dM_sums_11 ?_
      refine j_iload X dM_sums_14 0 rfl ?_
      refine j_lconst X (v := 0) dM_sums_16 rfl ?_
      refine j_last X sh_223 dM_sums_17 hf (fun m1 hf => ?_)
      refine j_aload_n X dM_sums_18 rfl 1 rfl ?_
      refine j_geta X gf_M_175_81 dM_sums_19 ?_
      show bz_J _ _ 22 _ _ _
      refine j_iload X dM_sums_22 0 rfl ?_
      refine j_lconst X (v := 0) dM_sums_24 rfl ?_
      refine j_last X sh_224 dM_sums_25 hf (fun m2 hf => ?_)
      refine j_iinc X (y := l4 + 1) (lv' := [(4, bz_i (l4 + 1)), (0, bz_rf E 81), (1, bz_i l1), (2, bz_i l2), (3, bz_i l3)]) dM_sums_26 0 rfl rfl (by decide) rfl ?_
      refine j_goto X (tgt := 3) dM_sums_29 (by decide) ?_
      exact ih _ _ hf
theorem lM_sums_L35 (E : bz_E) (F : Nat) {K : bz_K} {rv : Option Value} {M1 : bz_Mm} (X : bz_X K E prog_14_method_71_code 7 "UnitsWrongModel" none 1 25 rv M1) {l1 : Int} {l2 : Int} {l3 : Int} {res : (bz_Mm)}
    (kx : ∀ (M : bz_Mm), some M = some res → bz_J K 7 181 [] [] M) :
    ∀ (n : Nat) (l4 : Int) (M : bz_Mm), M_sums_L35 F n l1 l2 l3 l4 M = some res → bz_J K 7 35 [(4, bz_i l4), (0, bz_rf E 81), (1, bz_i l1), (2, bz_i l2), (3, bz_i l3)] [] M := by
  intro n
  induction n with
  | zero => intro l4 M hf; cases hf
  | succ n ih =>
    intro l4 M hf
    rw [M_sums_L35] at hf
    refine j_iload X dM_sums_35 0 rfl ?_
    refine j_aload_n X dM_sums_37 rfl 1 rfl ?_
    refine j_geti X gf_M_302_81 dM_sums_38 ?_
    refine j_icmp_ge X (tgt := 181) rfl rfl dM_sums_41 (by decide) hf (fun hf => ?_) (fun hf => ?_)
    · exact j_sub [] rfl (kx _ hf)
    · refine j_aload_n X dM_sums_44 rfl 1 rfl ?_
      refine j_geta X gf_M_77_81 dM_sums_45 ?_
      refine j_iload X dM_sums_48 0 rfl ?_
      refine j_iald X sh_104 dM_sums_50 hf (fun x4 hf => ?_)
      refine j_iload_n X dM_sums_51 rfl 2 rfl ?_
      refine j_icmp_ne X (tgt := 175) rfl rfl dM_sums_52 (by decide) hf (fun hf => ?_) (fun hf => ?_)
      · refine j_iinc X (y := l4 + 1) (lv' := [(4, bz_i (l4 + 1)), (0, bz_rf E 81), (1, bz_i l1), (2, bz_i l2), (3, bz_i l3)]) dM_sums_175 0 rfl rfl (by decide) rfl ?_
        refine j_goto X (tgt := 35) dM_sums_178 (by decide) ?_
        exact ih _ _ hf
      · refine j_aload_n X dM_sums_55 rfl 1 rfl ?_
        refine j_geta X gf_M_89_81 dM_sums_56 ?_
        refine j_iload X dM_sums_59 0 rfl ?_
        refine j_zald X sh_108 dM_sums_61 hf (fun x5 hf => ?_)
        refine j_if_eq X (tgt := 175) rfl dM_sums_62 (by decide) hf (fun hf => ?_) (fun hf => ?_)
        · refine j_iinc X (y := l4 + 1) (lv' := [(4, bz_i (l4 + 1)), (0, bz_rf E 81), (1, bz_i l1), (2, bz_i l2), (3, bz_i l3)]) dM_sums_175 0 rfl rfl (by decide) rfl ?_
          refine j_goto X (tgt := 35) dM_sums_178 (by decide) ?_
          exact ih _ _ hf
        · refine j_aload_n X dM_sums_65 rfl 1 rfl ?_
          refine j_geta X gf_M_83_81 dM_sums_66 ?_
          refine j_iload X dM_sums_69 0 rfl ?_
          refine j_iald X sh_106 dM_sums_71 hf (fun x6 hf => ?_)
          refine j_aload_n X dM_sums_72 rfl 1 rfl ?_
          refine j_iload_n X dM_sums_73 rfl 3 rfl ?_
          refine j_cv X (st := [bz_i x6]) (cM_lastOver E) gyM_lastOver gv_M_lastOver_81 rfl (by decide) (by decide) wd_1698 rfl (Nat.le_of_ble_eq_true rfl) dM_sums_74 ?_
          show bz_J _ _ 77 _ _ _
          refine j_icmp_gt X (tgt := 175) rfl rfl dM_sums_77 (by decide) hf (fun hf => ?_) (fun hf => ?_)
          · refine j_iinc X (y := l4 + 1) (lv' := [(4, bz_i (l4 + 1)), (0, bz_rf E 81), (1, bz_i l1), (2, bz_i l2), (3, bz_i l3)]) dM_sums_175 0 rfl rfl (by decide) rfl ?_
            refine j_goto X (tgt := 35) dM_sums_178 (by decide) ?_
            exact ih _ _ hf
          · refine j_aload_n X dM_sums_80 rfl 1 rfl ?_
            refine j_iload_n X dM_sums_81 rfl 2 rfl ?_
            refine j_aload_n X dM_sums_82 rfl 1 rfl ?_
            refine j_geta X gf_M_83_81 dM_sums_83 ?_
            refine j_iload X dM_sums_86 0 rfl ?_
            refine j_iald X sh_106 dM_sums_88 hf (fun x7 hf => ?_)
            refine j_iload_n X dM_sums_89 rfl 4 rfl ?_
            show bz_J _ _ 90 _ _ _
            obtain ⟨x8, hzx8, hf⟩ := q_cl hf
            refine j_cv X (st := []) (cM_counts E F hzx8) gyM_counts gv_M_counts_81 rfl (by decide) (by decide) wd_1702 rfl (Nat.le_of_ble_eq_true rfl) dM_sums_90 ?_
            refine j_if_ne X (tgt := 99) rfl dM_sums_93 (by decide) hf (fun hf => ?_) (fun hf => ?_)
            · refine j_aload_n X dM_sums_99 rfl 1 rfl ?_
              refine j_geta X gf_M_92_81 dM_sums_100 ?_
              refine j_iload X dM_sums_103 0 rfl ?_
              refine j_lald X sh_109 dM_sums_105 hf (fun x9 hf => ?_)
              refine j_aload_n X dM_sums_106 rfl 1 rfl ?_
              refine j_geta X gf_M_140_81 dM_sums_107 ?_
              refine j_iload X dM_sums_110 0 rfl ?_
              show bz_J _ _ 112 _ _ _
              refine j_lald X sh_189 dM_sums_112 hf (fun x10 hf => ?_)
              refine j_lsub X dM_sums_113 ?_
              refine j_lt (g := bz_l) hf (fun l5 hf => ?_)
              refine j_lstore X (lv' := [(5, bz_l l5), (4, bz_i l4), (0, bz_rf E 81), (1, bz_i l1), (2, bz_i l2), (3, bz_i l3)]) dM_sums_114 (by decide) rfl ?_
              refine j_aload_n X dM_sums_116 rfl 2 rfl ?_
              refine j_geta X gf_M_86_81 dM_sums_117 ?_
              refine j_iload X dM_sums_120 1 rfl ?_
              refine j_iald X sh_107 dM_sums_122 hf (fun x11 hf => ?_)
              obtain ⟨resJ12, hf0, hkJ12⟩ := q_l1 hf
              have J12 : ∀ (l5 : Int), some l5 = some resJ12 → bz_J K 7 131 [(5, bz_l l5), (4, bz_i l4), (0, bz_rf E 81), (1, bz_i l1), (2, bz_i l2), (3, bz_i l3)] [] M := by
                intro l5 he
                have hf := hkJ12 _ he
                refine j_lload X dM_sums_131 0 rfl ?_
                refine j_lconst X (v := 0) dM_sums_133 rfl ?_
                refine j_lcmp_le X (tgt := 158) rfl (w64_lit rfl) dM_sums_134 dM_sums_135 (by decide) hf (fun hf => ?_) (fun hf => ?_)
                · refine j_aload_n X dM_sums_158 rfl 2 rfl ?_
                  refine j_geta X gf_M_175_81 dM_sums_159 ?_
                  refine j_aload_n X dM_sums_162 rfl 2 rfl ?_
                  refine j_geta X gf_M_74_81 dM_sums_163 ?_
                  refine j_iload X dM_sums_166 1 rfl ?_
                  refine j_iald X sh_103 dM_sums_168 hf (fun x13 hf => ?_)
                  refine j_dup2 X dM_sums_169 rfl rfl ?_
                  show bz_J _ _ 170 _ _ _
                  refine j_lald X sh_224 dM_sums_170 hf (fun x14 hf => ?_)
                  refine j_lload X dM_sums_171 0 rfl ?_
                  refine j_lsub X dM_sums_173 ?_
                  refine j_last X sh_224 dM_sums_174 hf (fun m15 hf => ?_)
                  refine j_iinc X (y := l4 + 1) (lv' := [(4, bz_i (l4 + 1)), (5, bz_l l5), (0, bz_rf E 81), (1, bz_i l1), (2, bz_i l2), (3, bz_i l3)]) dM_sums_175 1 rfl rfl (by decide) rfl ?_
                  refine j_goto X (tgt := 35) dM_sums_178 (by decide) ?_
                  exact j_sub [0, 2, 3, 4, 5] rfl (ih _ _ hf)
                · refine j_aload_n X dM_sums_138 rfl 2 rfl ?_
                  refine j_geta X gf_M_172_81 dM_sums_139 ?_
                  refine j_aload_n X dM_sums_142 rfl 2 rfl ?_
                  refine j_geta X gf_M_74_81 dM_sums_143 ?_
                  refine j_iload X dM_sums_146 1 rfl ?_
                  refine j_iald X sh_103 dM_sums_148 hf (fun x16 hf => ?_)
                  refine j_dup2 X dM_sums_149 rfl rfl ?_
                  show bz_J _ _ 150 _ _ _
                  refine j_lald X sh_223 dM_sums_150 hf (fun x17 hf => ?_)
                  refine j_lload X dM_sums_151 0 rfl ?_
                  refine j_ladd X dM_sums_153 ?_
                  refine j_last X sh_223 dM_sums_154 hf (fun m18 hf => ?_)
                  refine j_goto X (tgt := 175) dM_sums_155 (by decide) ?_
                  refine j_iinc X (y := l4 + 1) (lv' := [(4, bz_i (l4 + 1)), (5, bz_l l5), (0, bz_rf E 81), (1, bz_i l1), (2, bz_i l2), (3, bz_i l3)]) dM_sums_175 1 rfl rfl (by decide) rfl ?_
                  refine j_goto X (tgt := 35) dM_sums_178 (by decide) ?_
                  exact j_sub [0, 2, 3, 4, 5] rfl (ih _ _ hf)
              clear hf
              have hf := hf0
              clear hf0
              refine j_if_ge X (tgt := 131) rfl dM_sums_123 (by decide) hf (fun hf => ?_) (fun hf => ?_)
              · exact J12 _ hf
              · refine j_lload X dM_sums_126 0 rfl ?_
                refine j_lneg X dM_sums_128 ?_
                refine j_lt (g := bz_l) hf (fun l5 hf => ?_)
                refine j_lstore X (lv' := [(5, bz_l l5), (4, bz_i l4), (0, bz_rf E 81), (1, bz_i l1), (2, bz_i l2), (3, bz_i l3)]) dM_sums_129 (by decide) rfl ?_
                exact J12 _ hf
            · refine j_goto X (tgt := 175) dM_sums_96 (by decide) ?_
              refine j_iinc X (y := l4 + 1) (lv' := [(4, bz_i (l4 + 1)), (0, bz_rf E 81), (1, bz_i l1), (2, bz_i l2), (3, bz_i l3)]) dM_sums_175 0 rfl rfl (by decide) rfl ?_
              refine j_goto X (tgt := 35) dM_sums_178 (by decide) ?_
              exact ih _ _ hf
def fM_sums (F : Nat) (M : bz_Mm) (a1 : Int) (a2 : Int) (a3 : Int) : Option (bz_Mm) :=
  cl1_ (M_sums_L3 F F a1 a2 a3 0 M) fun m3 =>
  cl1_ (M_sums_L35 F F a1 a2 a3 0 m3) fun m19 =>
  some m19
set_option maxHeartbeats 4000000 in
set_option maxRecDepth 20000 in
theorem cM_sums (E : bz_E) (F : Nat)  {M : bz_Mm} {a1 : Int} {a2 : Int} {a3 : Int} {x0 : bz_Mm} (hf : fM_sums F M a1 a2 a3 = some x0) : bz_Ct E yM_sums (.code yM_sums prog_14_method_71_code 7 none) 1 25 [bz_rf E 81, bz_i a1, bz_i a2, bz_i a3] M (none) x0 := by
  refine bz_met (by decide +kernel) (Nat.le_of_ble_eq_true rfl) (fun K X => ?_)
  have X : bz_X K E prog_14_method_71_code 7 "UnitsWrongModel" none 1 25 _ _ := X
  unfold fM_sums at hf
  show bz_J K 7 0 [(0, bz_rf E 81), (1, bz_i a1), (2, bz_i a2), (3, bz_i a3)] [] M
  refine j_iconst X dM_sums_0 ?_
  refine j_istore X (lv' := [(4, bz_i 0), (0, bz_rf E 81), (1, bz_i a1), (2, bz_i a2), (3, bz_i a3)]) dM_sums_1 (by decide) rfl ?_
  obtain ⟨res21, hz21, hk21⟩ := q_l1 hf
  clear hf
  refine lM_sums_L3 E F X (fun m3 he => ?_) F 0 M hz21
  have hf := hk21 _ he
  refine j_iconst X dM_sums_32 ?_
  refine j_istore X (lv' := [(4, bz_i 0), (0, bz_rf E 81), (1, bz_i a1), (2, bz_i a2), (3, bz_i a3)]) dM_sums_33 (by decide) rfl ?_
  obtain ⟨res20, hz20, hk20⟩ := q_l1 hf
  clear hf
  refine lM_sums_L35 E F X (fun m19 he => ?_) F 0 m3 hz20
  have hf := hk20 _ he
  cases hf
  exact j_vret X dM_sums_181 rfl rfl
def fM_isToParty (F : Nat) (M : bz_Mm) (a1 : Int) (a2 : Int) : Option (Int) :=
  rd_ M 96 a1 4 fun x1 =>
  if w32 x1 = (-1) then
  (some 0)
  else
  (rd_ M 96 a1 4 fun x2 =>
  cl_ (fM_ruleOf F M a1 a2 8) fun x3 =>
  if w32 (a2 - x2) < w32 x3 then
  (some 0)
  else
  (some 1))
set_option maxHeartbeats 4000000 in
set_option maxRecDepth 20000 in
theorem cM_isToParty (E : bz_E) (F : Nat)  {M : bz_Mm} {a1 : Int} {a2 : Int} {x0 : Int} (hf : fM_isToParty F M a1 a2 = some x0) : bz_Ct E yM_isToParty (.code yM_isToParty prog_14_method_72_code 3 (some .boolean)) 1 25 [bz_rf E 81, bz_i a1, bz_i a2] M (some (bz_i x0)) M := by
  refine bz_met (by decide +kernel) (Nat.le_of_ble_eq_true rfl) (fun K X => ?_)
  have X : bz_X K E prog_14_method_72_code 3 "UnitsWrongModel" (some .boolean) 1 25 _ _ := X
  unfold fM_isToParty at hf
  show bz_J K 3 0 [(0, bz_rf E 81), (1, bz_i a1), (2, bz_i a2)] [] M
  refine j_aload_n X dM_isToParty_0 rfl 0 rfl ?_
  refine j_geta X gf_M_53_81 dM_isToParty_1 ?_
  refine j_iload_n X dM_isToParty_4 rfl 1 rfl ?_
  refine j_iald X sh_96 dM_isToParty_5 hf (fun x1 hf => ?_)
  refine j_iconst X dM_isToParty_6 ?_
  refine j_icmp_eq X (tgt := 33) rfl (w32_lit rfl) dM_isToParty_7 (by decide) hf (fun hf => ?_) (fun hf => ?_)
  · refine j_iconst X dM_isToParty_33 ?_
    cases hf
    exact j_zret X (by decide +kernel) dM_isToParty_34 rfl rfl
  · refine j_iload_n X dM_isToParty_10 rfl 2 rfl ?_
    refine j_aload_n X dM_isToParty_11 rfl 0 rfl ?_
    refine j_geta X gf_M_53_81 dM_isToParty_12 ?_
    refine j_iload_n X dM_isToParty_15 rfl 1 rfl ?_
    refine j_iald X sh_96 dM_isToParty_16 hf (fun x2 hf => ?_)
    refine j_isub X dM_isToParty_17 ?_
    refine j_aload_n X dM_isToParty_18 rfl 0 rfl ?_
    show bz_J _ _ 19 _ _ _
    refine j_iload_n X dM_isToParty_19 rfl 1 rfl ?_
    refine j_iload_n X dM_isToParty_20 rfl 2 rfl ?_
    refine j_bipush X dM_isToParty_21 rfl ?_
    obtain ⟨x3, hzx3, hf⟩ := q_cl hf
    refine j_cv X (st := [bz_i (a2 - x2)]) (cM_ruleOf E F hzx3) gyM_ruleOf gv_M_ruleOf_81 rfl (by decide) (by decide) wd_1494 rfl (Nat.le_of_ble_eq_true rfl) dM_isToParty_23 ?_
    refine j_icmp_lt X (tgt := 33) rfl rfl dM_isToParty_26 (by decide) hf (fun hf => ?_) (fun hf => ?_)
    · refine j_iconst X dM_isToParty_33 ?_
      cases hf
      exact j_zret X (by decide +kernel) dM_isToParty_34 rfl rfl
    · refine j_iconst X dM_isToParty_29 ?_
      refine j_goto X (tgt := 34) dM_isToParty_30 (by decide) ?_
      cases hf
      exact j_zret X (by decide +kernel) dM_isToParty_34 rfl rfl
def fM_judges (F : Nat) (M : bz_Mm) (a1 : Int) (a2 : Int) (a3 : Int) : Option (bz_Mm) :=
  cl_ (fM_ruleOf F M a1 a3 7) fun x1 =>
  rd_ M 223 a2 20 fun x2 =>
  wa_ M 225 a2 20 x2 fun m3 =>
  cl1_ (if w32 x1 = (-1) then
  (some (m3))
  else
  (rd_ m3 223 a2 20 fun x5 =>
  rd_ m3 224 a2 20 fun x6 =>
  wa_ m3 225 a2 20 (x5 - x6) fun m7 =>
  rd_ m7 225 a2 20 fun x8 =>
  if w64 x8 < 0 then
  (rd_ m7 225 a2 20 fun x9 =>
  if w64 x9 < w64 (w32 (-x1)) then
  (some (m7))
  else
  (wa_ m7 225 a2 20 0 fun m10 =>
  some (m10)))
  else
  (some (m7)))) fun m11 =>
  wa_ m11 226 a2 20 0 fun m12 =>
  rd_ m12 225 a2 20 fun x13 =>
  if 0 < w64 x13 then
  (cl1_ (if w32 a2 < 16 then
  (rd_ m12 95 a2 16 fun x16 =>
  if w32 x16 = (-1) then
  (some (0))
  else
  (rd_ m12 95 a2 16 fun x17 =>
  if w32 a3 < w32 x17 then
  (some (0))
  else
  (some (1))))
  else
  (some (0))) fun v15 =>
  rd_ m12 225 a2 20 fun x18 =>
  cl_ (fM_ruleOf F m12 a1 a3 5) fun x19 =>
  if w64 x18 < w64 (w32 x19) then
  (wa_ m12 226 a2 20 1 fun m23 =>
  some m23)
  else
  (if w32 v15 = 0 then
  (some m12)
  else
  (cl_ (fM_isToParty F m12 a1 a3) fun x20 =>
  if w32 x20 = 0 then
  (wa_ m12 226 a2 20 2 fun m21 =>
  some m21)
  else
  (wa_ m12 226 a2 20 3 fun m22 =>
  some m22))))
  else
  (some m12)
set_option maxHeartbeats 4000000 in
set_option maxRecDepth 20000 in
theorem cM_judges (E : bz_E) (F : Nat)  {M : bz_Mm} {a1 : Int} {a2 : Int} {a3 : Int} {x0 : bz_Mm} (hf : fM_judges F M a1 a2 a3 = some x0) : bz_Ct E yM_judges (.code yM_judges prog_14_method_73_code 6 none) 2 47 [bz_rf E 81, bz_i a1, bz_i a2, bz_i a3] M (none) x0 := by
  refine bz_met (by decide +kernel) (Nat.le_of_ble_eq_true rfl) (fun K X => ?_)
  have X : bz_X K E prog_14_method_73_code 6 "UnitsWrongModel" none 2 47 _ _ := X
  unfold fM_judges at hf
  show bz_J K 6 0 [(0, bz_rf E 81), (1, bz_i a1), (2, bz_i a2), (3, bz_i a3)] [] M
  refine j_aload_n X dM_judges_0 rfl 0 rfl ?_
  refine j_iload_n X dM_judges_1 rfl 1 rfl ?_
  refine j_iload_n X dM_judges_2 rfl 3 rfl ?_
  refine j_bipush X dM_judges_3 rfl ?_
  obtain ⟨x1, hzx1, hf⟩ := q_cl hf
  refine j_cv X (st := []) (cM_ruleOf E F hzx1) gyM_ruleOf gv_M_ruleOf_81 rfl (by decide) (by decide) wd_1494 rfl (Nat.le_of_ble_eq_true rfl) dM_judges_5 ?_
  refine j_istore X (lv' := [(4, bz_i x1), (0, bz_rf E 81), (1, bz_i a1), (2, bz_i a2), (3, bz_i a3)]) dM_judges_8 (by decide) rfl ?_
  refine j_aload_n X dM_judges_10 rfl 1 rfl ?_
  show bz_J _ _ 11 _ _ _
  refine j_geta X gf_M_178_81 dM_judges_11 ?_
  refine j_iload_n X dM_judges_14 rfl 3 rfl ?_
  refine j_aload_n X dM_judges_15 rfl 1 rfl ?_
  refine j_geta X gf_M_172_81 dM_judges_16 ?_
  refine j_iload_n X dM_judges_19 rfl 3 rfl ?_
  refine j_lald X sh_223 dM_judges_20 hf (fun x2 hf => ?_)
  refine j_last X sh_225 dM_judges_21 hf (fun m3 hf => ?_)
  refine j_iload X dM_judges_22 0 rfl ?_
  show bz_J _ _ 24 _ _ _
  refine j_iconst X dM_judges_24 ?_
  obtain ⟨resJ4, hf0, hkJ4⟩ := q_l1 hf
  have J4 : ∀ (m11 : bz_Mm), some m11 = some resJ4 → bz_J K 6 79 [(0, bz_rf E 81), (1, bz_i a1), (2, bz_i a2), (3, bz_i a3)] [] m11 := by
    intro m11 he
    have hf := hkJ4 _ he
    refine j_aload_n X dM_judges_79 rfl 0 rfl ?_
    refine j_geta X gf_M_181_81 dM_judges_80 ?_
    refine j_iload_n X dM_judges_83 rfl 2 rfl ?_
    refine j_iconst X dM_judges_84 ?_
    refine j_iast X sh_226 dM_judges_85 hf (fun m12 hf => ?_)
    refine j_aload_n X dM_judges_86 rfl 0 rfl ?_
    refine j_geta X gf_M_178_81 dM_judges_87 ?_
    show bz_J _ _ 90 _ _ _
    refine j_iload_n X dM_judges_90 rfl 2 rfl ?_
    refine j_lald X sh_225 dM_judges_91 hf (fun x13 hf => ?_)
    refine j_lconst X (v := 0) dM_judges_92 rfl ?_
    refine j_lcmp_gt X (tgt := 98) rfl (w64_lit rfl) dM_judges_93 dM_judges_94 (by decide) hf (fun hf => ?_) (fun hf => ?_)
    · refine j_iload_n X dM_judges_98 rfl 2 rfl ?_
      refine j_bipush X dM_judges_99 rfl ?_
      obtain ⟨resJ14, hf0, hkJ14⟩ := q_l1 hf
      have J14 : ∀ (v15 : Int), some v15 = some resJ14 → bz_J K 6 129 [(0, bz_rf E 81), (1, bz_i a1), (2, bz_i a2), (3, bz_i a3)] [bz_i v15] m12 := by
        intro v15 he
        have hf := hkJ14 _ he
        refine j_istore X (lv' := [(5, bz_i v15), (0, bz_rf E 81), (1, bz_i a1), (2, bz_i a2), (3, bz_i a3)]) dM_judges_129 (by decide) rfl ?_
        refine j_aload_n X dM_judges_131 rfl 1 rfl ?_
        refine j_geta X gf_M_178_81 dM_judges_132 ?_
        refine j_iload_n X dM_judges_135 rfl 3 rfl ?_
        refine j_lald X sh_225 dM_judges_136 hf (fun x18 hf => ?_)
        refine j_aload_n X dM_judges_137 rfl 1 rfl ?_
        refine j_iload_n X dM_judges_138 rfl 2 rfl ?_
        show bz_J _ _ 139 _ _ _
        refine j_iload_n X dM_judges_139 rfl 4 rfl ?_
        refine j_iconst X dM_judges_140 ?_
        obtain ⟨x19, hzx19, hf⟩ := q_cl hf
        refine j_cv X (st := [bz_l x18]) (cM_ruleOf E F hzx19) gyM_ruleOf gv_M_ruleOf_81 rfl (by decide) (by decide) wd_1494 rfl (Nat.le_of_ble_eq_true rfl) dM_judges_141 ?_
        refine j_i2l X rfl dM_judges_144 ?_
        refine j_lcmp_ge X (tgt := 159) rfl rfl dM_judges_145 dM_judges_146 (by decide) hf (fun hf => ?_) (fun hf => ?_)
        · refine j_iload X dM_judges_159 0 rfl ?_
          refine j_if_eq X (tgt := 184) rfl dM_judges_161 (by decide) hf (fun hf => ?_) (fun hf => ?_)
          · cases hf
            exact j_vret X dM_judges_184 rfl rfl
          · refine j_aload_n X dM_judges_164 rfl 1 rfl ?_
            refine j_geta X gf_M_181_81 dM_judges_165 ?_
            refine j_iload_n X dM_judges_168 rfl 3 rfl ?_
            refine j_aload_n X dM_judges_169 rfl 1 rfl ?_
            refine j_iload_n X dM_judges_170 rfl 2 rfl ?_
            refine j_iload_n X dM_judges_171 rfl 4 rfl ?_
            obtain ⟨x20, hzx20, hf⟩ := q_cl hf
            refine j_cv X (st := [bz_i a2, bz_rf E 226]) (cM_isToParty E F hzx20) gyM_isToParty gv_M_isToParty_81 rfl (by decide) (by decide) wd_1738 rfl (Nat.le_of_ble_eq_true rfl) dM_judges_172 ?_
            show bz_J _ _ 175 _ _ _
            refine j_if_eq X (tgt := 182) rfl dM_judges_175 (by decide) hf (fun hf => ?_) (fun hf => ?_)
            · refine j_iconst X dM_judges_182 ?_
              refine j_iast X sh_226 dM_judges_183 hf (fun m21 hf => ?_)
              cases hf
              exact j_vret X dM_judges_184 rfl rfl
            · refine j_iconst X dM_judges_178 ?_
              refine j_goto X (tgt := 183) dM_judges_179 (by decide) ?_
              refine j_iast X sh_226 dM_judges_183 hf (fun m22 hf => ?_)
              cases hf
              exact j_vret X dM_judges_184 rfl rfl
        · refine j_aload_n X dM_judges_149 rfl 1 rfl ?_
          refine j_geta X gf_M_181_81 dM_judges_150 ?_
          refine j_iload_n X dM_judges_153 rfl 3 rfl ?_
          refine j_iconst X dM_judges_154 ?_
          refine j_iast X sh_226 dM_judges_155 hf (fun m23 hf => ?_)
          refine j_goto X (tgt := 184) dM_judges_156 (by decide) ?_
          cases hf
          exact j_vret X dM_judges_184 rfl rfl
      clear hf
      have hf := hf0
      clear hf0
      refine j_icmp_ge X (tgt := 128) rfl (w32_lit rfl) dM_judges_101 (by decide) hf (fun hf => ?_) (fun hf => ?_)
      · refine j_iconst X dM_judges_128 ?_
        exact J14 _ hf
      · refine j_aload_n X dM_judges_104 rfl 0 rfl ?_
        refine j_geta X gf_M_50_81 dM_judges_105 ?_
        refine j_iload_n X dM_judges_108 rfl 2 rfl ?_
        refine j_iald X sh_95 dM_judges_109 hf (fun x16 hf => ?_)
        refine j_iconst X dM_judges_110 ?_
        refine j_icmp_eq X (tgt := 128) rfl (w32_lit rfl) dM_judges_111 (by decide) hf (fun hf => ?_) (fun hf => ?_)
        · refine j_iconst X dM_judges_128 ?_
          exact J14 _ hf
        · refine j_aload_n X dM_judges_114 rfl 0 rfl ?_
          refine j_geta X gf_M_50_81 dM_judges_115 ?_
          refine j_iload_n X dM_judges_118 rfl 2 rfl ?_
          refine j_iald X sh_95 dM_judges_119 hf (fun x17 hf => ?_)
          refine j_iload_n X dM_judges_120 rfl 3 rfl ?_
          refine j_icmp_gt X (tgt := 128) rfl rfl dM_judges_121 (by decide) hf (fun hf => ?_) (fun hf => ?_)
          · refine j_iconst X dM_judges_128 ?_
            exact J14 _ hf
          · refine j_iconst X dM_judges_124 ?_
            refine j_goto X (tgt := 129) dM_judges_125 (by decide) ?_
            exact J14 _ hf
    · cases hf
      exact j_vret X dM_judges_97 rfl rfl
  clear hf
  have hf := hf0
  clear hf0
  refine j_icmp_eq X (tgt := 79) rfl (w32_lit rfl) dM_judges_25 (by decide) hf (fun hf => ?_) (fun hf => ?_)
  · exact j_sub [1, 2, 3, 4] rfl (J4 _ hf)
  · refine j_aload_n X dM_judges_28 rfl 1 rfl ?_
    refine j_geta X gf_M_178_81 dM_judges_29 ?_
    refine j_iload_n X dM_judges_32 rfl 3 rfl ?_
    refine j_aload_n X dM_judges_33 rfl 1 rfl ?_
    refine j_geta X gf_M_172_81 dM_judges_34 ?_
    refine j_iload_n X dM_judges_37 rfl 3 rfl ?_
    refine j_lald X sh_223 dM_judges_38 hf (fun x5 hf => ?_)
    show bz_J _ _ 39 _ _ _
    refine j_aload_n X dM_judges_39 rfl 1 rfl ?_
    refine j_geta X gf_M_175_81 dM_judges_40 ?_
    refine j_iload_n X dM_judges_43 rfl 3 rfl ?_
    refine j_lald X sh_224 dM_judges_44 hf (fun x6 hf => ?_)
    refine j_lsub X dM_judges_45 ?_
    refine j_last X sh_225 dM_judges_46 hf (fun m7 hf => ?_)
    refine j_aload_n X dM_judges_47 rfl 1 rfl ?_
    refine j_geta X gf_M_178_81 dM_judges_48 ?_
    show bz_J _ _ 51 _ _ _
    refine j_iload_n X dM_judges_51 rfl 3 rfl ?_
    refine j_lald X sh_225 dM_judges_52 hf (fun x8 hf => ?_)
    refine j_lconst X (v := 0) dM_judges_53 rfl ?_
    refine j_lcmp_ge X (tgt := 79) rfl (w64_lit rfl) dM_judges_54 dM_judges_55 (by decide) hf (fun hf => ?_) (fun hf => ?_)
    · exact j_sub [1, 2, 3, 4] rfl (J4 _ hf)
    · refine j_aload_n X dM_judges_58 rfl 1 rfl ?_
      refine j_geta X gf_M_178_81 dM_judges_59 ?_
      refine j_iload_n X dM_judges_62 rfl 3 rfl ?_
      refine j_lald X sh_225 dM_judges_63 hf (fun x9 hf => ?_)
      refine j_iload X dM_judges_64 0 rfl ?_
      refine j_ineg X dM_judges_66 ?_
      refine j_i2l X rfl dM_judges_67 ?_
      show bz_J _ _ 68 _ _ _
      refine j_lcmp_lt X (tgt := 79) rfl rfl dM_judges_68 dM_judges_69 (by decide) hf (fun hf => ?_) (fun hf => ?_)
      · exact j_sub [1, 2, 3, 4] rfl (J4 _ hf)
      · refine j_aload_n X dM_judges_72 rfl 1 rfl ?_
        refine j_geta X gf_M_178_81 dM_judges_73 ?_
        refine j_iload_n X dM_judges_76 rfl 3 rfl ?_
        refine j_lconst X (v := 0) dM_judges_77 rfl ?_
        refine j_last X sh_225 dM_judges_78 hf (fun m10 hf => ?_)
        exact j_sub [1, 2, 3, 4] rfl (J4 _ hf)
def M_asks0_L21 (F : Nat) : Nat → Int → Int → Int → bz_Mm → Option (bz_Mm)
  | 0, _, _, _, _ => none
  | n + 1, l1, l2, l4, M =>
    if w32 l4 < 20 then
    (cl_ (fM_judges F M l1 l4 l2) fun m3 =>
    M_asks0_L21 F n l1 l2 (l4 + 1) m3)
    else
    (some M)
theorem lM_asks0_L21 (E : bz_E) (F : Nat) {K : bz_K} {rv : Option Value} {M1 : bz_Mm} (X : bz_X K E prog_14_method_74_code 5 "UnitsWrongModel" none 6 156 rv M1) {l1 : Int} {l2 : Int} {res : (bz_Mm)}
    (kx : ∀ (M : bz_Mm), some M = some res → bz_J K 5 42 [] [] M) :
    ∀ (n : Nat) (l4 : Int) (M : bz_Mm), M_asks0_L21 F n l1 l2 l4 M = some res → bz_J K 5 21 [(4, bz_i l4), (0, bz_rf E 81), (1, bz_i l1), (2, bz_i l2)] [] M := by
  intro n
  induction n with
  | zero => intro l4 M hf; cases hf
  | succ n ih =>
    intro l4 M hf
    rw [M_asks0_L21] at hf
    refine j_iload X dM_asks0_21 0 rfl ?_
    refine j_bipush X dM_asks0_23 rfl ?_
    refine j_icmp_ge X (tgt := 42) rfl (w32_lit rfl) dM_asks0_25 (by decide) hf (fun hf => ?_) (fun hf => ?_)
    · exact j_sub [] rfl (kx _ hf)
    · refine j_aload_n X dM_asks0_28 rfl 1 rfl ?_
      refine j_iload_n X dM_asks0_29 rfl 2 rfl ?_
      refine j_iload X dM_asks0_30 0 rfl ?_
      refine j_iload_n X dM_asks0_32 rfl 3 rfl ?_
      obtain ⟨m3, hz, hf⟩ := q_cl hf
      refine j_cv X (st := []) (cM_judges E F hz) gyM_judges gv_M_judges_81 rfl (by decide) (by decide) wd_1734 rfl (Nat.le_of_ble_eq_true rfl) dM_asks0_33 ?_
      clear hz
      refine j_iinc X (y := l4 + 1) (lv' := [(4, bz_i (l4 + 1)), (0, bz_rf E 81), (1, bz_i l1), (2, bz_i l2)]) dM_asks0_36 0 rfl rfl (by decide) rfl ?_
      refine j_goto X (tgt := 21) dM_asks0_39 (by decide) ?_
      exact ih _ _ hf
def fM_asks0 (F : Nat) (M : bz_Mm) (a1 : Int) (a2 : Int) (a3 : Int) : Option (bz_Mm) :=
  cl_ (fM_through F M (fM_lastOver M a2) a2 0) fun m1 =>
  cl_ (fM_sums F m1 a1 a2 a3) fun m2 =>
  cl1_ (M_asks0_L21 F F a1 a2 0 m2) fun m4 =>
  some m4
set_option maxHeartbeats 4000000 in
set_option maxRecDepth 20000 in
theorem cM_asks0 (E : bz_E) (F : Nat)  {M : bz_Mm} {a1 : Int} {a2 : Int} {a3 : Int} {x0 : bz_Mm} (hf : fM_asks0 F M a1 a2 a3 = some x0) : bz_Ct E yM_asks0 (.code yM_asks0 prog_14_method_74_code 5 none) 6 156 [bz_rf E 81, bz_i a1, bz_i a2, bz_i a3] M (none) x0 := by
  refine bz_met (by decide +kernel) (Nat.le_of_ble_eq_true rfl) (fun K X => ?_)
  have X : bz_X K E prog_14_method_74_code 5 "UnitsWrongModel" none 6 156 _ _ := X
  unfold fM_asks0 at hf
  show bz_J K 5 0 [(0, bz_rf E 81), (1, bz_i a1), (2, bz_i a2), (3, bz_i a3)] [] M
  refine j_aload_n X dM_asks0_0 rfl 0 rfl ?_
  refine j_aload_n X dM_asks0_1 rfl 0 rfl ?_
  refine j_iload_n X dM_asks0_2 rfl 2 rfl ?_
  refine j_cv X (st := [bz_rf E 81]) (cM_lastOver E) gyM_lastOver gv_M_lastOver_81 rfl (by decide) (by decide) wd_1698 rfl (Nat.le_of_ble_eq_true rfl) dM_asks0_3 ?_
  refine j_iload_n X dM_asks0_6 rfl 2 rfl ?_
  refine j_iconst X dM_asks0_7 ?_
  obtain ⟨m1, hz, hf⟩ := q_cl hf
  refine j_cv X (st := []) (cM_through E F hz) gyM_through gv_M_through_81 rfl (by decide) (by decide) wd_1614 rfl (Nat.le_of_ble_eq_true rfl) dM_asks0_8 ?_
  clear hz
  show bz_J _ _ 11 _ _ _
  refine j_aload_n X dM_asks0_11 rfl 0 rfl ?_
  refine j_iload_n X dM_asks0_12 rfl 1 rfl ?_
  refine j_iload_n X dM_asks0_13 rfl 2 rfl ?_
  refine j_iload_n X dM_asks0_14 rfl 3 rfl ?_
  obtain ⟨m2, hz, hf⟩ := q_cl hf
  refine j_cv X (st := []) (cM_sums E F hz) gyM_sums gv_M_sums_81 rfl (by decide) (by decide) wd_1730 rfl (Nat.le_of_ble_eq_true rfl) dM_asks0_15 ?_
  clear hz
  refine j_iconst X dM_asks0_18 ?_
  refine j_istore X (lv' := [(4, bz_i 0), (0, bz_rf E 81), (1, bz_i a1), (2, bz_i a2), (3, bz_i a3)]) dM_asks0_19 (by decide) rfl ?_
  obtain ⟨res5, hz5, hk5⟩ := q_l1 hf
  clear hf
  refine j_sub [0, 1, 2, 3] rfl ?_
  refine lM_asks0_L21 E F X (fun m4 he => ?_) F 0 m2 hz5
  have hf := hk5 _ he
  cases hf
  exact j_vret X dM_asks0_42 rfl rfl
def fM_asks1 (F : Nat) (M : bz_Mm) (a1 : Int) (a2 : Int) : Option (bz_Mm) :=
  cl_ (fM_ruleOf F M a1 a2 4) fun x1 =>
  cl_ (fM_asks0 F M a1 a2 x1) fun m2 =>
  some m2
set_option maxHeartbeats 4000000 in
set_option maxRecDepth 20000 in
theorem cM_asks1 (E : bz_E) (F : Nat)  {M : bz_Mm} {a1 : Int} {a2 : Int} {x0 : bz_Mm} (hf : fM_asks1 F M a1 a2 = some x0) : bz_Ct E yM_asks1 (.code yM_asks1 prog_14_method_75_code 3 none) 7 180 [bz_rf E 81, bz_i a1, bz_i a2] M (none) x0 := by
  refine bz_met (by decide +kernel) (Nat.le_of_ble_eq_true rfl) (fun K X => ?_)
  have X : bz_X K E prog_14_method_75_code 3 "UnitsWrongModel" none 7 180 _ _ := X
  unfold fM_asks1 at hf
  show bz_J K 3 0 [(0, bz_rf E 81), (1, bz_i a1), (2, bz_i a2)] [] M
  refine j_aload_n X dM_asks1_0 rfl 0 rfl ?_
  refine j_iload_n X dM_asks1_1 rfl 1 rfl ?_
  refine j_iload_n X dM_asks1_2 rfl 2 rfl ?_
  refine j_aload_n X dM_asks1_3 rfl 0 rfl ?_
  refine j_iload_n X dM_asks1_4 rfl 1 rfl ?_
  refine j_iload_n X dM_asks1_5 rfl 2 rfl ?_
  refine j_iconst X dM_asks1_6 ?_
  show bz_J _ _ 7 _ _ _
  obtain ⟨x1, hzx1, hf⟩ := q_cl hf
  refine j_cv X (st := [bz_i a2, bz_i a1, bz_rf E 81]) (cM_ruleOf E F hzx1) gyM_ruleOf gv_M_ruleOf_81 rfl (by decide) (by decide) wd_1494 rfl (Nat.le_of_ble_eq_true rfl) dM_asks1_7 ?_
  obtain ⟨m2, hz, hf⟩ := q_cl hf
  refine j_cv X (st := []) (cM_asks0 E F hz) gyM_asks0 gv_M_asks0_81 rfl (by decide) (by decide) wd_1726 rfl (Nat.le_of_ble_eq_true rfl) dM_asks1_10 ?_
  clear hz
  cases hf
  exact j_vret X dM_asks1_13 rfl rfl
def fM_claim (F : Nat) (M : bz_Mm) (a1 : Int) (a2 : Int) (a3 : Int) (a4 : Int) : Option (Int × bz_Mm) :=
  lt_ (fM_placeOf M a1) fun l5 =>
  if w32 l5 = (-1) then
  (some (((-2147483648), M)))
  else
  (if w32 (fM_canHold M l5 a2) = 0 then
  (some (((-2147483648), M)))
  else
  (if w32 (fM_isKnownDay M a3) = 0 then
  (some (((-2147483648), M)))
  else
  (if w32 (fM_in (w32 a4) 0 3) = 0 then
  (some (((-2147483648), M)))
  else
  (cl_ (fM_asks1 F M a2 a3) fun m1 =>
  if w32 a4 = 0 then
  (rd_ m1 223 l5 20 fun x5 =>
  some ((fM_told x5, m1)))
  else
  (if w32 a4 = 1 then
  (rd_ m1 224 l5 20 fun x4 =>
  some ((fM_told x4, m1)))
  else
  (if w32 a4 = 2 then
  (rd_ m1 225 l5 20 fun x3 =>
  some ((fM_told x3, m1)))
  else
  (rd_ m1 226 l5 20 fun x2 =>
  some ((x2, m1)))))))))
set_option maxHeartbeats 4000000 in
set_option maxRecDepth 20000 in
theorem cM_claim (E : bz_E) (F : Nat)  {M : bz_Mm} {a1 : Int} {a2 : Int} {a3 : Int} {a4 : Int} {x0 : Int × bz_Mm} (hf : fM_claim F M a1 a2 a3 a4 = some x0) : bz_Ct E yM_claim (.code yM_claim prog_14_method_77_code 6 (some .int)) 8 202 [bz_rf E 81, bz_i a1, bz_i a2, bz_i a3, bz_i a4] M (some (bz_i x0.1)) x0.2 := by
  refine bz_met (by decide +kernel) (Nat.le_of_ble_eq_true rfl) (fun K X => ?_)
  have X : bz_X K E prog_14_method_77_code 6 "UnitsWrongModel" (some .int) 8 202 _ _ := X
  unfold fM_claim at hf
  show bz_J K 6 0 [(0, bz_rf E 81), (1, bz_i a1), (2, bz_i a2), (3, bz_i a3), (4, bz_i a4)] [] M
  refine j_aload_n X dM_claim_0 rfl 0 rfl ?_
  refine j_iload_n X dM_claim_1 rfl 1 rfl ?_
  refine j_cv X (st := []) (cM_placeOf E) gyM_placeOf gv_M_placeOf_81 rfl (by decide) (by decide) wd_1489 rfl (Nat.le_of_ble_eq_true rfl) dM_claim_2 ?_
  refine j_lt (g := bz_i) hf (fun l5 hf => ?_)
  refine j_istore X (lv' := [(5, bz_i l5), (0, bz_rf E 81), (1, bz_i a1), (2, bz_i a2), (3, bz_i a3), (4, bz_i a4)]) dM_claim_5 (by decide) rfl ?_
  refine j_iload X dM_claim_7 0 rfl ?_
  refine j_iconst X dM_claim_9 ?_
  refine j_icmp_eq X (tgt := 44) rfl (w32_lit rfl) dM_claim_10 (by decide) hf (fun hf => ?_) (fun hf => ?_)
  · refine j_ldcw X (v := -2147483648) wd_1448 dM_claim_44 ?_
    cases hf
    exact j_iret X dM_claim_47 rfl rfl
  · refine j_aload_n X dM_claim_13 rfl 1 rfl ?_
    refine j_iload X dM_claim_14 0 rfl ?_
    refine j_iload_n X dM_claim_16 rfl 3 rfl ?_
    refine j_cv X (st := []) (cM_canHold E) gyM_canHold gv_M_canHold_81 rfl (by decide) (by decide) wd_1710 rfl (Nat.le_of_ble_eq_true rfl) dM_claim_17 ?_
    refine j_if_eq X (tgt := 44) rfl dM_claim_20 (by decide) hf (fun hf => ?_) (fun hf => ?_)
    · refine j_ldcw X (v := -2147483648) wd_1448 dM_claim_44 ?_
      cases hf
      exact j_iret X dM_claim_47 rfl rfl
    · refine j_aload_n X dM_claim_23 rfl 1 rfl ?_
      refine j_iload_n X dM_claim_24 rfl 4 rfl ?_
      refine j_cv X (st := []) (cM_isKnownDay E) gyM_isKnownDay gv_M_isKnownDay_81 rfl (by decide) (by decide) wd_1718 rfl (Nat.le_of_ble_eq_true rfl) dM_claim_25 ?_
      refine j_if_eq X (tgt := 44) rfl dM_claim_28 (by decide) hf (fun hf => ?_) (fun hf => ?_)
      · refine j_ldcw X (v := -2147483648) wd_1448 dM_claim_44 ?_
        cases hf
        exact j_iret X dM_claim_47 rfl rfl
      · refine j_iload X dM_claim_31 5 rfl ?_
        refine j_i2l X rfl dM_claim_33 ?_
        refine j_lconst X (v := 0) dM_claim_34 rfl ?_
        refine j_ldc2 X (v := 3) wd_1430 dM_claim_35 ?_
        refine j_cs X (st := []) (cM_in E) gyM_in wd_1409 rfl (by decide) (by decide) wd_1408 rfl (Nat.le_of_ble_eq_true rfl) dM_claim_38 ?_
        refine j_if_ne X (tgt := 48) rfl dM_claim_41 (by decide) hf (fun hf => ?_) (fun hf => ?_)
        · refine j_aload_n X dM_claim_48 rfl 1 rfl ?_
          refine j_iload_n X dM_claim_49 rfl 3 rfl ?_
          refine j_iload_n X dM_claim_50 rfl 4 rfl ?_
          obtain ⟨m1, hz, hf⟩ := q_cl hf
          refine j_cv X (st := []) (cM_asks1 E F hz) gyM_asks1 gv_M_asks1_81 rfl (by decide) (by decide) wd_1722 rfl (Nat.le_of_ble_eq_true rfl) dM_claim_51 ?_
          clear hz
          refine j_iload X dM_claim_54 5 rfl ?_
          refine j_if_ne X (tgt := 72) rfl dM_claim_56 (by decide) hf (fun hf => ?_) (fun hf => ?_)
          · refine j_iload X dM_claim_72 5 rfl ?_
            refine j_iconst X dM_claim_74 ?_
            refine j_icmp_ne X (tgt := 91) rfl (w32_lit rfl) dM_claim_75 (by decide) hf (fun hf => ?_) (fun hf => ?_)
            · refine j_iload X dM_claim_91 5 rfl ?_
              refine j_iconst X dM_claim_93 ?_
              refine j_icmp_ne X (tgt := 110) rfl (w32_lit rfl) dM_claim_94 (by decide) hf (fun hf => ?_) (fun hf => ?_)
              · refine j_aload_n X dM_claim_110 rfl 1 rfl ?_
                refine j_geta X gf_M_181_81 dM_claim_111 ?_
                refine j_iload X dM_claim_114 0 rfl ?_
                refine j_iald X sh_226 dM_claim_116 hf (fun x2 hf => ?_)
                cases hf
                exact j_iret X dM_claim_117 rfl rfl
              · refine j_aload_n X dM_claim_97 rfl 1 rfl ?_
                refine j_geta X gf_M_178_81 dM_claim_98 ?_
                refine j_iload X dM_claim_101 0 rfl ?_
                refine j_lald X sh_225 dM_claim_103 hf (fun x3 hf => ?_)
                refine j_cs X (st := []) (cM_told E) gyM_told wd_1679 rfl (by decide) (by decide) wd_1678 rfl (Nat.le_of_ble_eq_true rfl) dM_claim_104 ?_
                refine j_goto X (tgt := 117) dM_claim_107 (by decide) ?_
                cases hf
                exact j_iret X dM_claim_117 rfl rfl
            · refine j_aload_n X dM_claim_78 rfl 1 rfl ?_
              refine j_geta X gf_M_175_81 dM_claim_79 ?_
              refine j_iload X dM_claim_82 0 rfl ?_
              refine j_lald X sh_224 dM_claim_84 hf (fun x4 hf => ?_)
              refine j_cs X (st := []) (cM_told E) gyM_told wd_1679 rfl (by decide) (by decide) wd_1678 rfl (Nat.le_of_ble_eq_true rfl) dM_claim_85 ?_
              refine j_goto X (tgt := 117) dM_claim_88 (by decide) ?_
              cases hf
              exact j_iret X dM_claim_117 rfl rfl
          · refine j_aload_n X dM_claim_59 rfl 1 rfl ?_
            refine j_geta X gf_M_172_81 dM_claim_60 ?_
            refine j_iload X dM_claim_63 0 rfl ?_
            refine j_lald X sh_223 dM_claim_65 hf (fun x5 hf => ?_)
            refine j_cs X (st := []) (cM_told E) gyM_told wd_1679 rfl (by decide) (by decide) wd_1678 rfl (Nat.le_of_ble_eq_true rfl) dM_claim_66 ?_
            refine j_goto X (tgt := 117) dM_claim_69 (by decide) ?_
            cases hf
            exact j_iret X dM_claim_117 rfl rfl
        · refine j_ldcw X (v := -2147483648) wd_1448 dM_claim_44 ?_
          cases hf
          exact j_iret X dM_claim_47 rfl rfl
def fM_goesTo (F : Nat) (M : bz_Mm) (a1 : Int) (a2 : Int) (a3 : Int) : Option (Int) :=
  rd_ M 226 a2 20 fun x1 =>
  if w32 x1 = 1 then
  (cl_ (fM_ruleOf F M a1 a3 6) fun x4 =>
  some x4)
  else
  (rd_ M 226 a2 20 fun x2 =>
  if w32 x2 = 3 then
  (cl_ (fM_ruleOf F M a1 a3 9) fun x3 =>
  some x3)
  else
  (some ((-1))))
set_option maxHeartbeats 4000000 in
set_option maxRecDepth 20000 in
theorem cM_goesTo (E : bz_E) (F : Nat)  {M : bz_Mm} {a1 : Int} {a2 : Int} {a3 : Int} {x0 : Int} (hf : fM_goesTo F M a1 a2 a3 = some x0) : bz_Ct E yM_goesTo (.code yM_goesTo prog_14_method_78_code 4 (some .int)) 1 25 [bz_rf E 81, bz_i a1, bz_i a2, bz_i a3] M (some (bz_i x0)) M := by
  refine bz_met (by decide +kernel) (Nat.le_of_ble_eq_true rfl) (fun K X => ?_)
  have X : bz_X K E prog_14_method_78_code 4 "UnitsWrongModel" (some .int) 1 25 _ _ := X
  unfold fM_goesTo at hf
  show bz_J K 4 0 [(0, bz_rf E 81), (1, bz_i a1), (2, bz_i a2), (3, bz_i a3)] [] M
  refine j_aload_n X dM_goesTo_0 rfl 0 rfl ?_
  refine j_geta X gf_M_181_81 dM_goesTo_1 ?_
  refine j_iload_n X dM_goesTo_4 rfl 2 rfl ?_
  refine j_iald X sh_226 dM_goesTo_5 hf (fun x1 hf => ?_)
  refine j_iconst X dM_goesTo_6 ?_
  refine j_icmp_ne X (tgt := 21) rfl (w32_lit rfl) dM_goesTo_7 (by decide) hf (fun hf => ?_) (fun hf => ?_)
  · refine j_aload_n X dM_goesTo_21 rfl 0 rfl ?_
    refine j_geta X gf_M_181_81 dM_goesTo_22 ?_
    refine j_iload_n X dM_goesTo_25 rfl 2 rfl ?_
    refine j_iald X sh_226 dM_goesTo_26 hf (fun x2 hf => ?_)
    refine j_iconst X dM_goesTo_27 ?_
    refine j_icmp_ne X (tgt := 42) rfl (w32_lit rfl) dM_goesTo_28 (by decide) hf (fun hf => ?_) (fun hf => ?_)
    · refine j_iconst X dM_goesTo_42 ?_
      cases hf
      exact j_iret X dM_goesTo_43 rfl rfl
    · refine j_aload_n X dM_goesTo_31 rfl 0 rfl ?_
      refine j_iload_n X dM_goesTo_32 rfl 1 rfl ?_
      refine j_iload_n X dM_goesTo_33 rfl 3 rfl ?_
      refine j_bipush X dM_goesTo_34 rfl ?_
      obtain ⟨x3, hzx3, hf⟩ := q_cl hf
      refine j_cv X (st := []) (cM_ruleOf E F hzx3) gyM_ruleOf gv_M_ruleOf_81 rfl (by decide) (by decide) wd_1494 rfl (Nat.le_of_ble_eq_true rfl) dM_goesTo_36 ?_
      refine j_goto X (tgt := 43) dM_goesTo_39 (by decide) ?_
      cases hf
      exact j_iret X dM_goesTo_43 rfl rfl
  · refine j_aload_n X dM_goesTo_10 rfl 0 rfl ?_
    refine j_iload_n X dM_goesTo_11 rfl 1 rfl ?_
    refine j_iload_n X dM_goesTo_12 rfl 3 rfl ?_
    refine j_bipush X dM_goesTo_13 rfl ?_
    obtain ⟨x4, hzx4, hf⟩ := q_cl hf
    refine j_cv X (st := []) (cM_ruleOf E F hzx4) gyM_ruleOf gv_M_ruleOf_81 rfl (by decide) (by decide) wd_1494 rfl (Nat.le_of_ble_eq_true rfl) dM_goesTo_15 ?_
    refine j_goto X (tgt := 43) dM_goesTo_18 (by decide) ?_
    cases hf
    exact j_iret X dM_goesTo_43 rfl rfl
def M_houseOwes_L31 (F : Nat) : Nat → bz_Mm → Int → Int → Int → Int → Option (Int)
  | 0, _, _, _, _, _ => none
  | n + 1, M, l1, l2, l7, l5 =>
    if w32 l7 < 20 then
    (rd_ M 225 l7 20 fun x4 =>
    if w64 x4 < 0 then
    (rd_ M 225 l7 20 fun x5 =>
    lt_ (l5 + x5) fun l5 =>
    M_houseOwes_L31 F n M l1 l2 (l7 + 1) l5)
    else
    (rd_ M 226 l7 20 fun x6 =>
    if w32 x6 = 0 then
    (rd_ M 225 l7 20 fun x7 =>
    lt_ (l5 + x7) fun l5 =>
    M_houseOwes_L31 F n M l1 l2 (l7 + 1) l5)
    else
    (rd_ M 226 l7 20 fun x8 =>
    if w32 x8 = 2 then
    (rd_ M 225 l7 20 fun x9 =>
    lt_ (l5 + x9) fun l5 =>
    M_houseOwes_L31 F n M l1 l2 (l7 + 1) l5)
    else
    (cl_ (fM_goesTo F M l1 l7 l2) fun x10 =>
    if 0 < w32 x10 then
    (rd_ M 225 l7 20 fun x11 =>
    lt_ (l5 + x11) fun l5 =>
    M_houseOwes_L31 F n M l1 l2 (l7 + 1) l5)
    else
    (M_houseOwes_L31 F n M l1 l2 (l7 + 1) l5)))))
    else
    (some l5)
theorem lM_houseOwes_L31 (E : bz_E) (F : Nat) {K : bz_K} {rv : Option Value} {M1 : bz_Mm} (X : bz_X K E prog_14_method_79_code 8 "UnitsWrongModel" (some .long) 6 156 rv M1) {M : bz_Mm} {l1 : Int} {l2 : Int} {res : (Int)}
    (kx : ∀ (l5 : Int), some l5 = some res → bz_J K 8 100 [(5, bz_l l5)] [] M) :
    ∀ (n : Nat) (l7 : Int) (l5 : Int), M_houseOwes_L31 F n M l1 l2 l7 l5 = some res → bz_J K 8 31 [(7, bz_i l7), (5, bz_l l5), (0, bz_rf E 81), (1, bz_i l1), (2, bz_i l2)] [] M := by
  intro n
  induction n with
  | zero => intro l7 l5 hf; cases hf
  | succ n ih =>
    intro l7 l5 hf
    rw [M_houseOwes_L31] at hf
    refine j_iload X dM_houseOwes_31 0 rfl ?_
    refine j_bipush X dM_houseOwes_33 rfl ?_
    refine j_icmp_ge X (tgt := 100) rfl (w32_lit rfl) dM_houseOwes_35 (by decide) hf (fun hf => ?_) (fun hf => ?_)
    · exact j_sub [1] rfl (kx _ hf)
    · refine j_aload_n X dM_houseOwes_38 rfl 2 rfl ?_
      refine j_geta X gf_M_178_81 dM_houseOwes_39 ?_
      refine j_iload X dM_houseOwes_42 0 rfl ?_
      refine j_lald X sh_225 dM_houseOwes_44 hf (fun x4 hf => ?_)
      refine j_lconst X (v := 0) dM_houseOwes_45 rfl ?_
      refine j_lcmp_lt X (tgt := 82) rfl (w64_lit rfl) dM_houseOwes_46 dM_houseOwes_47 (by decide) hf (fun hf => ?_) (fun hf => ?_)
      · refine j_lload X dM_houseOwes_82 1 rfl ?_
        refine j_aload_n X dM_houseOwes_84 rfl 2 rfl ?_
        refine j_geta X gf_M_178_81 dM_houseOwes_85 ?_
        refine j_iload X dM_houseOwes_88 0 rfl ?_
        refine j_lald X sh_225 dM_houseOwes_90 hf (fun x5 hf => ?_)
        refine j_ladd X dM_houseOwes_91 ?_
        refine j_lt (g := bz_l) hf (fun l5 hf => ?_)
        refine j_lstore X (lv' := [(5, bz_l l5), (7, bz_i l7), (0, bz_rf E 81), (1, bz_i l1), (2, bz_i l2)]) dM_houseOwes_92 (by decide) rfl ?_
        show bz_J _ _ 94 _ _ _
        refine j_iinc X (y := l7 + 1) (lv' := [(7, bz_i (l7 + 1)), (5, bz_l l5), (0, bz_rf E 81), (1, bz_i l1), (2, bz_i l2)]) dM_houseOwes_94 1 rfl rfl (by decide) rfl ?_
        refine j_goto X (tgt := 31) dM_houseOwes_97 (by decide) ?_
        exact ih _ _ hf
      · refine j_aload_n X dM_houseOwes_50 rfl 2 rfl ?_
        refine j_geta X gf_M_181_81 dM_houseOwes_51 ?_
        refine j_iload X dM_houseOwes_54 0 rfl ?_
        refine j_iald X sh_226 dM_houseOwes_56 hf (fun x6 hf => ?_)
        refine j_if_eq X (tgt := 82) rfl dM_houseOwes_57 (by decide) hf (fun hf => ?_) (fun hf => ?_)
        · refine j_lload X dM_houseOwes_82 1 rfl ?_
          refine j_aload_n X dM_houseOwes_84 rfl 2 rfl ?_
          refine j_geta X gf_M_178_81 dM_houseOwes_85 ?_
          refine j_iload X dM_houseOwes_88 0 rfl ?_
          refine j_lald X sh_225 dM_houseOwes_90 hf (fun x7 hf => ?_)
          refine j_ladd X dM_houseOwes_91 ?_
          refine j_lt (g := bz_l) hf (fun l5 hf => ?_)
          refine j_lstore X (lv' := [(5, bz_l l5), (7, bz_i l7), (0, bz_rf E 81), (1, bz_i l1), (2, bz_i l2)]) dM_houseOwes_92 (by decide) rfl ?_
          show bz_J _ _ 94 _ _ _
          refine j_iinc X (y := l7 + 1) (lv' := [(7, bz_i (l7 + 1)), (5, bz_l l5), (0, bz_rf E 81), (1, bz_i l1), (2, bz_i l2)]) dM_houseOwes_94 1 rfl rfl (by decide) rfl ?_
          refine j_goto X (tgt := 31) dM_houseOwes_97 (by decide) ?_
          exact ih _ _ hf
        · refine j_aload_n X dM_houseOwes_60 rfl 2 rfl ?_
          refine j_geta X gf_M_181_81 dM_houseOwes_61 ?_
          refine j_iload X dM_houseOwes_64 0 rfl ?_
          refine j_iald X sh_226 dM_houseOwes_66 hf (fun x8 hf => ?_)
          refine j_iconst X dM_houseOwes_67 ?_
          refine j_icmp_eq X (tgt := 82) rfl (w32_lit rfl) dM_houseOwes_68 (by decide) hf (fun hf => ?_) (fun hf => ?_)
          · refine j_lload X dM_houseOwes_82 1 rfl ?_
            refine j_aload_n X dM_houseOwes_84 rfl 2 rfl ?_
            refine j_geta X gf_M_178_81 dM_houseOwes_85 ?_
            refine j_iload X dM_houseOwes_88 0 rfl ?_
            refine j_lald X sh_225 dM_houseOwes_90 hf (fun x9 hf => ?_)
            refine j_ladd X dM_houseOwes_91 ?_
            refine j_lt (g := bz_l) hf (fun l5 hf => ?_)
            refine j_lstore X (lv' := [(5, bz_l l5), (7, bz_i l7), (0, bz_rf E 81), (1, bz_i l1), (2, bz_i l2)]) dM_houseOwes_92 (by decide) rfl ?_
            show bz_J _ _ 94 _ _ _
            refine j_iinc X (y := l7 + 1) (lv' := [(7, bz_i (l7 + 1)), (5, bz_l l5), (0, bz_rf E 81), (1, bz_i l1), (2, bz_i l2)]) dM_houseOwes_94 1 rfl rfl (by decide) rfl ?_
            refine j_goto X (tgt := 31) dM_houseOwes_97 (by decide) ?_
            exact ih _ _ hf
          · refine j_aload_n X dM_houseOwes_71 rfl 2 rfl ?_
            refine j_iload_n X dM_houseOwes_72 rfl 3 rfl ?_
            refine j_iload X dM_houseOwes_73 0 rfl ?_
            refine j_iload_n X dM_houseOwes_75 rfl 4 rfl ?_
            obtain ⟨x10, hzx10, hf⟩ := q_cl hf
            refine j_cv X (st := []) (cM_goesTo E F hzx10) gyM_goesTo gv_M_goesTo_81 rfl (by decide) (by decide) wd_1750 rfl (Nat.le_of_ble_eq_true rfl) dM_houseOwes_76 ?_
            refine j_if_le X (tgt := 94) rfl dM_houseOwes_79 (by decide) hf (fun hf => ?_) (fun hf => ?_)
            · refine j_iinc X (y := l7 + 1) (lv' := [(7, bz_i (l7 + 1)), (5, bz_l l5), (0, bz_rf E 81), (1, bz_i l1), (2, bz_i l2)]) dM_houseOwes_94 0 rfl rfl (by decide) rfl ?_
              refine j_goto X (tgt := 31) dM_houseOwes_97 (by decide) ?_
              exact ih _ _ hf
            · refine j_lload X dM_houseOwes_82 1 rfl ?_
              refine j_aload_n X dM_houseOwes_84 rfl 2 rfl ?_
              refine j_geta X gf_M_178_81 dM_houseOwes_85 ?_
              refine j_iload X dM_houseOwes_88 0 rfl ?_
              refine j_lald X sh_225 dM_houseOwes_90 hf (fun x11 hf => ?_)
              refine j_ladd X dM_houseOwes_91 ?_
              refine j_lt (g := bz_l) hf (fun l5 hf => ?_)
              refine j_lstore X (lv' := [(5, bz_l l5), (7, bz_i l7), (0, bz_rf E 81), (1, bz_i l1), (2, bz_i l2)]) dM_houseOwes_92 (by decide) rfl ?_
              show bz_J _ _ 94 _ _ _
              refine j_iinc X (y := l7 + 1) (lv' := [(7, bz_i (l7 + 1)), (5, bz_l l5), (0, bz_rf E 81), (1, bz_i l1), (2, bz_i l2)]) dM_houseOwes_94 1 rfl rfl (by decide) rfl ?_
              refine j_goto X (tgt := 31) dM_houseOwes_97 (by decide) ?_
              exact ih _ _ hf
def fM_houseOwes (F : Nat) (M : bz_Mm) (a1 : Int) (a2 : Int) : Option (Int × bz_Mm) :=
  rd_ M 188 a1 4 fun x1 =>
  cl_ (fM_through F M (fM_lastOver M a2) a2 2) fun m2 =>
  rd_ m2 188 a1 4 fun x3 =>
  lt_ (x1 - x3) fun l5 =>
  cl1_ (M_houseOwes_L31 F F m2 a1 a2 0 l5) fun l5 =>
  some ((l5, m2))
set_option maxHeartbeats 4000000 in
set_option maxRecDepth 20000 in
theorem cM_houseOwes (E : bz_E) (F : Nat)  {M : bz_Mm} {a1 : Int} {a2 : Int} {x0 : Int × bz_Mm} (hf : fM_houseOwes F M a1 a2 = some x0) : bz_Ct E yM_houseOwes (.code yM_houseOwes prog_14_method_79_code 8 (some .long)) 6 156 [bz_rf E 81, bz_i a1, bz_i a2] M (some (bz_l x0.1)) x0.2 := by
  refine bz_met (by decide +kernel) (Nat.le_of_ble_eq_true rfl) (fun K X => ?_)
  have X : bz_X K E prog_14_method_79_code 8 "UnitsWrongModel" (some .long) 6 156 _ _ := X
  unfold fM_houseOwes at hf
  show bz_J K 8 0 [(0, bz_rf E 81), (1, bz_i a1), (2, bz_i a2)] [] M
  refine j_aload_n X dM_houseOwes_0 rfl 0 rfl ?_
  refine j_geta X gf_M_137_81 dM_houseOwes_1 ?_
  refine j_iload_n X dM_houseOwes_4 rfl 1 rfl ?_
  refine j_lald X sh_188 dM_houseOwes_5 hf (fun x1 hf => ?_)
  refine j_lstore_n X (lv' := [(3, bz_l x1), (0, bz_rf E 81), (1, bz_i a1), (2, bz_i a2)]) dM_houseOwes_6 rfl (by decide) rfl ?_
  refine j_aload_n X dM_houseOwes_7 rfl 1 rfl ?_
  refine j_aload_n X dM_houseOwes_8 rfl 1 rfl ?_
  show bz_J _ _ 9 _ _ _
  refine j_iload_n X dM_houseOwes_9 rfl 3 rfl ?_
  refine j_cv X (st := [bz_rf E 81]) (cM_lastOver E) gyM_lastOver gv_M_lastOver_81 rfl (by decide) (by decide) wd_1698 rfl (Nat.le_of_ble_eq_true rfl) dM_houseOwes_10 ?_
  refine j_iload_n X dM_houseOwes_13 rfl 3 rfl ?_
  refine j_iconst X dM_houseOwes_14 ?_
  obtain ⟨m2, hz, hf⟩ := q_cl hf
  refine j_cv X (st := []) (cM_through E F hz) gyM_through gv_M_through_81 rfl (by decide) (by decide) wd_1614 rfl (Nat.le_of_ble_eq_true rfl) dM_houseOwes_15 ?_
  clear hz
  refine j_lload_n X dM_houseOwes_18 rfl 0 rfl ?_
  refine j_aload_n X dM_houseOwes_19 rfl 1 rfl ?_
  refine j_geta X gf_M_137_81 dM_houseOwes_20 ?_
  show bz_J _ _ 23 _ _ _
  refine j_iload_n X dM_houseOwes_23 rfl 2 rfl ?_
  refine j_lald X sh_188 dM_houseOwes_24 hf (fun x3 hf => ?_)
  refine j_lsub X dM_houseOwes_25 ?_
  refine j_lt (g := bz_l) hf (fun l5 hf => ?_)
  refine j_lstore X (lv' := [(5, bz_l l5), (3, bz_l x1), (0, bz_rf E 81), (1, bz_i a1), (2, bz_i a2)]) dM_houseOwes_26 (by decide) rfl ?_
  refine j_iconst X dM_houseOwes_28 ?_
  refine j_istore X (lv' := [(7, bz_i 0), (5, bz_l l5), (3, bz_l x1), (0, bz_rf E 81), (1, bz_i a1), (2, bz_i a2)]) dM_houseOwes_29 (by decide) rfl ?_
  obtain ⟨res12, hz12, hk12⟩ := q_l1 hf
  clear hf
  refine j_sub [0, 1, 3, 4, 5] rfl ?_
  refine lM_houseOwes_L31 E F X (fun l5 he => ?_) F 0 l5 hz12
  have hf := hk12 _ he
  refine j_lload X dM_houseOwes_100 0 rfl ?_
  cases hf
  exact j_lret X dM_houseOwes_102 rfl rfl
def fM_house (F : Nat) (M : bz_Mm) (a1 : Int) (a2 : Int) : Option (Int × bz_Mm) :=
  if w32 (fM_isFund M a1) = 0 then
  (some (((-2147483648), M)))
  else
  (if w32 (fM_isKnownDay M a2) = 0 then
  (some (((-2147483648), M)))
  else
  (cl_ (fM_asks1 F M a1 a2) fun m1 =>
  cl2_ (fM_houseOwes F m1 a1 a2) fun x3 m2 =>
  some ((fM_told x3, m2))))
set_option maxHeartbeats 4000000 in
set_option maxRecDepth 20000 in
theorem cM_house (E : bz_E) (F : Nat)  {M : bz_Mm} {a1 : Int} {a2 : Int} {x0 : Int × bz_Mm} (hf : fM_house F M a1 a2 = some x0) : bz_Ct E yM_house (.code yM_house prog_14_method_80_code 3 (some .int)) 8 202 [bz_rf E 81, bz_i a1, bz_i a2] M (some (bz_i x0.1)) x0.2 := by
  refine bz_met (by decide +kernel) (Nat.le_of_ble_eq_true rfl) (fun K X => ?_)
  have X : bz_X K E prog_14_method_80_code 3 "UnitsWrongModel" (some .int) 8 202 _ _ := X
  unfold fM_house at hf
  show bz_J K 3 0 [(0, bz_rf E 81), (1, bz_i a1), (2, bz_i a2)] [] M
  refine j_aload_n X dM_house_0 rfl 0 rfl ?_
  refine j_iload_n X dM_house_1 rfl 1 rfl ?_
  refine j_cv X (st := []) (cM_isFund E) gyM_isFund gv_M_isFund_81 rfl (by decide) (by decide) wd_1479 rfl (Nat.le_of_ble_eq_true rfl) dM_house_2 ?_
  refine j_if_eq X (tgt := 16) rfl dM_house_5 (by decide) hf (fun hf => ?_) (fun hf => ?_)
  · refine j_ldcw X (v := -2147483648) wd_1448 dM_house_16 ?_
    cases hf
    exact j_iret X dM_house_19 rfl rfl
  · refine j_aload_n X dM_house_8 rfl 0 rfl ?_
    refine j_iload_n X dM_house_9 rfl 2 rfl ?_
    refine j_cv X (st := []) (cM_isKnownDay E) gyM_isKnownDay gv_M_isKnownDay_81 rfl (by decide) (by decide) wd_1718 rfl (Nat.le_of_ble_eq_true rfl) dM_house_10 ?_
    refine j_if_ne X (tgt := 20) rfl dM_house_13 (by decide) hf (fun hf => ?_) (fun hf => ?_)
    · refine j_aload_n X dM_house_20 rfl 0 rfl ?_
      refine j_iload_n X dM_house_21 rfl 1 rfl ?_
      refine j_iload_n X dM_house_22 rfl 2 rfl ?_
      obtain ⟨m1, hz, hf⟩ := q_cl hf
      refine j_cv X (st := []) (cM_asks1 E F hz) gyM_asks1 gv_M_asks1_81 rfl (by decide) (by decide) wd_1722 rfl (Nat.le_of_ble_eq_true rfl) dM_house_23 ?_
      clear hz
      refine j_aload_n X dM_house_26 rfl 0 rfl ?_
      refine j_iload_n X dM_house_27 rfl 1 rfl ?_
      refine j_iload_n X dM_house_28 rfl 2 rfl ?_
      show bz_J _ _ 29 _ _ _
      obtain ⟨x3, m2, hz, hf⟩ := q_cl2 hf
      refine j_cv X (st := []) (cM_houseOwes E F hz) gyM_houseOwes gv_M_houseOwes_81 rfl (by decide) (by decide) wd_1746 rfl (Nat.le_of_ble_eq_true rfl) dM_house_29 ?_
      clear hz
      refine j_cs X (st := []) (cM_told E) gyM_told wd_1679 rfl (by decide) (by decide) wd_1678 rfl (Nat.le_of_ble_eq_true rfl) dM_house_32 ?_
      cases hf
      exact j_iret X dM_house_35 rfl rfl
    · refine j_ldcw X (v := -2147483648) wd_1448 dM_house_16 ?_
      cases hf
      exact j_iret X dM_house_19 rfl rfl
def fM_cash (F : Nat) (M : bz_Mm) (a1 : Int) (a2 : Int) : Option (Int × bz_Mm) :=
  if w32 (fM_isFund M a1) = 0 then
  (some (((-2147483648), M)))
  else
  (if w32 (fM_in (w32 a2) 0 1) = 0 then
  (some (((-2147483648), M)))
  else
  (cl1_ (if w32 a2 = 0 then
  (some (2))
  else
  (some (0))) fun v2 =>
  cl_ (fM_through F M (fM_lastOver M (fM_known0 M)) (fM_known0 M) v2) fun m3 =>
  rd_ m3 188 a1 4 fun x4 =>
  some ((fM_told x4, m3))))
set_option maxHeartbeats 4000000 in
set_option maxRecDepth 20000 in
theorem cM_cash (E : bz_E) (F : Nat)  {M : bz_Mm} {a1 : Int} {a2 : Int} {x0 : Int × bz_Mm} (hf : fM_cash F M a1 a2 = some x0) : bz_Ct E yM_cash (.code yM_cash prog_14_method_81_code 3 (some .int)) 6 156 [bz_rf E 81, bz_i a1, bz_i a2] M (some (bz_i x0.1)) x0.2 := by
  refine bz_met (by decide +kernel) (Nat.le_of_ble_eq_true rfl) (fun K X => ?_)
  have X : bz_X K E prog_14_method_81_code 3 "UnitsWrongModel" (some .int) 6 156 _ _ := X
  unfold fM_cash at hf
  show bz_J K 3 0 [(0, bz_rf E 81), (1, bz_i a1), (2, bz_i a2)] [] M
  refine j_aload_n X dM_cash_0 rfl 0 rfl ?_
  refine j_iload_n X dM_cash_1 rfl 1 rfl ?_
  refine j_cv X (st := []) (cM_isFund E) gyM_isFund gv_M_isFund_81 rfl (by decide) (by decide) wd_1479 rfl (Nat.le_of_ble_eq_true rfl) dM_cash_2 ?_
  refine j_if_eq X (tgt := 18) rfl dM_cash_5 (by decide) hf (fun hf => ?_) (fun hf => ?_)
  · refine j_ldcw X (v := -2147483648) wd_1448 dM_cash_18 ?_
    cases hf
    exact j_iret X dM_cash_21 rfl rfl
  · refine j_iload_n X dM_cash_8 rfl 2 rfl ?_
    refine j_i2l X rfl dM_cash_9 ?_
    refine j_lconst X (v := 0) dM_cash_10 rfl ?_
    refine j_lconst X (v := 1) dM_cash_11 rfl ?_
    refine j_cs X (st := []) (cM_in E) gyM_in wd_1409 rfl (by decide) (by decide) wd_1408 rfl (Nat.le_of_ble_eq_true rfl) dM_cash_12 ?_
    refine j_if_ne X (tgt := 22) rfl dM_cash_15 (by decide) hf (fun hf => ?_) (fun hf => ?_)
    · refine j_aload_n X dM_cash_22 rfl 0 rfl ?_
      refine j_aload_n X dM_cash_23 rfl 0 rfl ?_
      refine j_aload_n X dM_cash_24 rfl 0 rfl ?_
      refine j_cv X (st := [bz_rf E 81, bz_rf E 81]) (cM_known0 E) gyM_known0 gv_M_known0_81 rfl (by decide) (by decide) wd_1440 rfl (Nat.le_of_ble_eq_true rfl) dM_cash_25 ?_
      refine j_cv X (st := [bz_rf E 81]) (cM_lastOver E) gyM_lastOver gv_M_lastOver_81 rfl (by decide) (by decide) wd_1698 rfl (Nat.le_of_ble_eq_true rfl) dM_cash_28 ?_
      refine j_aload_n X dM_cash_31 rfl 0 rfl ?_
      refine j_cv X (st := [bz_i (fM_lastOver M (fM_known0 M)), bz_rf E 81]) (cM_known0 E) gyM_known0 gv_M_known0_81 rfl (by decide) (by decide) wd_1440 rfl (Nat.le_of_ble_eq_true rfl) dM_cash_32 ?_
      show bz_J _ _ 35 _ _ _
      refine j_iload_n X dM_cash_35 rfl 2 rfl ?_
      obtain ⟨resJ1, hf0, hkJ1⟩ := q_l1 hf
      have J1 : ∀ (v2 : Int), some v2 = some resJ1 → bz_J K 3 44 [(0, bz_rf E 81), (1, bz_i a1)] [bz_i v2, bz_i (fM_known0 M), bz_i (fM_lastOver M (fM_known0 M)), bz_rf E 81] M := by
        intro v2 he
        have hf := hkJ1 _ he
        obtain ⟨m3, hz, hf⟩ := q_cl hf
        refine j_cv X (st := []) (cM_through E F hz) gyM_through gv_M_through_81 rfl (by decide) (by decide) wd_1614 rfl (Nat.le_of_ble_eq_true rfl) dM_cash_44 ?_
        clear hz
        refine j_aload_n X dM_cash_47 rfl 0 rfl ?_
        refine j_geta X gf_M_137_81 dM_cash_48 ?_
        refine j_iload_n X dM_cash_51 rfl 1 rfl ?_
        refine j_lald X sh_188 dM_cash_52 hf (fun x4 hf => ?_)
        refine j_cs X (st := []) (cM_told E) gyM_told wd_1679 rfl (by decide) (by decide) wd_1678 rfl (Nat.le_of_ble_eq_true rfl) dM_cash_53 ?_
        cases hf
        exact j_iret X dM_cash_56 rfl rfl
      clear hf
      have hf := hf0
      clear hf0
      refine j_if_ne X (tgt := 43) rfl dM_cash_36 (by decide) hf (fun hf => ?_) (fun hf => ?_)
      · refine j_iconst X dM_cash_43 ?_
        exact j_sub [0, 1] rfl (J1 _ hf)
      · refine j_iconst X dM_cash_39 ?_
        refine j_goto X (tgt := 44) dM_cash_40 (by decide) ?_
        exact j_sub [0, 1] rfl (J1 _ hf)
    · refine j_ldcw X (v := -2147483648) wd_1448 dM_cash_18 ?_
      cases hf
      exact j_iret X dM_cash_21 rfl rfl
def M_taxOf_189_L22 (F : Nat) : Nat → bz_Mm → Int → Int → Int → Int → Int → Option (Int ⊕ (Int × Int))
  | 0, _, _, _, _, _, _ => none
  | n + 1, M, l7, l1, l8, l5, l3 =>
    if w32 l8 < w32 (M 81 35) then
    (rd_ M 103 l8 200 fun x2 =>
    rd_ M 103 l1 200 fun x3 =>
    if w32 x2 = w32 x3 then
    (rd_ M 104 l8 200 fun x4 =>
    rd_ M 104 l1 200 fun x5 =>
    if w32 x4 = w32 x5 then
    (rd_ M 108 l8 200 fun x6 =>
    if w32 x6 = 0 then
    (M_taxOf_189_L22 F n M l7 l1 (l8 + 1) l5 l3)
    else
    (rd_ M 106 l8 200 fun x7 =>
    if w32 x7 = w32 l7 then
    (rd_ M 107 l8 200 fun x8 =>
    lt_ (w32 x8) fun l9 =>
    cl1_ (if w64 l9 < 0 then
    (dv_ (l3 * (-l9)) l5 fun x11 =>
    some (x11))
    else
    (some (0))) fun v10 =>
    if w32 l8 = w32 l1 then
    (if w64 l9 < 0 then
    (rd_ M 189 l8 200 fun x15 =>
    if w64 v10 < w64 x15 then
    (rd_ M 189 l8 200 fun x16 =>
    rd_ M 104 l8 200 fun x17 =>
    cl_ (fM_ruleOf F M x17 l7 10) fun x18 =>
    some (.inl ((w64 ((x16 - v10) * (w32 x18))).tdiv 100)))
    else
    (some (.inl 0)))
    else
    (some (.inl 0)))
    else
    (cl1_ (if w64 l9 < 0 then
    (some (-v10))
    else
    (rd_ M 189 l8 200 fun x14 =>
    some (x14))) fun v13 =>
    lt_ (l3 + v13) fun l3 =>
    lt_ (l5 + l9) fun l5 =>
    M_taxOf_189_L22 F n M l7 l1 (l8 + 1) l5 l3))
    else
    (M_taxOf_189_L22 F n M l7 l1 (l8 + 1) l5 l3)))
    else
    (M_taxOf_189_L22 F n M l7 l1 (l8 + 1) l5 l3))
    else
    (M_taxOf_189_L22 F n M l7 l1 (l8 + 1) l5 l3))
    else
    (some (.inr (l5, l3)))
def M_taxOf_189_L8 (F : Nat) : Nat → bz_Mm → Int → Int → Int → Int → Option (Int ⊕ (Int))
  | 0, _, _, _, _, _ => none
  | n + 1, M, l1, l7, l5, l3 =>
    rd_ M 106 l1 200 fun x1 =>
    if w32 x1 < w32 l7 then
    (some (.inr 0))
    else
    (cs2_ (M_taxOf_189_L22 F F M l7 l1 0 l5 l3) (fun b => some (.inl b)) fun l5 l3 =>
    M_taxOf_189_L8 F n M l1 (l7 + 1) l5 l3)
theorem lM_taxOf_189_L22 (E : bz_E) (F : Nat) {K : bz_K} {rv : Option Value} {M1 : bz_Mm} (X : bz_X K E prog_14_method_82_code 13 "UnitsWrongModel" (some .long) 1 25 rv M1) {M : bz_Mm} {l7 : Int} {l1 : Int} {res : (Int ⊕ (Int × Int))}
    (kx : ∀ (l5 : Int) (l3 : Int), some (.inr (l5, l3)) = some res → bz_J K 13 208 [(7, bz_i l7), (5, bz_l l5), (3, bz_l l3), (0, bz_rf E 81), (1, bz_i l1), (2, bz_rf E 189)] [] M) (kr : ∀ b : Int, some (.inl b) = some res → some (bz_l b) = rv ∧ M = M1) :
    ∀ (n : Nat) (l8 : Int) (l5 : Int) (l3 : Int), M_taxOf_189_L22 F n M l7 l1 l8 l5 l3 = some res → bz_J K 13 22 [(8, bz_i l8), (7, bz_i l7), (5, bz_l l5), (3, bz_l l3), (0, bz_rf E 81), (1, bz_i l1), (2, bz_rf E 189)] [] M := by
  intro n
  induction n with
  | zero => intro l8 l5 l3 hf; cases hf
  | succ n ih =>
    intro l8 l5 l3 hf
    rw [M_taxOf_189_L22] at hf
    refine j_iload X dM_taxOf_22 0 rfl ?_
    refine j_aload_n X dM_taxOf_24 rfl 4 rfl ?_
    refine j_geti X gf_M_302_81 dM_taxOf_25 ?_
    refine j_icmp_ge X (tgt := 208) rfl rfl dM_taxOf_28 (by decide) hf (fun hf => ?_) (fun hf => ?_)
    · exact j_sub [1, 2, 3, 4, 5, 6] rfl (kx _ _ hf)
    · refine j_aload_n X dM_taxOf_31 rfl 4 rfl ?_
      refine j_geta X gf_M_74_81 dM_taxOf_32 ?_
      refine j_iload X dM_taxOf_35 0 rfl ?_
      refine j_iald X sh_103 dM_taxOf_37 hf (fun x2 hf => ?_)
      refine j_aload_n X dM_taxOf_38 rfl 4 rfl ?_
      refine j_geta X gf_M_74_81 dM_taxOf_39 ?_
      refine j_iload_n X dM_taxOf_42 rfl 5 rfl ?_
      show bz_J _ _ 43 _ _ _
      refine j_iald X sh_103 dM_taxOf_43 hf (fun x3 hf => ?_)
      refine j_icmp_ne X (tgt := 202) rfl rfl dM_taxOf_44 (by decide) hf (fun hf => ?_) (fun hf => ?_)
      · refine j_iinc X (y := l8 + 1) (lv' := [(8, bz_i (l8 + 1)), (7, bz_i l7), (5, bz_l l5), (3, bz_l l3), (0, bz_rf E 81), (1, bz_i l1), (2, bz_rf E 189)]) dM_taxOf_202 0 rfl rfl (by decide) rfl ?_
        refine j_goto X (tgt := 22) dM_taxOf_205 (by decide) ?_
        exact ih _ _ _ hf
      · refine j_aload_n X dM_taxOf_47 rfl 4 rfl ?_
        refine j_geta X gf_M_77_81 dM_taxOf_48 ?_
        refine j_iload X dM_taxOf_51 0 rfl ?_
        refine j_iald X sh_104 dM_taxOf_53 hf (fun x4 hf => ?_)
        refine j_aload_n X dM_taxOf_54 rfl 4 rfl ?_
        refine j_geta X gf_M_77_81 dM_taxOf_55 ?_
        refine j_iload_n X dM_taxOf_58 rfl 5 rfl ?_
        show bz_J _ _ 59 _ _ _
        refine j_iald X sh_104 dM_taxOf_59 hf (fun x5 hf => ?_)
        refine j_icmp_ne X (tgt := 202) rfl rfl dM_taxOf_60 (by decide) hf (fun hf => ?_) (fun hf => ?_)
        · refine j_iinc X (y := l8 + 1) (lv' := [(8, bz_i (l8 + 1)), (7, bz_i l7), (5, bz_l l5), (3, bz_l l3), (0, bz_rf E 81), (1, bz_i l1), (2, bz_rf E 189)]) dM_taxOf_202 0 rfl rfl (by decide) rfl ?_
          refine j_goto X (tgt := 22) dM_taxOf_205 (by decide) ?_
          exact ih _ _ _ hf
        · refine j_aload_n X dM_taxOf_63 rfl 4 rfl ?_
          refine j_geta X gf_M_89_81 dM_taxOf_64 ?_
          refine j_iload X dM_taxOf_67 0 rfl ?_
          refine j_zald X sh_108 dM_taxOf_69 hf (fun x6 hf => ?_)
          refine j_if_eq X (tgt := 202) rfl dM_taxOf_70 (by decide) hf (fun hf => ?_) (fun hf => ?_)
          · refine j_iinc X (y := l8 + 1) (lv' := [(8, bz_i (l8 + 1)), (7, bz_i l7), (5, bz_l l5), (3, bz_l l3), (0, bz_rf E 81), (1, bz_i l1), (2, bz_rf E 189)]) dM_taxOf_202 0 rfl rfl (by decide) rfl ?_
            refine j_goto X (tgt := 22) dM_taxOf_205 (by decide) ?_
            exact ih _ _ _ hf
          · refine j_aload_n X dM_taxOf_73 rfl 4 rfl ?_
            refine j_geta X gf_M_83_81 dM_taxOf_74 ?_
            refine j_iload X dM_taxOf_77 0 rfl ?_
            refine j_iald X sh_106 dM_taxOf_79 hf (fun x7 hf => ?_)
            refine j_iload X dM_taxOf_80 1 rfl ?_
            refine j_icmp_eq X (tgt := 88) rfl rfl dM_taxOf_82 (by decide) hf (fun hf => ?_) (fun hf => ?_)
            · refine j_aload_n X dM_taxOf_88 rfl 4 rfl ?_
              refine j_geta X gf_M_86_81 dM_taxOf_89 ?_
              refine j_iload X dM_taxOf_92 0 rfl ?_
              refine j_iald X sh_107 dM_taxOf_94 hf (fun x8 hf => ?_)
              refine j_i2l X rfl dM_taxOf_95 ?_
              refine j_lt (g := bz_l) hf (fun l9 hf => ?_)
              refine j_lstore X (lv' := [(9, bz_l l9), (8, bz_i l8), (7, bz_i l7), (5, bz_l l5), (3, bz_l l3), (0, bz_rf E 81), (1, bz_i l1), (2, bz_rf E 189)]) dM_taxOf_96 (by decide) rfl ?_
              refine j_lload X dM_taxOf_98 0 rfl ?_
              show bz_J _ _ 100 _ _ _
              refine j_lconst X (v := 0) dM_taxOf_100 rfl ?_
              obtain ⟨resJ9, hf0, hkJ9⟩ := q_l1 hf
              have J9 : ∀ (v10 : Int), some v10 = some resJ9 → bz_J K 13 117 [(9, bz_l l9), (8, bz_i l8), (7, bz_i l7), (5, bz_l l5), (3, bz_l l3), (0, bz_rf E 81), (1, bz_i l1), (2, bz_rf E 189)] [bz_l v10] M := by
                intro v10 he
                have hf := hkJ9 _ he
                refine j_lstore X (lv' := [(11, bz_l v10), (9, bz_l l9), (8, bz_i l8), (7, bz_i l7), (5, bz_l l5), (3, bz_l l3), (0, bz_rf E 81), (1, bz_i l1), (2, bz_rf E 189)]) dM_taxOf_117 (by decide) rfl ?_
                refine j_iload X dM_taxOf_119 2 rfl ?_
                refine j_iload_n X dM_taxOf_121 rfl 7 rfl ?_
                refine j_icmp_ne X (tgt := 175) rfl rfl dM_taxOf_122 (by decide) hf (fun hf => ?_) (fun hf => ?_)
                · refine j_lload_n X dM_taxOf_175 rfl 5 rfl ?_
                  refine j_lload X dM_taxOf_176 1 rfl ?_
                  refine j_lconst X (v := 0) dM_taxOf_178 rfl ?_
                  obtain ⟨resJ12, hf0, hkJ12⟩ := q_l1 hf
                  have J12 : ∀ (v13 : Int), some v13 = some resJ12 → bz_J K 13 193 [(9, bz_l l9), (8, bz_i l8), (7, bz_i l7), (5, bz_l l5), (0, bz_rf E 81), (1, bz_i l1), (2, bz_rf E 189)] [bz_l v13, bz_l l3] M := by
                    intro v13 he
                    have hf := hkJ12 _ he
                    refine j_ladd X dM_taxOf_193 ?_
                    refine j_lt (g := bz_l) hf (fun l3 hf => ?_)
                    refine j_lstore_n X (lv' := [(3, bz_l l3), (9, bz_l l9), (8, bz_i l8), (7, bz_i l7), (5, bz_l l5), (0, bz_rf E 81), (1, bz_i l1), (2, bz_rf E 189)]) dM_taxOf_194 rfl (by decide) rfl ?_
                    refine j_lload X dM_taxOf_195 4 rfl ?_
                    refine j_lload X dM_taxOf_197 1 rfl ?_
                    refine j_ladd X dM_taxOf_199 ?_
                    refine j_lt (g := bz_l) hf (fun l5 hf => ?_)
                    refine j_lstore X (lv' := [(5, bz_l l5), (3, bz_l l3), (9, bz_l l9), (8, bz_i l8), (7, bz_i l7), (0, bz_rf E 81), (1, bz_i l1), (2, bz_rf E 189)]) dM_taxOf_200 (by decide) rfl ?_
                    refine j_iinc X (y := l8 + 1) (lv' := [(8, bz_i (l8 + 1)), (5, bz_l l5), (3, bz_l l3), (9, bz_l l9), (7, bz_i l7), (0, bz_rf E 81), (1, bz_i l1), (2, bz_rf E 189)]) dM_taxOf_202 3 rfl rfl (by decide) rfl ?_
                    show bz_J _ _ 205 _ _ _
                    refine j_goto X (tgt := 22) dM_taxOf_205 (by decide) ?_
                    exact j_sub [0, 4, 1, 2, 5, 6, 7] rfl (ih _ _ _ hf)
                  clear hf
                  have hf := hf0
                  clear hf0
                  refine j_lcmp_ge X (tgt := 189) rfl (w64_lit rfl) dM_taxOf_179 dM_taxOf_180 (by decide) hf (fun hf => ?_) (fun hf => ?_)
                  · refine j_aload_n X dM_taxOf_189 rfl 8 rfl ?_
                    refine j_iload X dM_taxOf_190 2 rfl ?_
                    refine j_lald X sh_189 dM_taxOf_192 hf (fun x14 hf => ?_)
                    exact j_sub [1, 2, 3, 4, 6, 7, 8] rfl (J12 _ hf)
                  · refine j_lload X dM_taxOf_183 0 rfl ?_
                    refine j_lneg X dM_taxOf_185 ?_
                    refine j_goto X (tgt := 193) dM_taxOf_186 (by decide) ?_
                    exact j_sub [1, 2, 3, 4, 6, 7, 8] rfl (J12 _ hf)
                · refine j_lload X dM_taxOf_125 1 rfl ?_
                  refine j_lconst X (v := 0) dM_taxOf_127 rfl ?_
                  refine j_lcmp_ge X (tgt := 142) rfl (w64_lit rfl) dM_taxOf_128 dM_taxOf_129 (by decide) hf (fun hf => ?_) (fun hf => ?_)
                  · refine j_lconst X (v := 0) dM_taxOf_142 rfl ?_
                    refine j_goto X (tgt := 174) dM_taxOf_143 (by decide) ?_
                    exact j_lret X dM_taxOf_174 (kr _ hf).1 (kr _ hf).2
                  · refine j_aload_n X dM_taxOf_132 rfl 8 rfl ?_
                    refine j_iload X dM_taxOf_133 2 rfl ?_
                    refine j_lald X sh_189 dM_taxOf_135 hf (fun x15 hf => ?_)
                    refine j_lload X dM_taxOf_136 0 rfl ?_
                    refine j_lcmp_gt X (tgt := 146) rfl rfl dM_taxOf_138 dM_taxOf_139 (by decide) hf (fun hf => ?_) (fun hf => ?_)
                    · refine j_aload_n X dM_taxOf_146 rfl 8 rfl ?_
                      refine j_iload X dM_taxOf_147 2 rfl ?_
                      refine j_lald X sh_189 dM_taxOf_149 hf (fun x16 hf => ?_)
                      refine j_lload X dM_taxOf_150 0 rfl ?_
                      refine j_lsub X dM_taxOf_152 ?_
                      refine j_aload_n X dM_taxOf_153 rfl 6 rfl ?_
                      refine j_aload_n X dM_taxOf_154 rfl 6 rfl ?_
                      show bz_J _ _ 155 _ _ _
                      refine j_geta X gf_M_77_81 dM_taxOf_155 ?_
                      refine j_iload X dM_taxOf_158 2 rfl ?_
                      refine j_iald X sh_104 dM_taxOf_160 hf (fun x17 hf => ?_)
                      refine j_iload X dM_taxOf_161 3 rfl ?_
                      refine j_bipush X dM_taxOf_163 rfl ?_
                      obtain ⟨x18, hzx18, hf⟩ := q_cl hf
                      refine j_cv X (st := [bz_l (x16 - v10)]) (cM_ruleOf E F hzx18) gyM_ruleOf gv_M_ruleOf_81 rfl (by decide) (by decide) wd_1494 rfl (Nat.le_of_ble_eq_true rfl) dM_taxOf_165 ?_
                      refine j_i2l X rfl dM_taxOf_168 ?_
                      refine j_lmul X dM_taxOf_169 ?_
                      show bz_J _ _ 170 _ _ _
                      refine j_ldc2 X (v := 100) wd_1435 dM_taxOf_170 ?_
                      refine j_ldl X (w64_lit rfl) (by decide) dM_taxOf_173 ?_
                      exact j_lret X dM_taxOf_174 (kr _ hf).1 (kr _ hf).2
                    · refine j_lconst X (v := 0) dM_taxOf_142 rfl ?_
                      refine j_goto X (tgt := 174) dM_taxOf_143 (by decide) ?_
                      exact j_lret X dM_taxOf_174 (kr _ hf).1 (kr _ hf).2
              clear hf
              have hf := hf0
              clear hf0
              refine j_lcmp_ge X (tgt := 116) rfl (w64_lit rfl) dM_taxOf_101 dM_taxOf_102 (by decide) hf (fun hf => ?_) (fun hf => ?_)
              · refine j_lconst X (v := 0) dM_taxOf_116 rfl ?_
                exact J9 _ hf
              · refine j_lload_n X dM_taxOf_105 rfl 4 rfl ?_
                refine j_lload X dM_taxOf_106 0 rfl ?_
                refine j_lneg X dM_taxOf_108 ?_
                refine j_lmul X dM_taxOf_109 ?_
                refine j_lload X dM_taxOf_110 3 rfl ?_
                refine j_ldiv X dM_taxOf_112 hf (fun x11 hf => ?_)
                refine j_goto X (tgt := 117) dM_taxOf_113 (by decide) ?_
                exact J9 _ hf
            · refine j_goto X (tgt := 202) dM_taxOf_85 (by decide) ?_
              refine j_iinc X (y := l8 + 1) (lv' := [(8, bz_i (l8 + 1)), (7, bz_i l7), (5, bz_l l5), (3, bz_l l3), (0, bz_rf E 81), (1, bz_i l1), (2, bz_rf E 189)]) dM_taxOf_202 0 rfl rfl (by decide) rfl ?_
              refine j_goto X (tgt := 22) dM_taxOf_205 (by decide) ?_
              exact ih _ _ _ hf
theorem lM_taxOf_189_L8 (E : bz_E) (F : Nat) {K : bz_K} {rv : Option Value} {M1 : bz_Mm} (X : bz_X K E prog_14_method_82_code 13 "UnitsWrongModel" (some .long) 1 25 rv M1) {M : bz_Mm} {l1 : Int} {res : (Int ⊕ (Int))}
    (kx : ∀ (_u : Int), some (.inr _u) = some res → bz_J K 13 214 [] [] M) (kr : ∀ b : Int, some (.inl b) = some res → some (bz_l b) = rv ∧ M = M1) :
    ∀ (n : Nat) (l7 : Int) (l5 : Int) (l3 : Int), M_taxOf_189_L8 F n M l1 l7 l5 l3 = some res → bz_J K 13 8 [(7, bz_i l7), (5, bz_l l5), (3, bz_l l3), (0, bz_rf E 81), (1, bz_i l1), (2, bz_rf E 189)] [] M := by
  intro n
  induction n with
  | zero => intro l7 l5 l3 hf; cases hf
  | succ n ih =>
    intro l7 l5 l3 hf
    rw [M_taxOf_189_L8] at hf
    refine j_iload X dM_taxOf_8 0 rfl ?_
    refine j_aload_n X dM_taxOf_10 rfl 3 rfl ?_
    refine j_geta X gf_M_83_81 dM_taxOf_11 ?_
    refine j_iload_n X dM_taxOf_14 rfl 4 rfl ?_
    refine j_iald X sh_106 dM_taxOf_15 hf (fun x1 hf => ?_)
    refine j_icmp_gt X (tgt := 214) rfl rfl dM_taxOf_16 (by decide) hf (fun hf => ?_) (fun hf => ?_)
    · exact j_sub [] rfl (kx _ hf)
    · refine j_iconst X dM_taxOf_19 ?_
      refine j_istore X (lv' := [(8, bz_i 0), (7, bz_i l7), (5, bz_l l5), (3, bz_l l3), (0, bz_rf E 81), (1, bz_i l1), (2, bz_rf E 189)]) dM_taxOf_20 (by decide) rfl ?_
      obtain ⟨res19, hz19, hk19, hr19⟩ := q_s2 hf
      clear hf
      refine lM_taxOf_189_L22 E F X (fun l5 l3 he => ?_) (fun b he => ?_) F 0 l5 l3 hz19
      · have hf := hk19 _ _ he
        refine j_iinc X (y := l7 + 1) (lv' := [(7, bz_i (l7 + 1)), (5, bz_l l5), (3, bz_l l3), (0, bz_rf E 81), (1, bz_i l1), (2, bz_rf E 189)]) dM_taxOf_208 0 rfl rfl (by decide) rfl ?_
        refine j_goto X (tgt := 8) dM_taxOf_211 (by decide) ?_
        exact ih _ _ _ hf
      · exact kr _ (hr19 _ he)
def fM_taxOf_189 (F : Nat) (M : bz_Mm) (a1 : Int) : Option (Int) :=
  cs1_ (M_taxOf_189_L8 F F M a1 0 0 0) (fun b => some b) fun _u =>
  some 0
set_option maxHeartbeats 4000000 in
set_option maxRecDepth 20000 in
theorem cM_taxOf_189 (E : bz_E) (F : Nat)  {M : bz_Mm} {a1 : Int} {x0 : Int} (hf : fM_taxOf_189 F M a1 = some x0) : bz_Ct E yM_taxOf (.code yM_taxOf prog_14_method_82_code 13 (some .long)) 1 25 [bz_rf E 81, bz_i a1, bz_rf E 189] M (some (bz_l x0)) M := by
  refine bz_met (by decide +kernel) (Nat.le_of_ble_eq_true rfl) (fun K X => ?_)
  have X : bz_X K E prog_14_method_82_code 13 "UnitsWrongModel" (some .long) 1 25 _ _ := X
  unfold fM_taxOf_189 at hf
  show bz_J K 13 0 [(0, bz_rf E 81), (1, bz_i a1), (2, bz_rf E 189)] [] M
  refine j_lconst X (v := 0) dM_taxOf_0 rfl ?_
  refine j_lstore_n X (lv' := [(3, bz_l 0), (0, bz_rf E 81), (1, bz_i a1), (2, bz_rf E 189)]) dM_taxOf_1 rfl (by decide) rfl ?_
  refine j_lconst X (v := 0) dM_taxOf_2 rfl ?_
  refine j_lstore X (lv' := [(5, bz_l 0), (3, bz_l 0), (0, bz_rf E 81), (1, bz_i a1), (2, bz_rf E 189)]) dM_taxOf_3 (by decide) rfl ?_
  refine j_iconst X dM_taxOf_5 ?_
  refine j_istore X (lv' := [(7, bz_i 0), (5, bz_l 0), (3, bz_l 0), (0, bz_rf E 81), (1, bz_i a1), (2, bz_rf E 189)]) dM_taxOf_6 (by decide) rfl ?_
  obtain ⟨res20, hz20, hk20, hr20⟩ := q_s1 hf
  clear hf
  refine lM_taxOf_189_L8 E F X (fun _u he => ?_) (fun b he => ?_) F 0 0 0 hz20
  · have hf := hk20 _ he
    refine j_lconst X (v := 0) dM_taxOf_214 rfl ?_
    cases hf
    exact j_lret X dM_taxOf_215 rfl rfl
  · have hf := hr20 _ he
    cases hf
    exact ⟨rfl, rfl⟩
def M_taxOf_109_L22 (F : Nat) : Nat → bz_Mm → Int → Int → Int → Int → Int → Option (Int ⊕ (Int × Int))
  | 0, _, _, _, _, _, _ => none
  | n + 1, M, l7, l1, l8, l5, l3 =>
    if w32 l8 < w32 (M 81 35) then
    (rd_ M 103 l8 200 fun x2 =>
    rd_ M 103 l1 200 fun x3 =>
    if w32 x2 = w32 x3 then
    (rd_ M 104 l8 200 fun x4 =>
    rd_ M 104 l1 200 fun x5 =>
    if w32 x4 = w32 x5 then
    (rd_ M 108 l8 200 fun x6 =>
    if w32 x6 = 0 then
    (M_taxOf_109_L22 F n M l7 l1 (l8 + 1) l5 l3)
    else
    (rd_ M 106 l8 200 fun x7 =>
    if w32 x7 = w32 l7 then
    (rd_ M 107 l8 200 fun x8 =>
    lt_ (w32 x8) fun l9 =>
    cl1_ (if w64 l9 < 0 then
    (dv_ (l3 * (-l9)) l5 fun x11 =>
    some (x11))
    else
    (some (0))) fun v10 =>
    if w32 l8 = w32 l1 then
    (if w64 l9 < 0 then
    (rd_ M 109 l8 200 fun x15 =>
    if w64 v10 < w64 x15 then
    (rd_ M 109 l8 200 fun x16 =>
    rd_ M 104 l8 200 fun x17 =>
    cl_ (fM_ruleOf F M x17 l7 10) fun x18 =>
    some (.inl ((w64 ((x16 - v10) * (w32 x18))).tdiv 100)))
    else
    (some (.inl 0)))
    else
    (some (.inl 0)))
    else
    (cl1_ (if w64 l9 < 0 then
    (some (-v10))
    else
    (rd_ M 109 l8 200 fun x14 =>
    some (x14))) fun v13 =>
    lt_ (l3 + v13) fun l3 =>
    lt_ (l5 + l9) fun l5 =>
    M_taxOf_109_L22 F n M l7 l1 (l8 + 1) l5 l3))
    else
    (M_taxOf_109_L22 F n M l7 l1 (l8 + 1) l5 l3)))
    else
    (M_taxOf_109_L22 F n M l7 l1 (l8 + 1) l5 l3))
    else
    (M_taxOf_109_L22 F n M l7 l1 (l8 + 1) l5 l3))
    else
    (some (.inr (l5, l3)))
def M_taxOf_109_L8 (F : Nat) : Nat → bz_Mm → Int → Int → Int → Int → Option (Int ⊕ (Int))
  | 0, _, _, _, _, _ => none
  | n + 1, M, l1, l7, l5, l3 =>
    rd_ M 106 l1 200 fun x1 =>
    if w32 x1 < w32 l7 then
    (some (.inr 0))
    else
    (cs2_ (M_taxOf_109_L22 F F M l7 l1 0 l5 l3) (fun b => some (.inl b)) fun l5 l3 =>
    M_taxOf_109_L8 F n M l1 (l7 + 1) l5 l3)
theorem lM_taxOf_109_L22 (E : bz_E) (F : Nat) {K : bz_K} {rv : Option Value} {M1 : bz_Mm} (X : bz_X K E prog_14_method_82_code 13 "UnitsWrongModel" (some .long) 1 25 rv M1) {M : bz_Mm} {l7 : Int} {l1 : Int} {res : (Int ⊕ (Int × Int))}
    (kx : ∀ (l5 : Int) (l3 : Int), some (.inr (l5, l3)) = some res → bz_J K 13 208 [(7, bz_i l7), (5, bz_l l5), (3, bz_l l3), (0, bz_rf E 81), (1, bz_i l1), (2, bz_rf E 109)] [] M) (kr : ∀ b : Int, some (.inl b) = some res → some (bz_l b) = rv ∧ M = M1) :
    ∀ (n : Nat) (l8 : Int) (l5 : Int) (l3 : Int), M_taxOf_109_L22 F n M l7 l1 l8 l5 l3 = some res → bz_J K 13 22 [(8, bz_i l8), (7, bz_i l7), (5, bz_l l5), (3, bz_l l3), (0, bz_rf E 81), (1, bz_i l1), (2, bz_rf E 109)] [] M := by
  intro n
  induction n with
  | zero => intro l8 l5 l3 hf; cases hf
  | succ n ih =>
    intro l8 l5 l3 hf
    rw [M_taxOf_109_L22] at hf
    refine j_iload X dM_taxOf_22 0 rfl ?_
    refine j_aload_n X dM_taxOf_24 rfl 4 rfl ?_
    refine j_geti X gf_M_302_81 dM_taxOf_25 ?_
    refine j_icmp_ge X (tgt := 208) rfl rfl dM_taxOf_28 (by decide) hf (fun hf => ?_) (fun hf => ?_)
    · exact j_sub [1, 2, 3, 4, 5, 6] rfl (kx _ _ hf)
    · refine j_aload_n X dM_taxOf_31 rfl 4 rfl ?_
      refine j_geta X gf_M_74_81 dM_taxOf_32 ?_
      refine j_iload X dM_taxOf_35 0 rfl ?_
      refine j_iald X sh_103 dM_taxOf_37 hf (fun x2 hf => ?_)
      refine j_aload_n X dM_taxOf_38 rfl 4 rfl ?_
      refine j_geta X gf_M_74_81 dM_taxOf_39 ?_
      refine j_iload_n X dM_taxOf_42 rfl 5 rfl ?_
      show bz_J _ _ 43 _ _ _
      refine j_iald X sh_103 dM_taxOf_43 hf (fun x3 hf => ?_)
      refine j_icmp_ne X (tgt := 202) rfl rfl dM_taxOf_44 (by decide) hf (fun hf => ?_) (fun hf => ?_)
      · refine j_iinc X (y := l8 + 1) (lv' := [(8, bz_i (l8 + 1)), (7, bz_i l7), (5, bz_l l5), (3, bz_l l3), (0, bz_rf E 81), (1, bz_i l1), (2, bz_rf E 109)]) dM_taxOf_202 0 rfl rfl (by decide) rfl ?_
        refine j_goto X (tgt := 22) dM_taxOf_205 (by decide) ?_
        exact ih _ _ _ hf
      · refine j_aload_n X dM_taxOf_47 rfl 4 rfl ?_
        refine j_geta X gf_M_77_81 dM_taxOf_48 ?_
        refine j_iload X dM_taxOf_51 0 rfl ?_
        refine j_iald X sh_104 dM_taxOf_53 hf (fun x4 hf => ?_)
        refine j_aload_n X dM_taxOf_54 rfl 4 rfl ?_
        refine j_geta X gf_M_77_81 dM_taxOf_55 ?_
        refine j_iload_n X dM_taxOf_58 rfl 5 rfl ?_
        show bz_J _ _ 59 _ _ _
        refine j_iald X sh_104 dM_taxOf_59 hf (fun x5 hf => ?_)
        refine j_icmp_ne X (tgt := 202) rfl rfl dM_taxOf_60 (by decide) hf (fun hf => ?_) (fun hf => ?_)
        · refine j_iinc X (y := l8 + 1) (lv' := [(8, bz_i (l8 + 1)), (7, bz_i l7), (5, bz_l l5), (3, bz_l l3), (0, bz_rf E 81), (1, bz_i l1), (2, bz_rf E 109)]) dM_taxOf_202 0 rfl rfl (by decide) rfl ?_
          refine j_goto X (tgt := 22) dM_taxOf_205 (by decide) ?_
          exact ih _ _ _ hf
        · refine j_aload_n X dM_taxOf_63 rfl 4 rfl ?_
          refine j_geta X gf_M_89_81 dM_taxOf_64 ?_
          refine j_iload X dM_taxOf_67 0 rfl ?_
          refine j_zald X sh_108 dM_taxOf_69 hf (fun x6 hf => ?_)
          refine j_if_eq X (tgt := 202) rfl dM_taxOf_70 (by decide) hf (fun hf => ?_) (fun hf => ?_)
          · refine j_iinc X (y := l8 + 1) (lv' := [(8, bz_i (l8 + 1)), (7, bz_i l7), (5, bz_l l5), (3, bz_l l3), (0, bz_rf E 81), (1, bz_i l1), (2, bz_rf E 109)]) dM_taxOf_202 0 rfl rfl (by decide) rfl ?_
            refine j_goto X (tgt := 22) dM_taxOf_205 (by decide) ?_
            exact ih _ _ _ hf
          · refine j_aload_n X dM_taxOf_73 rfl 4 rfl ?_
            refine j_geta X gf_M_83_81 dM_taxOf_74 ?_
            refine j_iload X dM_taxOf_77 0 rfl ?_
            refine j_iald X sh_106 dM_taxOf_79 hf (fun x7 hf => ?_)
            refine j_iload X dM_taxOf_80 1 rfl ?_
            refine j_icmp_eq X (tgt := 88) rfl rfl dM_taxOf_82 (by decide) hf (fun hf => ?_) (fun hf => ?_)
            · refine j_aload_n X dM_taxOf_88 rfl 4 rfl ?_
              refine j_geta X gf_M_86_81 dM_taxOf_89 ?_
              refine j_iload X dM_taxOf_92 0 rfl ?_
              refine j_iald X sh_107 dM_taxOf_94 hf (fun x8 hf => ?_)
              refine j_i2l X rfl dM_taxOf_95 ?_
              refine j_lt (g := bz_l) hf (fun l9 hf => ?_)
              refine j_lstore X (lv' := [(9, bz_l l9), (8, bz_i l8), (7, bz_i l7), (5, bz_l l5), (3, bz_l l3), (0, bz_rf E 81), (1, bz_i l1), (2, bz_rf E 109)]) dM_taxOf_96 (by decide) rfl ?_
              refine j_lload X dM_taxOf_98 0 rfl ?_
              show bz_J _ _ 100 _ _ _
              refine j_lconst X (v := 0) dM_taxOf_100 rfl ?_
              obtain ⟨resJ9, hf0, hkJ9⟩ := q_l1 hf
              have J9 : ∀ (v10 : Int), some v10 = some resJ9 → bz_J K 13 117 [(9, bz_l l9), (8, bz_i l8), (7, bz_i l7), (5, bz_l l5), (3, bz_l l3), (0, bz_rf E 81), (1, bz_i l1), (2, bz_rf E 109)] [bz_l v10] M := by
                intro v10 he
                have hf := hkJ9 _ he
                refine j_lstore X (lv' := [(11, bz_l v10), (9, bz_l l9), (8, bz_i l8), (7, bz_i l7), (5, bz_l l5), (3, bz_l l3), (0, bz_rf E 81), (1, bz_i l1), (2, bz_rf E 109)]) dM_taxOf_117 (by decide) rfl ?_
                refine j_iload X dM_taxOf_119 2 rfl ?_
                refine j_iload_n X dM_taxOf_121 rfl 7 rfl ?_
                refine j_icmp_ne X (tgt := 175) rfl rfl dM_taxOf_122 (by decide) hf (fun hf => ?_) (fun hf => ?_)
                · refine j_lload_n X dM_taxOf_175 rfl 5 rfl ?_
                  refine j_lload X dM_taxOf_176 1 rfl ?_
                  refine j_lconst X (v := 0) dM_taxOf_178 rfl ?_
                  obtain ⟨resJ12, hf0, hkJ12⟩ := q_l1 hf
                  have J12 : ∀ (v13 : Int), some v13 = some resJ12 → bz_J K 13 193 [(9, bz_l l9), (8, bz_i l8), (7, bz_i l7), (5, bz_l l5), (0, bz_rf E 81), (1, bz_i l1), (2, bz_rf E 109)] [bz_l v13, bz_l l3] M := by
                    intro v13 he
                    have hf := hkJ12 _ he
                    refine j_ladd X dM_taxOf_193 ?_
                    refine j_lt (g := bz_l) hf (fun l3 hf => ?_)
                    refine j_lstore_n X (lv' := [(3, bz_l l3), (9, bz_l l9), (8, bz_i l8), (7, bz_i l7), (5, bz_l l5), (0, bz_rf E 81), (1, bz_i l1), (2, bz_rf E 109)]) dM_taxOf_194 rfl (by decide) rfl ?_
                    refine j_lload X dM_taxOf_195 4 rfl ?_
                    refine j_lload X dM_taxOf_197 1 rfl ?_
                    refine j_ladd X dM_taxOf_199 ?_
                    refine j_lt (g := bz_l) hf (fun l5 hf => ?_)
                    refine j_lstore X (lv' := [(5, bz_l l5), (3, bz_l l3), (9, bz_l l9), (8, bz_i l8), (7, bz_i l7), (0, bz_rf E 81), (1, bz_i l1), (2, bz_rf E 109)]) dM_taxOf_200 (by decide) rfl ?_
                    refine j_iinc X (y := l8 + 1) (lv' := [(8, bz_i (l8 + 1)), (5, bz_l l5), (3, bz_l l3), (9, bz_l l9), (7, bz_i l7), (0, bz_rf E 81), (1, bz_i l1), (2, bz_rf E 109)]) dM_taxOf_202 3 rfl rfl (by decide) rfl ?_
                    show bz_J _ _ 205 _ _ _
                    refine j_goto X (tgt := 22) dM_taxOf_205 (by decide) ?_
                    exact j_sub [0, 4, 1, 2, 5, 6, 7] rfl (ih _ _ _ hf)
                  clear hf
                  have hf := hf0
                  clear hf0
                  refine j_lcmp_ge X (tgt := 189) rfl (w64_lit rfl) dM_taxOf_179 dM_taxOf_180 (by decide) hf (fun hf => ?_) (fun hf => ?_)
                  · refine j_aload_n X dM_taxOf_189 rfl 8 rfl ?_
                    refine j_iload X dM_taxOf_190 2 rfl ?_
                    refine j_lald X sh_109 dM_taxOf_192 hf (fun x14 hf => ?_)
                    exact j_sub [1, 2, 3, 4, 6, 7, 8] rfl (J12 _ hf)
                  · refine j_lload X dM_taxOf_183 0 rfl ?_
                    refine j_lneg X dM_taxOf_185 ?_
                    refine j_goto X (tgt := 193) dM_taxOf_186 (by decide) ?_
                    exact j_sub [1, 2, 3, 4, 6, 7, 8] rfl (J12 _ hf)
                · refine j_lload X dM_taxOf_125 1 rfl ?_
                  refine j_lconst X (v := 0) dM_taxOf_127 rfl ?_
                  refine j_lcmp_ge X (tgt := 142) rfl (w64_lit rfl) dM_taxOf_128 dM_taxOf_129 (by decide) hf (fun hf => ?_) (fun hf => ?_)
                  · refine j_lconst X (v := 0) dM_taxOf_142 rfl ?_
                    refine j_goto X (tgt := 174) dM_taxOf_143 (by decide) ?_
                    exact j_lret X dM_taxOf_174 (kr _ hf).1 (kr _ hf).2
                  · refine j_aload_n X dM_taxOf_132 rfl 8 rfl ?_
                    refine j_iload X dM_taxOf_133 2 rfl ?_
                    refine j_lald X sh_109 dM_taxOf_135 hf (fun x15 hf => ?_)
                    refine j_lload X dM_taxOf_136 0 rfl ?_
                    refine j_lcmp_gt X (tgt := 146) rfl rfl dM_taxOf_138 dM_taxOf_139 (by decide) hf (fun hf => ?_) (fun hf => ?_)
                    · refine j_aload_n X dM_taxOf_146 rfl 8 rfl ?_
                      refine j_iload X dM_taxOf_147 2 rfl ?_
                      refine j_lald X sh_109 dM_taxOf_149 hf (fun x16 hf => ?_)
                      refine j_lload X dM_taxOf_150 0 rfl ?_
                      refine j_lsub X dM_taxOf_152 ?_
                      refine j_aload_n X dM_taxOf_153 rfl 6 rfl ?_
                      refine j_aload_n X dM_taxOf_154 rfl 6 rfl ?_
                      show bz_J _ _ 155 _ _ _
                      refine j_geta X gf_M_77_81 dM_taxOf_155 ?_
                      refine j_iload X dM_taxOf_158 2 rfl ?_
                      refine j_iald X sh_104 dM_taxOf_160 hf (fun x17 hf => ?_)
                      refine j_iload X dM_taxOf_161 3 rfl ?_
                      refine j_bipush X dM_taxOf_163 rfl ?_
                      obtain ⟨x18, hzx18, hf⟩ := q_cl hf
                      refine j_cv X (st := [bz_l (x16 - v10)]) (cM_ruleOf E F hzx18) gyM_ruleOf gv_M_ruleOf_81 rfl (by decide) (by decide) wd_1494 rfl (Nat.le_of_ble_eq_true rfl) dM_taxOf_165 ?_
                      refine j_i2l X rfl dM_taxOf_168 ?_
                      refine j_lmul X dM_taxOf_169 ?_
                      show bz_J _ _ 170 _ _ _
                      refine j_ldc2 X (v := 100) wd_1435 dM_taxOf_170 ?_
                      refine j_ldl X (w64_lit rfl) (by decide) dM_taxOf_173 ?_
                      exact j_lret X dM_taxOf_174 (kr _ hf).1 (kr _ hf).2
                    · refine j_lconst X (v := 0) dM_taxOf_142 rfl ?_
                      refine j_goto X (tgt := 174) dM_taxOf_143 (by decide) ?_
                      exact j_lret X dM_taxOf_174 (kr _ hf).1 (kr _ hf).2
              clear hf
              have hf := hf0
              clear hf0
              refine j_lcmp_ge X (tgt := 116) rfl (w64_lit rfl) dM_taxOf_101 dM_taxOf_102 (by decide) hf (fun hf => ?_) (fun hf => ?_)
              · refine j_lconst X (v := 0) dM_taxOf_116 rfl ?_
                exact J9 _ hf
              · refine j_lload_n X dM_taxOf_105 rfl 4 rfl ?_
                refine j_lload X dM_taxOf_106 0 rfl ?_
                refine j_lneg X dM_taxOf_108 ?_
                refine j_lmul X dM_taxOf_109 ?_
                refine j_lload X dM_taxOf_110 3 rfl ?_
                refine j_ldiv X dM_taxOf_112 hf (fun x11 hf => ?_)
                refine j_goto X (tgt := 117) dM_taxOf_113 (by decide) ?_
                exact J9 _ hf
            · refine j_goto X (tgt := 202) dM_taxOf_85 (by decide) ?_
              refine j_iinc X (y := l8 + 1) (lv' := [(8, bz_i (l8 + 1)), (7, bz_i l7), (5, bz_l l5), (3, bz_l l3), (0, bz_rf E 81), (1, bz_i l1), (2, bz_rf E 109)]) dM_taxOf_202 0 rfl rfl (by decide) rfl ?_
              refine j_goto X (tgt := 22) dM_taxOf_205 (by decide) ?_
              exact ih _ _ _ hf
theorem lM_taxOf_109_L8 (E : bz_E) (F : Nat) {K : bz_K} {rv : Option Value} {M1 : bz_Mm} (X : bz_X K E prog_14_method_82_code 13 "UnitsWrongModel" (some .long) 1 25 rv M1) {M : bz_Mm} {l1 : Int} {res : (Int ⊕ (Int))}
    (kx : ∀ (_u : Int), some (.inr _u) = some res → bz_J K 13 214 [] [] M) (kr : ∀ b : Int, some (.inl b) = some res → some (bz_l b) = rv ∧ M = M1) :
    ∀ (n : Nat) (l7 : Int) (l5 : Int) (l3 : Int), M_taxOf_109_L8 F n M l1 l7 l5 l3 = some res → bz_J K 13 8 [(7, bz_i l7), (5, bz_l l5), (3, bz_l l3), (0, bz_rf E 81), (1, bz_i l1), (2, bz_rf E 109)] [] M := by
  intro n
  induction n with
  | zero => intro l7 l5 l3 hf; cases hf
  | succ n ih =>
    intro l7 l5 l3 hf
    rw [M_taxOf_109_L8] at hf
    refine j_iload X dM_taxOf_8 0 rfl ?_
    refine j_aload_n X dM_taxOf_10 rfl 3 rfl ?_
    refine j_geta X gf_M_83_81 dM_taxOf_11 ?_
    refine j_iload_n X dM_taxOf_14 rfl 4 rfl ?_
    refine j_iald X sh_106 dM_taxOf_15 hf (fun x1 hf => ?_)
    refine j_icmp_gt X (tgt := 214) rfl rfl dM_taxOf_16 (by decide) hf (fun hf => ?_) (fun hf => ?_)
    · exact j_sub [] rfl (kx _ hf)
    · refine j_iconst X dM_taxOf_19 ?_
      refine j_istore X (lv' := [(8, bz_i 0), (7, bz_i l7), (5, bz_l l5), (3, bz_l l3), (0, bz_rf E 81), (1, bz_i l1), (2, bz_rf E 109)]) dM_taxOf_20 (by decide) rfl ?_
      obtain ⟨res19, hz19, hk19, hr19⟩ := q_s2 hf
      clear hf
      refine lM_taxOf_109_L22 E F X (fun l5 l3 he => ?_) (fun b he => ?_) F 0 l5 l3 hz19
      · have hf := hk19 _ _ he
        refine j_iinc X (y := l7 + 1) (lv' := [(7, bz_i (l7 + 1)), (5, bz_l l5), (3, bz_l l3), (0, bz_rf E 81), (1, bz_i l1), (2, bz_rf E 109)]) dM_taxOf_208 0 rfl rfl (by decide) rfl ?_
        refine j_goto X (tgt := 8) dM_taxOf_211 (by decide) ?_
        exact ih _ _ _ hf
      · exact kr _ (hr19 _ he)
def fM_taxOf_109 (F : Nat) (M : bz_Mm) (a1 : Int) : Option (Int) :=
  cs1_ (M_taxOf_109_L8 F F M a1 0 0 0) (fun b => some b) fun _u =>
  some 0
set_option maxHeartbeats 4000000 in
set_option maxRecDepth 20000 in
theorem cM_taxOf_109 (E : bz_E) (F : Nat)  {M : bz_Mm} {a1 : Int} {x0 : Int} (hf : fM_taxOf_109 F M a1 = some x0) : bz_Ct E yM_taxOf (.code yM_taxOf prog_14_method_82_code 13 (some .long)) 1 25 [bz_rf E 81, bz_i a1, bz_rf E 109] M (some (bz_l x0)) M := by
  refine bz_met (by decide +kernel) (Nat.le_of_ble_eq_true rfl) (fun K X => ?_)
  have X : bz_X K E prog_14_method_82_code 13 "UnitsWrongModel" (some .long) 1 25 _ _ := X
  unfold fM_taxOf_109 at hf
  show bz_J K 13 0 [(0, bz_rf E 81), (1, bz_i a1), (2, bz_rf E 109)] [] M
  refine j_lconst X (v := 0) dM_taxOf_0 rfl ?_
  refine j_lstore_n X (lv' := [(3, bz_l 0), (0, bz_rf E 81), (1, bz_i a1), (2, bz_rf E 109)]) dM_taxOf_1 rfl (by decide) rfl ?_
  refine j_lconst X (v := 0) dM_taxOf_2 rfl ?_
  refine j_lstore X (lv' := [(5, bz_l 0), (3, bz_l 0), (0, bz_rf E 81), (1, bz_i a1), (2, bz_rf E 109)]) dM_taxOf_3 (by decide) rfl ?_
  refine j_iconst X dM_taxOf_5 ?_
  refine j_istore X (lv' := [(7, bz_i 0), (5, bz_l 0), (3, bz_l 0), (0, bz_rf E 81), (1, bz_i a1), (2, bz_rf E 109)]) dM_taxOf_6 (by decide) rfl ?_
  obtain ⟨res20, hz20, hk20, hr20⟩ := q_s1 hf
  clear hf
  refine lM_taxOf_109_L8 E F X (fun _u he => ?_) (fun b he => ?_) F 0 0 0 hz20
  · have hf := hk20 _ he
    refine j_lconst X (v := 0) dM_taxOf_214 rfl ?_
    cases hf
    exact j_lret X dM_taxOf_215 rfl rfl
  · have hf := hr20 _ he
    cases hf
    exact ⟨rfl, rfl⟩
def fM_dealt (F : Nat) (M : bz_Mm) (a1 : Int) (a2 : Int) : Option (Int × bz_Mm) :=
  if w32 (fM_in (w32 a1) 0 (w32 ((M 81 35) - 1))) = 0 then
  (some (((-2147483648), M)))
  else
  (if w32 a2 = 0 then
  (rd_ M 103 a1 200 fun x1 =>
  if w32 x1 < 16 then
  (rd_ M 103 a1 200 fun x3 =>
  some ((x3, M)))
  else
  (rd_ M 103 a1 200 fun x2 =>
  some (((x2 - 16) + 20, M))))
  else if w32 a2 = 1 then
  (rd_ M 104 a1 200 fun x4 =>
  some ((x4, M)))
  else if w32 a2 = 2 then
  (rd_ M 106 a1 200 fun x5 =>
  some ((x5, M)))
  else if w32 a2 = 3 then
  (rd_ M 107 a1 200 fun x6 =>
  some ((x6, M)))
  else if w32 a2 = 4 then
  (rd_ M 109 a1 200 fun x7 =>
  some ((fM_told x7, M)))
  else if w32 a2 = 5 then
  (rd_ M 108 a1 200 fun x8 =>
  if w32 x8 = 0 then
  (some ((0, M)))
  else
  (cl_ (fM_through F M (fM_lastOver M (fM_known0 M)) (fM_known0 M) 0) fun m9 =>
  cl1_ (if w32 a2 = 5 then
  (rd_ m9 189 a1 200 fun x13 =>
  some (x13))
  else
  (cl_ (fM_taxOf_189 F m9 a1) fun x12 =>
  some (x12))) fun v11 =>
  some ((fM_told v11, m9))))
  else if w32 a2 = 6 then
  (rd_ M 108 a1 200 fun x14 =>
  if w32 x14 = 0 then
  (some ((0, M)))
  else
  (cl_ (fM_taxOf_109 F M a1) fun x15 =>
  some ((fM_told x15, M))))
  else if w32 a2 = 7 then
  (rd_ M 108 a1 200 fun x16 =>
  if w32 x16 = 0 then
  (some ((0, M)))
  else
  (cl_ (fM_through F M (fM_lastOver M (fM_known0 M)) (fM_known0 M) 0) fun m17 =>
  cl1_ (if w32 a2 = 5 then
  (rd_ m17 189 a1 200 fun x21 =>
  some (x21))
  else
  (cl_ (fM_taxOf_189 F m17 a1) fun x20 =>
  some (x20))) fun v19 =>
  some ((fM_told v19, m17))))
  else (some (((-2147483648), M))))
set_option maxHeartbeats 4000000 in
set_option maxRecDepth 20000 in
theorem cM_dealt (E : bz_E) (F : Nat)  {M : bz_Mm} {a1 : Int} {a2 : Int} {x0 : Int × bz_Mm} (hf : fM_dealt F M a1 a2 = some x0) : bz_Ct E yM_dealt (.code yM_dealt prog_14_method_83_code 3 (some .int)) 6 156 [bz_rf E 81, bz_i a1, bz_i a2] M (some (bz_i x0.1)) x0.2 := by
  refine bz_met (by decide +kernel) (Nat.le_of_ble_eq_true rfl) (fun K X => ?_)
  have X : bz_X K E prog_14_method_83_code 3 "UnitsWrongModel" (some .int) 6 156 _ _ := X
  unfold fM_dealt at hf
  show bz_J K 3 0 [(0, bz_rf E 81), (1, bz_i a1), (2, bz_i a2)] [] M
  refine j_iload_n X dM_dealt_0 rfl 1 rfl ?_
  refine j_i2l X rfl dM_dealt_1 ?_
  refine j_lconst X (v := 0) dM_dealt_2 rfl ?_
  refine j_aload_n X dM_dealt_3 rfl 0 rfl ?_
  refine j_geti X gf_M_302_81 dM_dealt_4 ?_
  refine j_iconst X dM_dealt_7 ?_
  refine j_isub X dM_dealt_8 ?_
  show bz_J _ _ 9 _ _ _
  refine j_i2l X rfl dM_dealt_9 ?_
  refine j_cs X (st := []) (cM_in E) gyM_in wd_1409 rfl (by decide) (by decide) wd_1408 rfl (Nat.le_of_ble_eq_true rfl) dM_dealt_10 ?_
  refine j_if_ne X (tgt := 20) rfl dM_dealt_13 (by decide) hf (fun hf => ?_) (fun hf => ?_)
  · refine j_iload_n X dM_dealt_20 rfl 2 rfl ?_
    rcases q_ite hf with ⟨hc0, hf⟩ | ⟨hc0, hf⟩
    · refine j_tabIn X (tgt := 68) (v := 0) hc0 dM_dealt_21 (by decide) (by decide) rfl (by decide) ?_
      refine j_aload_n X dM_dealt_68 rfl 0 rfl ?_
      refine j_geta X gf_M_74_81 dM_dealt_69 ?_
      refine j_iload_n X dM_dealt_72 rfl 1 rfl ?_
      refine j_iald X sh_103 dM_dealt_73 hf (fun x1 hf => ?_)
      refine j_bipush X dM_dealt_74 rfl ?_
      refine j_icmp_ge X (tgt := 88) rfl (w32_lit rfl) dM_dealt_76 (by decide) hf (fun hf => ?_) (fun hf => ?_)
      · refine j_aload_n X dM_dealt_88 rfl 0 rfl ?_
        refine j_geta X gf_M_74_81 dM_dealt_89 ?_
        refine j_iload_n X dM_dealt_92 rfl 1 rfl ?_
        refine j_iald X sh_103 dM_dealt_93 hf (fun x2 hf => ?_)
        refine j_bipush X dM_dealt_94 rfl ?_
        refine j_isub X dM_dealt_96 ?_
        refine j_bipush X dM_dealt_97 rfl ?_
        show bz_J _ _ 99 _ _ _
        refine j_iadd X dM_dealt_99 ?_
        cases hf
        exact j_iret X dM_dealt_100 rfl rfl
      · refine j_aload_n X dM_dealt_79 rfl 0 rfl ?_
        refine j_geta X gf_M_74_81 dM_dealt_80 ?_
        refine j_iload_n X dM_dealt_83 rfl 1 rfl ?_
        refine j_iald X sh_103 dM_dealt_84 hf (fun x3 hf => ?_)
        refine j_goto X (tgt := 100) dM_dealt_85 (by decide) ?_
        cases hf
        exact j_iret X dM_dealt_100 rfl rfl
    rcases q_ite hf with ⟨hc1, hf⟩ | ⟨hc1, hf⟩
    · refine j_tabIn X (tgt := 101) (v := 1) hc1 dM_dealt_21 (by decide) (by decide) rfl (by decide) ?_
      refine j_aload_n X dM_dealt_101 rfl 0 rfl ?_
      refine j_geta X gf_M_77_81 dM_dealt_102 ?_
      refine j_iload_n X dM_dealt_105 rfl 1 rfl ?_
      refine j_iald X sh_104 dM_dealt_106 hf (fun x4 hf => ?_)
      cases hf
      exact j_iret X dM_dealt_107 rfl rfl
    rcases q_ite hf with ⟨hc2, hf⟩ | ⟨hc2, hf⟩
    · refine j_tabIn X (tgt := 108) (v := 2) hc2 dM_dealt_21 (by decide) (by decide) rfl (by decide) ?_
      refine j_aload_n X dM_dealt_108 rfl 0 rfl ?_
      refine j_geta X gf_M_83_81 dM_dealt_109 ?_
      refine j_iload_n X dM_dealt_112 rfl 1 rfl ?_
      refine j_iald X sh_106 dM_dealt_113 hf (fun x5 hf => ?_)
      cases hf
      exact j_iret X dM_dealt_114 rfl rfl
    rcases q_ite hf with ⟨hc3, hf⟩ | ⟨hc3, hf⟩
    · refine j_tabIn X (tgt := 115) (v := 3) hc3 dM_dealt_21 (by decide) (by decide) rfl (by decide) ?_
      refine j_aload_n X dM_dealt_115 rfl 0 rfl ?_
      refine j_geta X gf_M_86_81 dM_dealt_116 ?_
      refine j_iload_n X dM_dealt_119 rfl 1 rfl ?_
      refine j_iald X sh_107 dM_dealt_120 hf (fun x6 hf => ?_)
      cases hf
      exact j_iret X dM_dealt_121 rfl rfl
    rcases q_ite hf with ⟨hc4, hf⟩ | ⟨hc4, hf⟩
    · refine j_tabIn X (tgt := 122) (v := 4) hc4 dM_dealt_21 (by decide) (by decide) rfl (by decide) ?_
      refine j_aload_n X dM_dealt_122 rfl 0 rfl ?_
      refine j_geta X gf_M_92_81 dM_dealt_123 ?_
      refine j_iload_n X dM_dealt_126 rfl 1 rfl ?_
      refine j_lald X sh_109 dM_dealt_127 hf (fun x7 hf => ?_)
      refine j_cs X (st := []) (cM_told E) gyM_told wd_1679 rfl (by decide) (by decide) wd_1678 rfl (Nat.le_of_ble_eq_true rfl) dM_dealt_128 ?_
      cases hf
      exact j_iret X dM_dealt_131 rfl rfl
    rcases q_ite hf with ⟨hc5, hf⟩ | ⟨hc5, hf⟩
    · refine j_tabIn X (tgt := 132) (v := 5) hc5 dM_dealt_21 (by decide) (by decide) rfl (by decide) ?_
      refine j_aload_n X dM_dealt_132 rfl 0 rfl ?_
      refine j_geta X gf_M_89_81 dM_dealt_133 ?_
      refine j_iload_n X dM_dealt_136 rfl 1 rfl ?_
      refine j_zald X sh_108 dM_dealt_137 hf (fun x8 hf => ?_)
      refine j_if_ne X (tgt := 143) rfl dM_dealt_138 (by decide) hf (fun hf => ?_) (fun hf => ?_)
      · refine j_aload_n X dM_dealt_143 rfl 0 rfl ?_
        refine j_aload_n X dM_dealt_144 rfl 0 rfl ?_
        refine j_aload_n X dM_dealt_145 rfl 0 rfl ?_
        refine j_cv X (st := [bz_rf E 81, bz_rf E 81]) (cM_known0 E) gyM_known0 gv_M_known0_81 rfl (by decide) (by decide) wd_1440 rfl (Nat.le_of_ble_eq_true rfl) dM_dealt_146 ?_
        refine j_cv X (st := [bz_rf E 81]) (cM_lastOver E) gyM_lastOver gv_M_lastOver_81 rfl (by decide) (by decide) wd_1698 rfl (Nat.le_of_ble_eq_true rfl) dM_dealt_149 ?_
        refine j_aload_n X dM_dealt_152 rfl 0 rfl ?_
        refine j_cv X (st := [bz_i (fM_lastOver M (fM_known0 M)), bz_rf E 81]) (cM_known0 E) gyM_known0 gv_M_known0_81 rfl (by decide) (by decide) wd_1440 rfl (Nat.le_of_ble_eq_true rfl) dM_dealt_153 ?_
        show bz_J _ _ 156 _ _ _
        refine j_iconst X dM_dealt_156 ?_
        obtain ⟨m9, hz, hf⟩ := q_cl hf
        refine j_cv X (st := []) (cM_through E F hz) gyM_through gv_M_through_81 rfl (by decide) (by decide) wd_1614 rfl (Nat.le_of_ble_eq_true rfl) dM_dealt_157 ?_
        clear hz
        refine j_iload_n X dM_dealt_160 rfl 2 rfl ?_
        refine j_iconst X dM_dealt_161 ?_
        obtain ⟨resJ10, hf0, hkJ10⟩ := q_l1 hf
        have J10 : ∀ (v11 : Int), some v11 = some resJ10 → bz_J K 3 183 [] [bz_l v11] m9 := by
          intro v11 he
          have hf := hkJ10 _ he
          refine j_cs X (st := []) (cM_told E) gyM_told wd_1679 rfl (by decide) (by decide) wd_1678 rfl (Nat.le_of_ble_eq_true rfl) dM_dealt_183 ?_
          cases hf
          exact j_iret X dM_dealt_186 rfl rfl
        clear hf
        have hf := hf0
        clear hf0
        refine j_icmp_ne X (tgt := 174) rfl (w32_lit rfl) dM_dealt_162 (by decide) hf (fun hf => ?_) (fun hf => ?_)
        · refine j_aload_n X dM_dealt_174 rfl 0 rfl ?_
          refine j_iload_n X dM_dealt_175 rfl 1 rfl ?_
          refine j_aload_n X dM_dealt_176 rfl 0 rfl ?_
          refine j_geta X gf_M_140_81 dM_dealt_177 ?_
          obtain ⟨x12, hzx12, hf⟩ := q_cl hf
          refine j_cv X (st := []) (cM_taxOf_189 E F hzx12) gyM_taxOf gv_M_taxOf_81 rfl (by decide) (by decide) wd_1762 rfl (Nat.le_of_ble_eq_true rfl) dM_dealt_180 ?_
          exact j_sub [] rfl (J10 _ hf)
        · refine j_aload_n X dM_dealt_165 rfl 0 rfl ?_
          refine j_geta X gf_M_140_81 dM_dealt_166 ?_
          refine j_iload_n X dM_dealt_169 rfl 1 rfl ?_
          refine j_lald X sh_189 dM_dealt_170 hf (fun x13 hf => ?_)
          refine j_goto X (tgt := 183) dM_dealt_171 (by decide) ?_
          exact j_sub [] rfl (J10 _ hf)
      · refine j_iconst X dM_dealt_141 ?_
        cases hf
        exact j_iret X dM_dealt_142 rfl rfl
    rcases q_ite hf with ⟨hc6, hf⟩ | ⟨hc6, hf⟩
    · refine j_tabIn X (tgt := 187) (v := 6) hc6 dM_dealt_21 (by decide) (by decide) rfl (by decide) ?_
      refine j_aload_n X dM_dealt_187 rfl 0 rfl ?_
      refine j_geta X gf_M_89_81 dM_dealt_188 ?_
      refine j_iload_n X dM_dealt_191 rfl 1 rfl ?_
      refine j_zald X sh_108 dM_dealt_192 hf (fun x14 hf => ?_)
      refine j_if_eq X (tgt := 211) rfl dM_dealt_193 (by decide) hf (fun hf => ?_) (fun hf => ?_)
      · refine j_iconst X dM_dealt_211 ?_
        cases hf
        exact j_iret X dM_dealt_212 rfl rfl
      · refine j_aload_n X dM_dealt_196 rfl 0 rfl ?_
        refine j_iload_n X dM_dealt_197 rfl 1 rfl ?_
        refine j_aload_n X dM_dealt_198 rfl 0 rfl ?_
        refine j_geta X gf_M_92_81 dM_dealt_199 ?_
        obtain ⟨x15, hzx15, hf⟩ := q_cl hf
        refine j_cv X (st := []) (cM_taxOf_109 E F hzx15) gyM_taxOf gv_M_taxOf_81 rfl (by decide) (by decide) wd_1762 rfl (Nat.le_of_ble_eq_true rfl) dM_dealt_202 ?_
        refine j_cs X (st := []) (cM_told E) gyM_told wd_1679 rfl (by decide) (by decide) wd_1678 rfl (Nat.le_of_ble_eq_true rfl) dM_dealt_205 ?_
        refine j_goto X (tgt := 212) dM_dealt_208 (by decide) ?_
        show bz_J _ _ 212 _ _ _
        cases hf
        exact j_iret X dM_dealt_212 rfl rfl
    rcases q_ite hf with ⟨hc7, hf⟩ | ⟨hc7, hf⟩
    · refine j_tabIn X (tgt := 132) (v := 7) hc7 dM_dealt_21 (by decide) (by decide) rfl (by decide) ?_
      refine j_aload_n X dM_dealt_132 rfl 0 rfl ?_
      refine j_geta X gf_M_89_81 dM_dealt_133 ?_
      refine j_iload_n X dM_dealt_136 rfl 1 rfl ?_
      refine j_zald X sh_108 dM_dealt_137 hf (fun x16 hf => ?_)
      refine j_if_ne X (tgt := 143) rfl dM_dealt_138 (by decide) hf (fun hf => ?_) (fun hf => ?_)
      · refine j_aload_n X dM_dealt_143 rfl 0 rfl ?_
        refine j_aload_n X dM_dealt_144 rfl 0 rfl ?_
        refine j_aload_n X dM_dealt_145 rfl 0 rfl ?_
        refine j_cv X (st := [bz_rf E 81, bz_rf E 81]) (cM_known0 E) gyM_known0 gv_M_known0_81 rfl (by decide) (by decide) wd_1440 rfl (Nat.le_of_ble_eq_true rfl) dM_dealt_146 ?_
        refine j_cv X (st := [bz_rf E 81]) (cM_lastOver E) gyM_lastOver gv_M_lastOver_81 rfl (by decide) (by decide) wd_1698 rfl (Nat.le_of_ble_eq_true rfl) dM_dealt_149 ?_
        refine j_aload_n X dM_dealt_152 rfl 0 rfl ?_
        refine j_cv X (st := [bz_i (fM_lastOver M (fM_known0 M)), bz_rf E 81]) (cM_known0 E) gyM_known0 gv_M_known0_81 rfl (by decide) (by decide) wd_1440 rfl (Nat.le_of_ble_eq_true rfl) dM_dealt_153 ?_
        show bz_J _ _ 156 _ _ _
        refine j_iconst X dM_dealt_156 ?_
        obtain ⟨m17, hz, hf⟩ := q_cl hf
        refine j_cv X (st := []) (cM_through E F hz) gyM_through gv_M_through_81 rfl (by decide) (by decide) wd_1614 rfl (Nat.le_of_ble_eq_true rfl) dM_dealt_157 ?_
        clear hz
        refine j_iload_n X dM_dealt_160 rfl 2 rfl ?_
        refine j_iconst X dM_dealt_161 ?_
        obtain ⟨resJ18, hf0, hkJ18⟩ := q_l1 hf
        have J18 : ∀ (v19 : Int), some v19 = some resJ18 → bz_J K 3 183 [] [bz_l v19] m17 := by
          intro v19 he
          have hf := hkJ18 _ he
          refine j_cs X (st := []) (cM_told E) gyM_told wd_1679 rfl (by decide) (by decide) wd_1678 rfl (Nat.le_of_ble_eq_true rfl) dM_dealt_183 ?_
          cases hf
          exact j_iret X dM_dealt_186 rfl rfl
        clear hf
        have hf := hf0
        clear hf0
        refine j_icmp_ne X (tgt := 174) rfl (w32_lit rfl) dM_dealt_162 (by decide) hf (fun hf => ?_) (fun hf => ?_)
        · refine j_aload_n X dM_dealt_174 rfl 0 rfl ?_
          refine j_iload_n X dM_dealt_175 rfl 1 rfl ?_
          refine j_aload_n X dM_dealt_176 rfl 0 rfl ?_
          refine j_geta X gf_M_140_81 dM_dealt_177 ?_
          obtain ⟨x20, hzx20, hf⟩ := q_cl hf
          refine j_cv X (st := []) (cM_taxOf_189 E F hzx20) gyM_taxOf gv_M_taxOf_81 rfl (by decide) (by decide) wd_1762 rfl (Nat.le_of_ble_eq_true rfl) dM_dealt_180 ?_
          exact j_sub [] rfl (J18 _ hf)
        · refine j_aload_n X dM_dealt_165 rfl 0 rfl ?_
          refine j_geta X gf_M_140_81 dM_dealt_166 ?_
          refine j_iload_n X dM_dealt_169 rfl 1 rfl ?_
          refine j_lald X sh_189 dM_dealt_170 hf (fun x21 hf => ?_)
          refine j_goto X (tgt := 183) dM_dealt_171 (by decide) ?_
          exact j_sub [] rfl (J18 _ hf)
      · refine j_iconst X dM_dealt_141 ?_
        cases hf
        exact j_iret X dM_dealt_142 rfl rfl
    refine j_tabOut X (tgt := 213) (by omega) dM_dealt_21 (by decide) ?_
    refine j_ldcw X (v := -2147483648) wd_1448 dM_dealt_213 ?_
    cases hf
    exact j_iret X dM_dealt_216 rfl rfl
  · refine j_ldcw X (v := -2147483648) wd_1448 dM_dealt_16 ?_
    cases hf
    exact j_iret X dM_dealt_19 rfl rfl
def fM_gone (F : Nat) (M : bz_Mm) (a1 : Int) : Option (Int × bz_Mm) :=
  if w32 (fM_in (w32 a1) 0 (w32 ((M 81 20) - 1))) = 0 then
  (some ((0, M)))
  else
  (rd_ M 95 a1 16 fun x1 =>
  if w32 x1 = (-1) then
  (wa_ M 95 a1 16 (M 81 0) fun m2 =>
  some ((1, m2)))
  else
  (some ((0, M))))
set_option maxHeartbeats 4000000 in
set_option maxRecDepth 20000 in
theorem cM_gone (E : bz_E) (F : Nat)  {M : bz_Mm} {a1 : Int} {x0 : Int × bz_Mm} (hf : fM_gone F M a1 = some x0) : bz_Ct E yM_gone (.code yM_gone prog_14_method_84_code 2 (some .boolean)) 1 25 [bz_rf E 81, bz_i a1] M (some (bz_i x0.1)) x0.2 := by
  refine bz_met (by decide +kernel) (Nat.le_of_ble_eq_true rfl) (fun K X => ?_)
  have X : bz_X K E prog_14_method_84_code 2 "UnitsWrongModel" (some .boolean) 1 25 _ _ := X
  unfold fM_gone at hf
  show bz_J K 2 0 [(0, bz_rf E 81), (1, bz_i a1)] [] M
  refine j_iload_n X dM_gone_0 rfl 1 rfl ?_
  refine j_i2l X rfl dM_gone_1 ?_
  refine j_lconst X (v := 0) dM_gone_2 rfl ?_
  refine j_aload_n X dM_gone_3 rfl 0 rfl ?_
  refine j_geti X gf_M_284_81 dM_gone_4 ?_
  refine j_iconst X dM_gone_7 ?_
  refine j_isub X dM_gone_8 ?_
  show bz_J _ _ 9 _ _ _
  refine j_i2l X rfl dM_gone_9 ?_
  refine j_cs X (st := []) (cM_in E) gyM_in wd_1409 rfl (by decide) (by decide) wd_1408 rfl (Nat.le_of_ble_eq_true rfl) dM_gone_10 ?_
  refine j_if_eq X (tgt := 26) rfl dM_gone_13 (by decide) hf (fun hf => ?_) (fun hf => ?_)
  · refine j_iconst X dM_gone_26 ?_
    cases hf
    exact j_zret X (by decide +kernel) dM_gone_27 rfl rfl
  · refine j_aload_n X dM_gone_16 rfl 0 rfl ?_
    refine j_geta X gf_M_50_81 dM_gone_17 ?_
    refine j_iload_n X dM_gone_20 rfl 1 rfl ?_
    refine j_iald X sh_95 dM_gone_21 hf (fun x1 hf => ?_)
    refine j_iconst X dM_gone_22 ?_
    refine j_icmp_eq X (tgt := 28) rfl (w32_lit rfl) dM_gone_23 (by decide) hf (fun hf => ?_) (fun hf => ?_)
    · refine j_aload_n X dM_gone_28 rfl 0 rfl ?_
      refine j_geta X gf_M_50_81 dM_gone_29 ?_
      refine j_iload_n X dM_gone_32 rfl 1 rfl ?_
      refine j_aload_n X dM_gone_33 rfl 0 rfl ?_
      refine j_geti X gf_M_216_81 dM_gone_34 ?_
      refine j_iast X sh_95 dM_gone_37 hf (fun m2 hf => ?_)
      refine j_iconst X dM_gone_38 ?_
      show bz_J _ _ 39 _ _ _
      cases hf
      exact j_zret X (by decide +kernel) dM_gone_39 rfl rfl
    · refine j_iconst X dM_gone_26 ?_
      cases hf
      exact j_zret X (by decide +kernel) dM_gone_27 rfl rfl
def fM_found (F : Nat) (M : bz_Mm) (a1 : Int) : Option (Int × bz_Mm) :=
  if w32 (fM_isFund M a1) = 0 then
  (some ((0, M)))
  else
  (rd_ M 96 a1 4 fun x1 =>
  if w32 x1 = (-1) then
  (if w32 (M 81 0) = 260 then
  (some ((0, M)))
  else
  (wa_ M 96 a1 4 (M 81 0) fun m2 =>
  some ((1, m2))))
  else
  (some ((0, M))))
set_option maxHeartbeats 4000000 in
set_option maxRecDepth 20000 in
theorem cM_found (E : bz_E) (F : Nat)  {M : bz_Mm} {a1 : Int} {x0 : Int × bz_Mm} (hf : fM_found F M a1 = some x0) : bz_Ct E yM_found (.code yM_found prog_14_method_85_code 2 (some .boolean)) 2 46 [bz_rf E 81, bz_i a1] M (some (bz_i x0.1)) x0.2 := by
  refine bz_met (by decide +kernel) (Nat.le_of_ble_eq_true rfl) (fun K X => ?_)
  have X : bz_X K E prog_14_method_85_code 2 "UnitsWrongModel" (some .boolean) 2 46 _ _ := X
  unfold fM_found at hf
  show bz_J K 2 0 [(0, bz_rf E 81), (1, bz_i a1)] [] M
  refine j_aload_n X dM_found_0 rfl 0 rfl ?_
  refine j_iload_n X dM_found_1 rfl 1 rfl ?_
  refine j_cv X (st := []) (cM_isFund E) gyM_isFund gv_M_isFund_81 rfl (by decide) (by decide) wd_1479 rfl (Nat.le_of_ble_eq_true rfl) dM_found_2 ?_
  refine j_if_eq X (tgt := 28) rfl dM_found_5 (by decide) hf (fun hf => ?_) (fun hf => ?_)
  · refine j_iconst X dM_found_28 ?_
    cases hf
    exact j_zret X (by decide +kernel) dM_found_29 rfl rfl
  · refine j_aload_n X dM_found_8 rfl 0 rfl ?_
    refine j_geta X gf_M_53_81 dM_found_9 ?_
    refine j_iload_n X dM_found_12 rfl 1 rfl ?_
    refine j_iald X sh_96 dM_found_13 hf (fun x1 hf => ?_)
    refine j_iconst X dM_found_14 ?_
    refine j_icmp_ne X (tgt := 28) rfl (w32_lit rfl) dM_found_15 (by decide) hf (fun hf => ?_) (fun hf => ?_)
    · refine j_iconst X dM_found_28 ?_
      cases hf
      exact j_zret X (by decide +kernel) dM_found_29 rfl rfl
    · refine j_aload_n X dM_found_18 rfl 0 rfl ?_
      refine j_geti X gf_M_216_81 dM_found_19 ?_
      refine j_sipush X dM_found_22 rfl ?_
      refine j_icmp_ne X (tgt := 30) rfl (w32_lit rfl) dM_found_25 (by decide) hf (fun hf => ?_) (fun hf => ?_)
      · refine j_aload_n X dM_found_30 rfl 0 rfl ?_
        refine j_geta X gf_M_53_81 dM_found_31 ?_
        refine j_iload_n X dM_found_34 rfl 1 rfl ?_
        refine j_aload_n X dM_found_35 rfl 0 rfl ?_
        refine j_geti X gf_M_216_81 dM_found_36 ?_
        refine j_iast X sh_96 dM_found_39 hf (fun m2 hf => ?_)
        refine j_iconst X dM_found_40 ?_
        show bz_J _ _ 41 _ _ _
        cases hf
        exact j_zret X (by decide +kernel) dM_found_41 rfl rfl
      · refine j_iconst X dM_found_28 ?_
        cases hf
        exact j_zret X (by decide +kernel) dM_found_29 rfl rfl
def M_due_L41 (F : Nat) : Nat → bz_Mm → Int → Int → Option (Int)
  | 0, _, _, _ => none
  | n + 1, M, l3, l2 =>
    if 0 < w32 l2 then
    (if w32 l3 < 260 then
    (cl_ (fM_isOpen F M (l3 + 1)) fun x5 =>
    if w32 x5 = 0 then
    (M_due_L41 F n M (l3 + 1) l2)
    else
    (M_due_L41 F n M (l3 + 1) (l2 + (-1))))
    else
    (some l3))
    else
    (some l3)
theorem lM_due_L41 (E : bz_E) (F : Nat) {K : bz_K} {rv : Option Value} {M1 : bz_Mm} (X : bz_X K E prog_14_method_86_code 4 "UnitsWrongModel" (some .int) 2 46 rv M1) {M : bz_Mm} {res : (Int)}
    (kx : ∀ (l3 : Int), some l3 = some res → bz_J K 4 69 [(3, bz_i l3)] [] M) :
    ∀ (n : Nat) (l3 : Int) (l2 : Int), M_due_L41 F n M l3 l2 = some res → bz_J K 4 41 [(3, bz_i l3), (2, bz_i l2), (0, bz_rf E 81)] [] M := by
  intro n
  induction n with
  | zero => intro l3 l2 hf; cases hf
  | succ n ih =>
    intro l3 l2 hf
    rw [M_due_L41] at hf
    refine j_iload_n X dM_due_41 rfl 1 rfl ?_
    refine j_if_le X (tgt := 69) rfl dM_due_42 (by decide) hf (fun hf => ?_) (fun hf => ?_)
    · exact j_sub [0] rfl (kx _ hf)
    · refine j_iload_n X dM_due_45 rfl 0 rfl ?_
      refine j_sipush X dM_due_46 rfl ?_
      refine j_icmp_ge X (tgt := 69) rfl (w32_lit rfl) dM_due_49 (by decide) hf (fun hf => ?_) (fun hf => ?_)
      · exact j_sub [0] rfl (kx _ hf)
      · refine j_iinc X (y := l3 + 1) (lv' := [(3, bz_i (l3 + 1)), (2, bz_i l2), (0, bz_rf E 81)]) dM_due_52 0 rfl rfl (by decide) rfl ?_
        refine j_aload_n X dM_due_55 rfl 2 rfl ?_
        refine j_iload_n X dM_due_56 rfl 0 rfl ?_
        obtain ⟨x5, hzx5, hf⟩ := q_cl hf
        refine j_cv X (st := []) (cM_isOpen E F hzx5) gyM_isOpen gv_M_isOpen_81 rfl (by decide) (by decide) wd_1415 rfl (Nat.le_of_ble_eq_true rfl) dM_due_57 ?_
        refine j_if_eq X (tgt := 41) rfl dM_due_60 (by decide) hf (fun hf => ?_) (fun hf => ?_)
        · exact ih _ _ hf
        · refine j_iinc X (y := l2 + (-1)) (lv' := [(2, bz_i (l2 + (-1))), (3, bz_i (l3 + 1)), (0, bz_rf E 81)]) dM_due_63 1 rfl rfl (by decide) rfl ?_
          refine j_goto X (tgt := 41) dM_due_66 (by decide) ?_
          exact j_sub [1, 0, 2] rfl (ih _ _ hf)
def fM_due (F : Nat) (M : bz_Mm) (a1 : Int) : Option (Int) :=
  if w32 (fM_isFund M a1) = 0 then
  (some ((-1)))
  else
  (rd_ M 96 a1 4 fun x1 =>
  if w32 x1 = (-1) then
  (some ((-1)))
  else
  (rd_ M 96 a1 4 fun x2 =>
  cl_ (fM_ruleOf F M a1 x2 11) fun x3 =>
  rd_ M 96 a1 4 fun x4 =>
  cl1_ (M_due_L41 F F M x4 x3) fun l3 =>
  if w32 l3 < 260 then
  (some l3)
  else
  (some ((-1)))))
set_option maxHeartbeats 4000000 in
set_option maxRecDepth 20000 in
theorem cM_due (E : bz_E) (F : Nat)  {M : bz_Mm} {a1 : Int} {x0 : Int} (hf : fM_due F M a1 = some x0) : bz_Ct E yM_due (.code yM_due prog_14_method_86_code 4 (some .int)) 2 46 [bz_rf E 81, bz_i a1] M (some (bz_i x0)) M := by
  refine bz_met (by decide +kernel) (Nat.le_of_ble_eq_true rfl) (fun K X => ?_)
  have X : bz_X K E prog_14_method_86_code 4 "UnitsWrongModel" (some .int) 2 46 _ _ := X
  unfold fM_due at hf
  show bz_J K 4 0 [(0, bz_rf E 81), (1, bz_i a1)] [] M
  refine j_aload_n X dM_due_0 rfl 0 rfl ?_
  refine j_iload_n X dM_due_1 rfl 1 rfl ?_
  refine j_cv X (st := []) (cM_isFund E) gyM_isFund gv_M_isFund_81 rfl (by decide) (by decide) wd_1479 rfl (Nat.le_of_ble_eq_true rfl) dM_due_2 ?_
  refine j_if_eq X (tgt := 18) rfl dM_due_5 (by decide) hf (fun hf => ?_) (fun hf => ?_)
  · refine j_iconst X dM_due_18 ?_
    cases hf
    exact j_iret X dM_due_19 rfl rfl
  · refine j_aload_n X dM_due_8 rfl 0 rfl ?_
    refine j_geta X gf_M_53_81 dM_due_9 ?_
    refine j_iload_n X dM_due_12 rfl 1 rfl ?_
    refine j_iald X sh_96 dM_due_13 hf (fun x1 hf => ?_)
    refine j_iconst X dM_due_14 ?_
    refine j_icmp_ne X (tgt := 20) rfl (w32_lit rfl) dM_due_15 (by decide) hf (fun hf => ?_) (fun hf => ?_)
    · refine j_aload_n X dM_due_20 rfl 0 rfl ?_
      refine j_iload_n X dM_due_21 rfl 1 rfl ?_
      refine j_aload_n X dM_due_22 rfl 0 rfl ?_
      refine j_geta X gf_M_53_81 dM_due_23 ?_
      refine j_iload_n X dM_due_26 rfl 1 rfl ?_
      refine j_iald X sh_96 dM_due_27 hf (fun x2 hf => ?_)
      refine j_bipush X dM_due_28 rfl ?_
      show bz_J _ _ 30 _ _ _
      obtain ⟨x3, hzx3, hf⟩ := q_cl hf
      refine j_cv X (st := []) (cM_ruleOf E F hzx3) gyM_ruleOf gv_M_ruleOf_81 rfl (by decide) (by decide) wd_1494 rfl (Nat.le_of_ble_eq_true rfl) dM_due_30 ?_
      refine j_istore_n X (lv' := [(2, bz_i x3), (0, bz_rf E 81), (1, bz_i a1)]) dM_due_33 rfl (by decide) rfl ?_
      refine j_aload_n X dM_due_34 rfl 1 rfl ?_
      refine j_geta X gf_M_53_81 dM_due_35 ?_
      refine j_iload_n X dM_due_38 rfl 2 rfl ?_
      refine j_iald X sh_96 dM_due_39 hf (fun x4 hf => ?_)
      refine j_istore_n X (lv' := [(3, bz_i x4), (2, bz_i x3), (0, bz_rf E 81), (1, bz_i a1)]) dM_due_40 rfl (by decide) rfl ?_
      obtain ⟨res6, hz6, hk6⟩ := q_l1 hf
      clear hf
      refine j_sub [0, 1, 2] rfl ?_
      refine lM_due_L41 E F X (fun l3 he => ?_) F x4 x3 hz6
      have hf := hk6 _ he
      refine j_iload_n X dM_due_69 rfl 0 rfl ?_
      refine j_sipush X dM_due_70 rfl ?_
      refine j_icmp_ge X (tgt := 80) rfl (w32_lit rfl) dM_due_73 (by decide) hf (fun hf => ?_) (fun hf => ?_)
      · refine j_iconst X dM_due_80 ?_
        cases hf
        exact j_iret X dM_due_81 rfl rfl
      · refine j_iload_n X dM_due_76 rfl 0 rfl ?_
        refine j_goto X (tgt := 81) dM_due_77 (by decide) ?_
        cases hf
        exact j_iret X dM_due_81 rfl rfl
    · refine j_iconst X dM_due_18 ?_
      cases hf
      exact j_iret X dM_due_19 rfl rfl
def fM_audit (F : Nat) (M : bz_Mm) (a1 : Int) (a2 : Int) (a3 : Int) : Option (Int × bz_Mm) :=
  cl_ (fM_isOver F M a1 a2) fun x1 =>
  if w32 x1 = 0 then
  (some (((-1), M)))
  else
  (if w32 (fM_in (w32 a3) 0 10000000) = 0 then
  (some (((-1), M)))
  else
  (if w32 (M 81 69) = 8 then
  (some (((-1), M)))
  else
  (wa_ M 227 (M 81 69) 8 a1 fun m2 =>
  wa_ m2 228 (m2 81 69) 8 a2 fun m3 =>
  wa_ m3 229 (m3 81 69) 8 a3 fun m4 =>
  wf_ m4 81 69 ((m4 81 69) + 1) fun m5 =>
  some ((m5 81 69, m5)))))
set_option maxHeartbeats 4000000 in
set_option maxRecDepth 20000 in
theorem cM_audit (E : bz_E) (F : Nat)  {M : bz_Mm} {a1 : Int} {a2 : Int} {a3 : Int} {x0 : Int × bz_Mm} (hf : fM_audit F M a1 a2 a3 = some x0) : bz_Ct E yM_audit (.code yM_audit prog_14_method_87_code 4 (some .int)) 3 68 [bz_rf E 81, bz_i a1, bz_i a2, bz_i a3] M (some (bz_i x0.1)) x0.2 := by
  refine bz_met (by decide +kernel) (Nat.le_of_ble_eq_true rfl) (fun K X => ?_)
  have X : bz_X K E prog_14_method_87_code 4 "UnitsWrongModel" (some .int) 3 68 _ _ := X
  unfold fM_audit at hf
  show bz_J K 4 0 [(0, bz_rf E 81), (1, bz_i a1), (2, bz_i a2), (3, bz_i a3)] [] M
  refine j_aload_n X dM_audit_0 rfl 0 rfl ?_
  refine j_iload_n X dM_audit_1 rfl 1 rfl ?_
  refine j_iload_n X dM_audit_2 rfl 2 rfl ?_
  obtain ⟨x1, hzx1, hf⟩ := q_cl hf
  refine j_cv X (st := []) (cM_isOver E F hzx1) gyM_isOver gv_M_isOver_81 rfl (by decide) (by decide) wd_1674 rfl (Nat.le_of_ble_eq_true rfl) dM_audit_3 ?_
  refine j_if_eq X (tgt := 30) rfl dM_audit_6 (by decide) hf (fun hf => ?_) (fun hf => ?_)
  · refine j_iconst X dM_audit_30 ?_
    cases hf
    exact j_iret X dM_audit_31 rfl rfl
  · refine j_iload_n X dM_audit_9 rfl 3 rfl ?_
    refine j_i2l X rfl dM_audit_10 ?_
    refine j_lconst X (v := 0) dM_audit_11 rfl ?_
    refine j_ldc2 X (v := 10000000) wd_1652 dM_audit_12 ?_
    refine j_cs X (st := []) (cM_in E) gyM_in wd_1409 rfl (by decide) (by decide) wd_1408 rfl (Nat.le_of_ble_eq_true rfl) dM_audit_15 ?_
    refine j_if_eq X (tgt := 30) rfl dM_audit_18 (by decide) hf (fun hf => ?_) (fun hf => ?_)
    · refine j_iconst X dM_audit_30 ?_
      cases hf
      exact j_iret X dM_audit_31 rfl rfl
    · refine j_aload_n X dM_audit_21 rfl 0 rfl ?_
      refine j_geti X gf_M_523_81 dM_audit_22 ?_
      refine j_bipush X dM_audit_25 rfl ?_
      refine j_icmp_ne X (tgt := 32) rfl (w32_lit rfl) dM_audit_27 (by decide) hf (fun hf => ?_) (fun hf => ?_)
      · refine j_aload_n X dM_audit_32 rfl 0 rfl ?_
        refine j_geta X gf_M_184_81 dM_audit_33 ?_
        refine j_aload_n X dM_audit_36 rfl 0 rfl ?_
        refine j_geti X gf_M_523_81 dM_audit_37 ?_
        refine j_iload_n X dM_audit_40 rfl 1 rfl ?_
        refine j_iast X sh_227 dM_audit_41 hf (fun m2 hf => ?_)
        refine j_aload_n X dM_audit_42 rfl 0 rfl ?_
        show bz_J _ _ 43 _ _ _
        refine j_geta X gf_M_187_81 dM_audit_43 ?_
        refine j_aload_n X dM_audit_46 rfl 0 rfl ?_
        refine j_geti X gf_M_523_81 dM_audit_47 ?_
        refine j_iload_n X dM_audit_50 rfl 2 rfl ?_
        refine j_iast X sh_228 dM_audit_51 hf (fun m3 hf => ?_)
        refine j_aload_n X dM_audit_52 rfl 0 rfl ?_
        refine j_geta X gf_M_190_81 dM_audit_53 ?_
        refine j_aload_n X dM_audit_56 rfl 0 rfl ?_
        show bz_J _ _ 57 _ _ _
        refine j_geti X gf_M_523_81 dM_audit_57 ?_
        refine j_iload_n X dM_audit_60 rfl 3 rfl ?_
        refine j_iast X sh_229 dM_audit_61 hf (fun m4 hf => ?_)
        refine j_aload_n X dM_audit_62 rfl 0 rfl ?_
        refine j_dup X dM_audit_63 rfl ?_
        refine j_geti X gf_M_523_81 dM_audit_64 ?_
        refine j_iconst X dM_audit_67 ?_
        refine j_iadd X dM_audit_68 ?_
        show bz_J _ _ 69 _ _ _
        refine j_puti X pf_M_523_81 dM_audit_69 hf (fun m5 hf => ?_)
        refine j_aload_n X dM_audit_72 rfl 0 rfl ?_
        refine j_geti X gf_M_523_81 dM_audit_73 ?_
        cases hf
        exact j_iret X dM_audit_76 rfl rfl
      · refine j_iconst X dM_audit_30 ?_
        cases hf
        exact j_iret X dM_audit_31 rfl rfl
def fM_suspect (F : Nat) (M : bz_Mm) (a1 : Int) (a2 : Int) (a3 : Int) (a4 : Int) : Option (Int × bz_Mm) :=
  if w32 (fM_canTell a1 a2 a3 a4) = 0 then
  (some (((-1), M)))
  else
  (if w32 (M 81 13) = 7 then
  (some (((-1), M)))
  else
  (wa_ M 88 (M 81 13) 7 a1 fun m1 =>
  wa_ m1 89 (m1 81 13) 7 a2 fun m2 =>
  wa_ m2 90 (m2 81 13) 7 a3 fun m3 =>
  wa_ m3 91 (m3 81 13) 7 a4 fun m4 =>
  wf_ m4 81 13 ((m4 81 13) + 1) fun m5 =>
  some (((m5 81 13) - 1, m5))))
set_option maxHeartbeats 4000000 in
set_option maxRecDepth 20000 in
theorem cM_suspect (E : bz_E) (F : Nat)  {M : bz_Mm} {a1 : Int} {a2 : Int} {a3 : Int} {a4 : Int} {x0 : Int × bz_Mm} (hf : fM_suspect F M a1 a2 a3 a4 = some x0) : bz_Ct E yM_suspect (.code yM_suspect prog_14_method_88_code 5 (some .int)) 3 69 [bz_rf E 81, bz_i a1, bz_i a2, bz_i a3, bz_i a4] M (some (bz_i x0.1)) x0.2 := by
  refine bz_met (by decide +kernel) (Nat.le_of_ble_eq_true rfl) (fun K X => ?_)
  have X : bz_X K E prog_14_method_88_code 5 "UnitsWrongModel" (some .int) 3 69 _ _ := X
  unfold fM_suspect at hf
  show bz_J K 5 0 [(0, bz_rf E 81), (1, bz_i a1), (2, bz_i a2), (3, bz_i a3), (4, bz_i a4)] [] M
  refine j_iload_n X dM_suspect_0 rfl 1 rfl ?_
  refine j_iload_n X dM_suspect_1 rfl 2 rfl ?_
  refine j_iload_n X dM_suspect_2 rfl 3 rfl ?_
  refine j_iload X dM_suspect_3 4 rfl ?_
  refine j_cs X (st := []) (cM_canTell E) gyM_canTell wd_1424 rfl (by decide) (by decide) wd_1423 rfl (Nat.le_of_ble_eq_true rfl) dM_suspect_5 ?_
  refine j_if_eq X (tgt := 20) rfl dM_suspect_8 (by decide) hf (fun hf => ?_) (fun hf => ?_)
  · refine j_iconst X dM_suspect_20 ?_
    cases hf
    exact j_iret X dM_suspect_21 rfl rfl
  · refine j_aload_n X dM_suspect_11 rfl 0 rfl ?_
    refine j_geti X gf_M_526_81 dM_suspect_12 ?_
    refine j_bipush X dM_suspect_15 rfl ?_
    refine j_icmp_ne X (tgt := 22) rfl (w32_lit rfl) dM_suspect_17 (by decide) hf (fun hf => ?_) (fun hf => ?_)
    · refine j_aload_n X dM_suspect_22 rfl 0 rfl ?_
      refine j_geta X gf_M_29_81 dM_suspect_23 ?_
      refine j_aload_n X dM_suspect_26 rfl 0 rfl ?_
      refine j_geti X gf_M_526_81 dM_suspect_27 ?_
      refine j_iload_n X dM_suspect_30 rfl 1 rfl ?_
      refine j_iast X sh_88 dM_suspect_31 hf (fun m1 hf => ?_)
      refine j_aload_n X dM_suspect_32 rfl 0 rfl ?_
      show bz_J _ _ 33 _ _ _
      refine j_geta X gf_M_32_81 dM_suspect_33 ?_
      refine j_aload_n X dM_suspect_36 rfl 0 rfl ?_
      refine j_geti X gf_M_526_81 dM_suspect_37 ?_
      refine j_iload_n X dM_suspect_40 rfl 2 rfl ?_
      refine j_iast X sh_89 dM_suspect_41 hf (fun m2 hf => ?_)
      refine j_aload_n X dM_suspect_42 rfl 0 rfl ?_
      refine j_geta X gf_M_35_81 dM_suspect_43 ?_
      refine j_aload_n X dM_suspect_46 rfl 0 rfl ?_
      show bz_J _ _ 47 _ _ _
      refine j_geti X gf_M_526_81 dM_suspect_47 ?_
      refine j_iload_n X dM_suspect_50 rfl 3 rfl ?_
      refine j_iast X sh_90 dM_suspect_51 hf (fun m3 hf => ?_)
      refine j_aload_n X dM_suspect_52 rfl 0 rfl ?_
      refine j_geta X gf_M_38_81 dM_suspect_53 ?_
      refine j_aload_n X dM_suspect_56 rfl 0 rfl ?_
      refine j_geti X gf_M_526_81 dM_suspect_57 ?_
      refine j_iload X dM_suspect_60 4 rfl ?_
      show bz_J _ _ 62 _ _ _
      refine j_iast X sh_91 dM_suspect_62 hf (fun m4 hf => ?_)
      refine j_aload_n X dM_suspect_63 rfl 0 rfl ?_
      refine j_dup X dM_suspect_64 rfl ?_
      refine j_geti X gf_M_526_81 dM_suspect_65 ?_
      refine j_iconst X dM_suspect_68 ?_
      refine j_iadd X dM_suspect_69 ?_
      refine j_puti X pf_M_526_81 dM_suspect_70 hf (fun m5 hf => ?_)
      refine j_aload_n X dM_suspect_73 rfl 0 rfl ?_
      show bz_J _ _ 74 _ _ _
      refine j_geti X gf_M_526_81 dM_suspect_74 ?_
      refine j_iconst X dM_suspect_77 ?_
      refine j_isub X dM_suspect_78 ?_
      cases hf
      exact j_iret X dM_suspect_79 rfl rfl
    · refine j_iconst X dM_suspect_20 ?_
      cases hf
      exact j_iret X dM_suspect_21 rfl rfl
def fM_forget (F : Nat) (M : bz_Mm) : Option (Int × bz_Mm) :=
  lt_ ((M 81 69) + (M 81 13)) fun l1 =>
  wf_ M 81 69 0 fun m1 =>
  wf_ m1 81 13 0 fun m2 =>
  some ((l1, m2))
set_option maxHeartbeats 4000000 in
set_option maxRecDepth 20000 in
theorem cM_forget (E : bz_E) (F : Nat)  {M : bz_Mm} {x0 : Int × bz_Mm} (hf : fM_forget F M = some x0) : bz_Ct E yM_forget (.code yM_forget prog_14_method_89_code 2 (some .int)) 0 0 [bz_rf E 81] M (some (bz_i x0.1)) x0.2 := by
  refine bz_met (by decide +kernel) (Nat.le_of_ble_eq_true rfl) (fun K X => ?_)
  have X : bz_X K E prog_14_method_89_code 2 "UnitsWrongModel" (some .int) 0 0 _ _ := X
  unfold fM_forget at hf
  show bz_J K 2 0 [(0, bz_rf E 81)] [] M
  refine j_aload_n X dM_forget_0 rfl 0 rfl ?_
  refine j_geti X gf_M_523_81 dM_forget_1 ?_
  refine j_aload_n X dM_forget_4 rfl 0 rfl ?_
  refine j_geti X gf_M_526_81 dM_forget_5 ?_
  refine j_iadd X dM_forget_8 ?_
  refine j_lt (g := bz_i) hf (fun l1 hf => ?_)
  refine j_istore_n X (lv' := [(1, bz_i l1), (0, bz_rf E 81)]) dM_forget_9 rfl (by decide) rfl ?_
  refine j_aload_n X dM_forget_10 rfl 1 rfl ?_
  show bz_J _ _ 11 _ _ _
  refine j_iconst X dM_forget_11 ?_
  refine j_puti X pf_M_523_81 dM_forget_12 hf (fun m1 hf => ?_)
  refine j_aload_n X dM_forget_15 rfl 1 rfl ?_
  refine j_iconst X dM_forget_16 ?_
  refine j_puti X pf_M_526_81 dM_forget_17 hf (fun m2 hf => ?_)
  refine j_iload_n X dM_forget_20 rfl 0 rfl ?_
  cases hf
  exact j_iret X dM_forget_21 rfl rfl
def M_many_L4 (F : Nat) : Nat → bz_Mm → Int → Int → Int → Option (Int)
  | 0, _, _, _, _ => none
  | n + 1, M, l0, l2, l1 =>
    if w32 l2 < 7 then
    (lt_ (l1 + (ia_ (sr_ l0 l2) 1)) fun l1 =>
    M_many_L4 F n M l0 (l2 + 1) l1)
    else
    (some l1)
theorem lM_many_L4 (E : bz_E) (F : Nat) {K : bz_K} {rv : Option Value} {M1 : bz_Mm} (X : bz_X K E prog_14_method_91_code 3 "UnitsWrongModel" (some .int) 0 0 rv M1) {M : bz_Mm} {l0 : Int} {res : (Int)}
    (kx : ∀ (l1 : Int), some l1 = some res → bz_J K 3 24 [(1, bz_i l1)] [] M) :
    ∀ (n : Nat) (l2 : Int) (l1 : Int), M_many_L4 F n M l0 l2 l1 = some res → bz_J K 3 4 [(2, bz_i l2), (1, bz_i l1), (0, bz_i l0)] [] M := by
  intro n
  induction n with
  | zero => intro l2 l1 hf; cases hf
  | succ n ih =>
    intro l2 l1 hf
    rw [M_many_L4] at hf
    refine j_iload_n X dM_many_4 rfl 0 rfl ?_
    refine j_bipush X dM_many_5 rfl ?_
    refine j_icmp_ge X (tgt := 24) rfl (w32_lit rfl) dM_many_7 (by decide) hf (fun hf => ?_) (fun hf => ?_)
    · exact j_sub [1] rfl (kx _ hf)
    · refine j_iload_n X dM_many_10 rfl 1 rfl ?_
      refine j_iload_n X dM_many_11 rfl 2 rfl ?_
      refine j_iload_n X dM_many_12 rfl 0 rfl ?_
      refine j_ishr X dM_many_13 ?_
      refine j_iconst X dM_many_14 ?_
      refine j_iand X dM_many_15 ?_
      refine j_iadd X dM_many_16 ?_
      show bz_J _ _ 17 _ _ _
      refine j_lt (g := bz_i) hf (fun l1 hf => ?_)
      refine j_istore_n X (lv' := [(1, bz_i l1), (2, bz_i l2), (0, bz_i l0)]) dM_many_17 rfl (by decide) rfl ?_
      refine j_iinc X (y := l2 + 1) (lv' := [(2, bz_i (l2 + 1)), (1, bz_i l1), (0, bz_i l0)]) dM_many_18 1 rfl rfl (by decide) rfl ?_
      refine j_goto X (tgt := 4) dM_many_21 (by decide) ?_
      exact ih _ _ hf
def fM_many (F : Nat) (M : bz_Mm) (a0 : Int) : Option (Int) :=
  cl1_ (M_many_L4 F F M a0 0 0) fun l1 =>
  some l1
set_option maxHeartbeats 4000000 in
set_option maxRecDepth 20000 in
theorem cM_many (E : bz_E) (F : Nat)  {M : bz_Mm} {a0 : Int} {x0 : Int} (hf : fM_many F M a0 = some x0) : bz_Ct E yM_many (.code yM_many prog_14_method_91_code 3 (some .int)) 0 0 [bz_i a0] M (some (bz_i x0)) M := by
  refine bz_met (by decide +kernel) (Nat.le_of_ble_eq_true rfl) (fun K X => ?_)
  have X : bz_X K E prog_14_method_91_code 3 "UnitsWrongModel" (some .int) 0 0 _ _ := X
  unfold fM_many at hf
  show bz_J K 3 0 [(0, bz_i a0)] [] M
  refine j_iconst X dM_many_0 ?_
  refine j_istore_n X (lv' := [(1, bz_i 0), (0, bz_i a0)]) dM_many_1 rfl (by decide) rfl ?_
  refine j_iconst X dM_many_2 ?_
  refine j_istore_n X (lv' := [(2, bz_i 0), (1, bz_i 0), (0, bz_i a0)]) dM_many_3 rfl (by decide) rfl ?_
  obtain ⟨res1, hz1, hk1⟩ := q_l1 hf
  clear hf
  refine lM_many_L4 E F X (fun l1 he => ?_) F 0 0 hz1
  have hf := hk1 _ he
  refine j_iload_n X dM_many_24 rfl 0 rfl ?_
  cases hf
  exact j_iret X dM_many_25 rfl rfl
def M_explains_L7 (F : Nat) : Nat → Int → Int → Int → bz_Mm → Option (bz_Mm)
  | 0, _, _, _, _ => none
  | n + 1, l2, l1, l3, M =>
    if w32 l3 < w32 (M 81 13) then
    (if w32 (ia_ (sr_ l1 l3) 1) = 1 then
    (rd_ M 88 l3 7 fun x1 =>
    rd_ M 89 l3 7 fun x2 =>
    rd_ M 90 l3 7 fun x3 =>
    rd_ M 91 l3 7 fun x4 =>
    cl_ (fM_lays F M x1 x2 x3 x4) fun m5 =>
    M_explains_L7 F n l2 l1 (l3 + 1) m5)
    else
    (M_explains_L7 F n l2 l1 (l3 + 1) M))
    else
    (some M)
def M_explains_L85 (F : Nat) : Nat → bz_Mm → Int → Int → Option (Int)
  | 0, _, _, _ => none
  | n + 1, M, l4, l3 =>
    if w32 l4 < w32 (M 81 69) then
    (if w32 l3 = 0 then
    (M_explains_L85 F n M (l4 + 1) 0)
    else
    (rd_ M 227 l4 8 fun x9 =>
    ra_ x9 4 fun i10 =>
    rd_ M 228 l4 8 fun x11 =>
    rd_ M (196 + i10) x11 260 fun x12 =>
    rd_ M 229 l4 8 fun x13 =>
    if w64 x12 = w64 (w32 x13) then
    (M_explains_L85 F n M (l4 + 1) 1)
    else
    (M_explains_L85 F n M (l4 + 1) 0)))
    else
    (some l3)
theorem lM_explains_L7 (E : bz_E) (F : Nat) {K : bz_K} {rv : Option Value} {M1 : bz_Mm} (X : bz_X K E prog_14_method_90_code 5 "UnitsWrongModel" (some .boolean) 6 156 rv M1) {l2 : Int} {l1 : Int} {res : (bz_Mm)}
    (kx : ∀ (M : bz_Mm), some M = some res → bz_J K 5 58 [(2, bz_i l2), (0, bz_rf E 81)] [] M) :
    ∀ (n : Nat) (l3 : Int) (M : bz_Mm), M_explains_L7 F n l2 l1 l3 M = some res → bz_J K 5 7 [(3, bz_i l3), (2, bz_i l2), (0, bz_rf E 81), (1, bz_i l1)] [] M := by
  intro n
  induction n with
  | zero => intro l3 M hf; cases hf
  | succ n ih =>
    intro l3 M hf
    rw [M_explains_L7] at hf
    refine j_iload_n X dM_explains_7 rfl 0 rfl ?_
    refine j_aload_n X dM_explains_8 rfl 2 rfl ?_
    refine j_geti X gf_M_526_81 dM_explains_9 ?_
    refine j_icmp_ge X (tgt := 58) rfl rfl dM_explains_12 (by decide) hf (fun hf => ?_) (fun hf => ?_)
    · exact j_sub [1, 2] rfl (kx _ hf)
    · refine j_iload_n X dM_explains_15 rfl 3 rfl ?_
      refine j_iload_n X dM_explains_16 rfl 0 rfl ?_
      refine j_ishr X dM_explains_17 ?_
      refine j_iconst X dM_explains_18 ?_
      refine j_iand X dM_explains_19 ?_
      refine j_iconst X dM_explains_20 ?_
      refine j_icmp_ne X (tgt := 52) rfl (w32_lit rfl) dM_explains_21 (by decide) hf (fun hf => ?_) (fun hf => ?_)
      · refine j_iinc X (y := l3 + 1) (lv' := [(3, bz_i (l3 + 1)), (2, bz_i l2), (0, bz_rf E 81), (1, bz_i l1)]) dM_explains_52 0 rfl rfl (by decide) rfl ?_
        refine j_goto X (tgt := 7) dM_explains_55 (by decide) ?_
        exact ih _ _ hf
      · refine j_aload_n X dM_explains_24 rfl 2 rfl ?_
        refine j_aload_n X dM_explains_25 rfl 2 rfl ?_
        refine j_geta X gf_M_29_81 dM_explains_26 ?_
        refine j_iload_n X dM_explains_29 rfl 0 rfl ?_
        refine j_iald X sh_88 dM_explains_30 hf (fun x1 hf => ?_)
        refine j_aload_n X dM_explains_31 rfl 2 rfl ?_
        refine j_geta X gf_M_32_81 dM_explains_32 ?_
        show bz_J _ _ 35 _ _ _
        refine j_iload_n X dM_explains_35 rfl 0 rfl ?_
        refine j_iald X sh_89 dM_explains_36 hf (fun x2 hf => ?_)
        refine j_aload_n X dM_explains_37 rfl 2 rfl ?_
        refine j_geta X gf_M_35_81 dM_explains_38 ?_
        refine j_iload_n X dM_explains_41 rfl 0 rfl ?_
        refine j_iald X sh_90 dM_explains_42 hf (fun x3 hf => ?_)
        refine j_aload_n X dM_explains_43 rfl 2 rfl ?_
        refine j_geta X gf_M_38_81 dM_explains_44 ?_
        show bz_J _ _ 47 _ _ _
        refine j_iload_n X dM_explains_47 rfl 0 rfl ?_
        refine j_iald X sh_91 dM_explains_48 hf (fun x4 hf => ?_)
        obtain ⟨m5, hz, hf⟩ := q_cl hf
        refine j_cv X (st := []) (cM_lays E F hz) gyM_lays gv_M_lays_81 rfl (by decide) (by decide) wd_1436 rfl (Nat.le_of_ble_eq_true rfl) dM_explains_49 ?_
        clear hz
        refine j_iinc X (y := l3 + 1) (lv' := [(3, bz_i (l3 + 1)), (2, bz_i l2), (0, bz_rf E 81), (1, bz_i l1)]) dM_explains_52 0 rfl rfl (by decide) rfl ?_
        refine j_goto X (tgt := 7) dM_explains_55 (by decide) ?_
        exact ih _ _ hf
theorem lM_explains_L85 (E : bz_E) (F : Nat) {K : bz_K} {rv : Option Value} {M1 : bz_Mm} (X : bz_X K E prog_14_method_90_code 5 "UnitsWrongModel" (some .boolean) 6 156 rv M1) {M : bz_Mm} {res : (Int)}
    (kx : ∀ (l3 : Int), some l3 = some res → bz_J K 5 142 [(3, bz_i l3)] [] M) :
    ∀ (n : Nat) (l4 : Int) (l3 : Int), M_explains_L85 F n M l4 l3 = some res → bz_J K 5 85 [(4, bz_i l4), (3, bz_i l3), (0, bz_rf E 81)] [] M := by
  intro n
  induction n with
  | zero => intro l4 l3 hf; cases hf
  | succ n ih =>
    intro l4 l3 hf
    rw [M_explains_L85] at hf
    refine j_iload X dM_explains_85 0 rfl ?_
    refine j_aload_n X dM_explains_87 rfl 2 rfl ?_
    refine j_geti X gf_M_523_81 dM_explains_88 ?_
    refine j_icmp_ge X (tgt := 142) rfl rfl dM_explains_91 (by decide) hf (fun hf => ?_) (fun hf => ?_)
    · exact j_sub [1] rfl (kx _ hf)
    · refine j_iload_n X dM_explains_94 rfl 1 rfl ?_
      refine j_if_eq X (tgt := 134) rfl dM_explains_95 (by decide) hf (fun hf => ?_) (fun hf => ?_)
      · refine j_iconst X dM_explains_134 ?_
        refine j_istore_n X (lv' := [(3, bz_i 0), (4, bz_i l4), (0, bz_rf E 81)]) dM_explains_135 rfl (by decide) rfl ?_
        refine j_iinc X (y := l4 + 1) (lv' := [(4, bz_i (l4 + 1)), (3, bz_i 0), (0, bz_rf E 81)]) dM_explains_136 1 rfl rfl (by decide) rfl ?_
        refine j_goto X (tgt := 85) dM_explains_139 (by decide) ?_
        exact ih _ _ hf
      · refine j_aload_n X dM_explains_98 rfl 2 rfl ?_
        refine j_geta X gf_M_148_81 dM_explains_99 ?_
        refine j_aload_n X dM_explains_102 rfl 2 rfl ?_
        refine j_geta X gf_M_184_81 dM_explains_103 ?_
        refine j_iload X dM_explains_106 0 rfl ?_
        refine j_iald X sh_227 dM_explains_108 hf (fun x9 hf => ?_)
        refine j_aald X sh_195 (by decide) (by decide) dM_explains_109 hf (fun i10 hi10 hf => ?_)
        show bz_J _ _ 110 _ _ _
        refine j_aload_n X dM_explains_110 rfl 2 rfl ?_
        refine j_geta X gf_M_187_81 dM_explains_111 ?_
        refine j_iload X dM_explains_114 0 rfl ?_
        refine j_iald X sh_228 dM_explains_116 hf (fun x11 hf => ?_)
        refine j_lald X (sr_195 i10 hi10) dM_explains_117 hf (fun x12 hf => ?_)
        refine j_aload_n X dM_explains_118 rfl 2 rfl ?_
        refine j_geta X gf_M_190_81 dM_explains_119 ?_
        refine j_iload X dM_explains_122 0 rfl ?_
        show bz_J _ _ 124 _ _ _
        refine j_iald X sh_229 dM_explains_124 hf (fun x13 hf => ?_)
        refine j_i2l X rfl dM_explains_125 ?_
        refine j_lcmp_ne X (tgt := 134) rfl rfl dM_explains_126 dM_explains_127 (by decide) hf (fun hf => ?_) (fun hf => ?_)
        · refine j_iconst X dM_explains_134 ?_
          refine j_istore_n X (lv' := [(3, bz_i 0), (4, bz_i l4), (0, bz_rf E 81)]) dM_explains_135 rfl (by decide) rfl ?_
          refine j_iinc X (y := l4 + 1) (lv' := [(4, bz_i (l4 + 1)), (3, bz_i 0), (0, bz_rf E 81)]) dM_explains_136 1 rfl rfl (by decide) rfl ?_
          refine j_goto X (tgt := 85) dM_explains_139 (by decide) ?_
          exact ih _ _ hf
        · refine j_iconst X dM_explains_130 ?_
          refine j_goto X (tgt := 135) dM_explains_131 (by decide) ?_
          refine j_istore_n X (lv' := [(3, bz_i 1), (4, bz_i l4), (0, bz_rf E 81)]) dM_explains_135 rfl (by decide) rfl ?_
          refine j_iinc X (y := l4 + 1) (lv' := [(4, bz_i (l4 + 1)), (3, bz_i 1), (0, bz_rf E 81)]) dM_explains_136 1 rfl rfl (by decide) rfl ?_
          refine j_goto X (tgt := 85) dM_explains_139 (by decide) ?_
          exact ih _ _ hf
def fM_explains (F : Nat) (M : bz_Mm) (a1 : Int) : Option (Int × bz_Mm) :=
  lt_ (M 81 12) fun l2 =>
  cl1_ (M_explains_L7 F F l2 a1 0 M) fun m6 =>
  cl_ (fM_through F m6 (fM_lastOver m6 (fM_known0 m6)) (fM_known0 m6) 0) fun m7 =>
  wf_ m7 81 12 l2 fun m8 =>
  cl1_ (M_explains_L85 F F m8 0 1) fun l3 =>
  bo_ l3 (some ((l3, m8)))
set_option maxHeartbeats 4000000 in
set_option maxRecDepth 20000 in
theorem cM_explains (E : bz_E) (F : Nat)  {M : bz_Mm} {a1 : Int} {x0 : Int × bz_Mm} (hf : fM_explains F M a1 = some x0) : bz_Ct E yM_explains (.code yM_explains prog_14_method_90_code 5 (some .boolean)) 6 156 [bz_rf E 81, bz_i a1] M (some (bz_i x0.1)) x0.2 := by
  refine bz_met (by decide +kernel) (Nat.le_of_ble_eq_true rfl) (fun K X => ?_)
  have X : bz_X K E prog_14_method_90_code 5 "UnitsWrongModel" (some .boolean) 6 156 _ _ := X
  unfold fM_explains at hf
  show bz_J K 5 0 [(0, bz_rf E 81), (1, bz_i a1)] [] M
  refine j_aload_n X dM_explains_0 rfl 0 rfl ?_
  refine j_geti X gf_M_251_81 dM_explains_1 ?_
  refine j_lt (g := bz_i) hf (fun l2 hf => ?_)
  refine j_istore_n X (lv' := [(2, bz_i l2), (0, bz_rf E 81), (1, bz_i a1)]) dM_explains_4 rfl (by decide) rfl ?_
  refine j_iconst X dM_explains_5 ?_
  refine j_istore_n X (lv' := [(3, bz_i 0), (2, bz_i l2), (0, bz_rf E 81), (1, bz_i a1)]) dM_explains_6 rfl (by decide) rfl ?_
  obtain ⟨res15, hz15, hk15⟩ := q_l1 hf
  clear hf
  refine lM_explains_L7 E F X (fun m6 he => ?_) F 0 M hz15
  have hf := hk15 _ he
  refine j_aload_n X dM_explains_58 rfl 1 rfl ?_
  refine j_aload_n X dM_explains_59 rfl 1 rfl ?_
  refine j_aload_n X dM_explains_60 rfl 1 rfl ?_
  refine j_cv X (st := [bz_rf E 81, bz_rf E 81]) (cM_known0 E) gyM_known0 gv_M_known0_81 rfl (by decide) (by decide) wd_1440 rfl (Nat.le_of_ble_eq_true rfl) dM_explains_61 ?_
  refine j_cv X (st := [bz_rf E 81]) (cM_lastOver E) gyM_lastOver gv_M_lastOver_81 rfl (by decide) (by decide) wd_1698 rfl (Nat.le_of_ble_eq_true rfl) dM_explains_64 ?_
  refine j_aload_n X dM_explains_67 rfl 1 rfl ?_
  refine j_cv X (st := [bz_i (fM_lastOver m6 (fM_known0 m6)), bz_rf E 81]) (cM_known0 E) gyM_known0 gv_M_known0_81 rfl (by decide) (by decide) wd_1440 rfl (Nat.le_of_ble_eq_true rfl) dM_explains_68 ?_
  show bz_J _ _ 71 _ _ _
  refine j_iconst X dM_explains_71 ?_
  obtain ⟨m7, hz, hf⟩ := q_cl hf
  refine j_cv X (st := []) (cM_through E F hz) gyM_through gv_M_through_81 rfl (by decide) (by decide) wd_1614 rfl (Nat.le_of_ble_eq_true rfl) dM_explains_72 ?_
  clear hz
  refine j_aload_n X dM_explains_75 rfl 1 rfl ?_
  refine j_iload_n X dM_explains_76 rfl 0 rfl ?_
  refine j_puti X pf_M_251_81 dM_explains_77 hf (fun m8 hf => ?_)
  refine j_iconst X dM_explains_80 ?_
  refine j_istore_n X (lv' := [(3, bz_i 1), (2, bz_i l2), (0, bz_rf E 81)]) dM_explains_81 rfl (by decide) rfl ?_
  refine j_iconst X dM_explains_82 ?_
  show bz_J _ _ 83 _ _ _
  refine j_istore X (lv' := [(4, bz_i 0), (3, bz_i 1), (2, bz_i l2), (0, bz_rf E 81)]) dM_explains_83 (by decide) rfl ?_
  obtain ⟨res14, hz14, hk14⟩ := q_l1 hf
  clear hf
  refine j_sub [0, 1, 3] rfl ?_
  refine lM_explains_L85 E F X (fun l3 he => ?_) F 0 1 hz14
  have hf := hk14 _ he
  refine j_iload_n X dM_explains_142 rfl 0 rfl ?_
  obtain ⟨hbo, hf⟩ := q_in hf
  cases hf
  exact j_zret X (bz_zz hbo) dM_explains_143 rfl rfl
def M_searches_L30 (F : Nat) : Nat → Int → Int → bz_Mm → Option (bz_Mm)
  | 0, _, _, _ => none
  | n + 1, l1, l2, M =>
    if w32 l2 < w32 (sl_ 1 (M 81 13)) then
    (cl_ (fM_many F M l2) fun x3 =>
    if w32 x3 = w32 l1 then
    (cl2_ (fM_explains F M l2) fun x5 m4 =>
    if w32 x5 = 0 then
    (M_searches_L30 F n l1 (l2 + 1) m4)
    else
    (cl1_ (if w32 (m4 81 70) = (-1) then
    (wf_ m4 81 70 l2 fun m7 =>
    some (m7))
    else
    (some (m4))) fun m8 =>
    wf_ m8 81 71 ((m8 81 71) + 1) fun m9 =>
    M_searches_L30 F n l1 (l2 + 1) m9))
    else
    (M_searches_L30 F n l1 (l2 + 1) M))
    else
    (some M)
def M_searches_L12 (F : Nat) : Nat → Int → bz_Mm → Option (bz_Mm)
  | 0, _, _ => none
  | n + 1, l1, M =>
    if w32 (M 81 13) < w32 l1 then
    (some M)
    else
    (if w32 (M 81 70) = (-1) then
    (cl1_ (M_searches_L30 F F l1 0 M) fun m10 =>
    M_searches_L12 F n (l1 + 1) m10)
    else
    (some M))
theorem lM_searches_L30 (E : bz_E) (F : Nat) {K : bz_K} {rv : Option Value} {M1 : bz_Mm} (X : bz_X K E prog_14_method_92_code 3 "UnitsWrongModel" none 7 180 rv M1) {l1 : Int} {res : (bz_Mm)}
    (kx : ∀ (M : bz_Mm), some M = some res → bz_J K 3 88 [(1, bz_i l1), (0, bz_rf E 81)] [] M) :
    ∀ (n : Nat) (l2 : Int) (M : bz_Mm), M_searches_L30 F n l1 l2 M = some res → bz_J K 3 30 [(2, bz_i l2), (1, bz_i l1), (0, bz_rf E 81)] [] M := by
  intro n
  induction n with
  | zero => intro l2 M hf; cases hf
  | succ n ih =>
    intro l2 M hf
    rw [M_searches_L30] at hf
    refine j_iload_n X dM_searches_30 rfl 0 rfl ?_
    refine j_iconst X dM_searches_31 ?_
    refine j_aload_n X dM_searches_32 rfl 2 rfl ?_
    refine j_geti X gf_M_526_81 dM_searches_33 ?_
    refine j_ishl X dM_searches_36 ?_
    refine j_icmp_ge X (tgt := 88) rfl rfl dM_searches_37 (by decide) hf (fun hf => ?_) (fun hf => ?_)
    · exact j_sub [1, 2] rfl (kx _ hf)
    · refine j_iload_n X dM_searches_40 rfl 0 rfl ?_
      obtain ⟨x3, hzx3, hf⟩ := q_cl hf
      refine j_cs X (st := []) (cM_many E F hzx3) gyM_many wd_1799 rfl (by decide) (by decide) wd_1798 rfl (Nat.le_of_ble_eq_true rfl) dM_searches_41 ?_
      refine j_iload_n X dM_searches_44 rfl 1 rfl ?_
      refine j_icmp_ne X (tgt := 82) rfl rfl dM_searches_45 (by decide) hf (fun hf => ?_) (fun hf => ?_)
      · refine j_iinc X (y := l2 + 1) (lv' := [(2, bz_i (l2 + 1)), (1, bz_i l1), (0, bz_rf E 81)]) dM_searches_82 0 rfl rfl (by decide) rfl ?_
        refine j_goto X (tgt := 30) dM_searches_85 (by decide) ?_
        exact ih _ _ hf
      · refine j_aload_n X dM_searches_48 rfl 2 rfl ?_
        refine j_iload_n X dM_searches_49 rfl 0 rfl ?_
        obtain ⟨x5, m4, hz, hf⟩ := q_cl2 hf
        refine j_cv X (st := []) (cM_explains E F hz) gyM_explains gv_M_explains_81 rfl (by decide) (by decide) wd_1801 rfl (Nat.le_of_ble_eq_true rfl) dM_searches_50 ?_
        clear hz
        refine j_if_ne X (tgt := 59) rfl dM_searches_53 (by decide) hf (fun hf => ?_) (fun hf => ?_)
        · refine j_aload_n X dM_searches_59 rfl 2 rfl ?_
          refine j_geti X gf_M_529_81 dM_searches_60 ?_
          refine j_iconst X dM_searches_63 ?_
          obtain ⟨resJ6, hf0, hkJ6⟩ := q_l1 hf
          have J6 : ∀ (m8 : bz_Mm), some m8 = some resJ6 → bz_J K 3 72 [(2, bz_i l2), (1, bz_i l1), (0, bz_rf E 81)] [] m8 := by
            intro m8 he
            have hf := hkJ6 _ he
            refine j_aload_n X dM_searches_72 rfl 2 rfl ?_
            refine j_dup X dM_searches_73 rfl ?_
            refine j_geti X gf_M_532_81 dM_searches_74 ?_
            refine j_iconst X dM_searches_77 ?_
            refine j_iadd X dM_searches_78 ?_
            refine j_puti X pf_M_532_81 dM_searches_79 hf (fun m9 hf => ?_)
            refine j_iinc X (y := l2 + 1) (lv' := [(2, bz_i (l2 + 1)), (1, bz_i l1), (0, bz_rf E 81)]) dM_searches_82 0 rfl rfl (by decide) rfl ?_
            show bz_J _ _ 85 _ _ _
            refine j_goto X (tgt := 30) dM_searches_85 (by decide) ?_
            exact ih _ _ hf
          clear hf
          have hf := hf0
          clear hf0
          refine j_icmp_ne X (tgt := 72) rfl (w32_lit rfl) dM_searches_64 (by decide) hf (fun hf => ?_) (fun hf => ?_)
          · exact J6 _ hf
          · refine j_aload_n X dM_searches_67 rfl 2 rfl ?_
            refine j_iload_n X dM_searches_68 rfl 0 rfl ?_
            refine j_puti X pf_M_529_81 dM_searches_69 hf (fun m7 hf => ?_)
            exact J6 _ hf
        · refine j_goto X (tgt := 82) dM_searches_56 (by decide) ?_
          refine j_iinc X (y := l2 + 1) (lv' := [(2, bz_i (l2 + 1)), (1, bz_i l1), (0, bz_rf E 81)]) dM_searches_82 0 rfl rfl (by decide) rfl ?_
          refine j_goto X (tgt := 30) dM_searches_85 (by decide) ?_
          exact ih _ _ hf
theorem lM_searches_L12 (E : bz_E) (F : Nat) {K : bz_K} {rv : Option Value} {M1 : bz_Mm} (X : bz_X K E prog_14_method_92_code 3 "UnitsWrongModel" none 7 180 rv M1) {res : (bz_Mm)}
    (kx : ∀ (M : bz_Mm), some M = some res → bz_J K 3 94 [] [] M) :
    ∀ (n : Nat) (l1 : Int) (M : bz_Mm), M_searches_L12 F n l1 M = some res → bz_J K 3 12 [(1, bz_i l1), (0, bz_rf E 81)] [] M := by
  intro n
  induction n with
  | zero => intro l1 M hf; cases hf
  | succ n ih =>
    intro l1 M hf
    rw [M_searches_L12] at hf
    refine j_iload_n X dM_searches_12 rfl 0 rfl ?_
    refine j_aload_n X dM_searches_13 rfl 1 rfl ?_
    refine j_geti X gf_M_526_81 dM_searches_14 ?_
    refine j_icmp_gt X (tgt := 94) rfl rfl dM_searches_17 (by decide) hf (fun hf => ?_) (fun hf => ?_)
    · exact j_sub [] rfl (kx _ hf)
    · refine j_aload_n X dM_searches_20 rfl 1 rfl ?_
      refine j_geti X gf_M_529_81 dM_searches_21 ?_
      refine j_iconst X dM_searches_24 ?_
      refine j_icmp_ne X (tgt := 94) rfl (w32_lit rfl) dM_searches_25 (by decide) hf (fun hf => ?_) (fun hf => ?_)
      · exact j_sub [] rfl (kx _ hf)
      · refine j_iconst X dM_searches_28 ?_
        refine j_istore_n X (lv' := [(2, bz_i 0), (1, bz_i l1), (0, bz_rf E 81)]) dM_searches_29 rfl (by decide) rfl ?_
        obtain ⟨res11, hz11, hk11⟩ := q_l1 hf
        clear hf
        refine lM_searches_L30 E F X (fun m10 he => ?_) F 0 M hz11
        have hf := hk11 _ he
        refine j_iinc X (y := l1 + 1) (lv' := [(1, bz_i (l1 + 1)), (0, bz_rf E 81)]) dM_searches_88 0 rfl rfl (by decide) rfl ?_
        refine j_goto X (tgt := 12) dM_searches_91 (by decide) ?_
        exact ih _ _ hf
def fM_searches (F : Nat) (M : bz_Mm) : Option (bz_Mm) :=
  wf_ M 81 70 ((-1)) fun m1 =>
  wf_ m1 81 71 0 fun m2 =>
  cl1_ (M_searches_L12 F F 0 m2) fun m12 =>
  some m12
set_option maxHeartbeats 4000000 in
set_option maxRecDepth 20000 in
theorem cM_searches (E : bz_E) (F : Nat)  {M : bz_Mm} {x0 : bz_Mm} (hf : fM_searches F M = some x0) : bz_Ct E yM_searches (.code yM_searches prog_14_method_92_code 3 none) 7 180 [bz_rf E 81] M (none) x0 := by
  refine bz_met (by decide +kernel) (Nat.le_of_ble_eq_true rfl) (fun K X => ?_)
  have X : bz_X K E prog_14_method_92_code 3 "UnitsWrongModel" none 7 180 _ _ := X
  unfold fM_searches at hf
  show bz_J K 3 0 [(0, bz_rf E 81)] [] M
  refine j_aload_n X dM_searches_0 rfl 0 rfl ?_
  refine j_iconst X dM_searches_1 ?_
  refine j_puti X pf_M_529_81 dM_searches_2 hf (fun m1 hf => ?_)
  refine j_aload_n X dM_searches_5 rfl 0 rfl ?_
  refine j_iconst X dM_searches_6 ?_
  refine j_puti X pf_M_532_81 dM_searches_7 hf (fun m2 hf => ?_)
  refine j_iconst X dM_searches_10 ?_
  show bz_J _ _ 11 _ _ _
  refine j_istore_n X (lv' := [(1, bz_i 0), (0, bz_rf E 81)]) dM_searches_11 rfl (by decide) rfl ?_
  obtain ⟨res13, hz13, hk13⟩ := q_l1 hf
  clear hf
  refine lM_searches_L12 E F X (fun m12 he => ?_) F 0 m2 hz13
  have hf := hk13 _ he
  cases hf
  exact j_vret X dM_searches_94 rfl rfl
def fM_explain (F : Nat) (M : bz_Mm) : Option (Int × bz_Mm) :=
  cl_ (fM_searches F M) fun m1 =>
  some ((m1 81 70, m1))
set_option maxHeartbeats 4000000 in
set_option maxRecDepth 20000 in
theorem cM_explain (E : bz_E) (F : Nat)  {M : bz_Mm} {x0 : Int × bz_Mm} (hf : fM_explain F M = some x0) : bz_Ct E yM_explain (.code yM_explain prog_14_method_93_code 1 (some .int)) 8 202 [bz_rf E 81] M (some (bz_i x0.1)) x0.2 := by
  refine bz_met (by decide +kernel) (Nat.le_of_ble_eq_true rfl) (fun K X => ?_)
  have X : bz_X K E prog_14_method_93_code 1 "UnitsWrongModel" (some .int) 8 202 _ _ := X
  unfold fM_explain at hf
  show bz_J K 1 0 [(0, bz_rf E 81)] [] M
  refine j_aload_n X dM_explain_0 rfl 0 rfl ?_
  obtain ⟨m1, hz, hf⟩ := q_cl hf
  refine j_cv X (st := []) (cM_searches E F hz) gyM_searches gv_M_searches_81 rfl (by decide) (by decide) wd_1794 rfl (Nat.le_of_ble_eq_true rfl) dM_explain_1 ?_
  clear hz
  refine j_aload_n X dM_explain_4 rfl 0 rfl ?_
  refine j_geti X gf_M_529_81 dM_explain_5 ?_
  cases hf
  exact j_iret X dM_explain_8 rfl rfl
def fM_rivals (F : Nat) (M : bz_Mm) : Option (Int × bz_Mm) :=
  cl_ (fM_searches F M) fun m1 =>
  if w32 (m1 81 70) = (-1) then
  (some (((-1), m1)))
  else
  (some (((m1 81 71) - 1, m1)))
set_option maxHeartbeats 4000000 in
set_option maxRecDepth 20000 in
theorem cM_rivals (E : bz_E) (F : Nat)  {M : bz_Mm} {x0 : Int × bz_Mm} (hf : fM_rivals F M = some x0) : bz_Ct E yM_rivals (.code yM_rivals prog_14_method_94_code 1 (some .int)) 8 202 [bz_rf E 81] M (some (bz_i x0.1)) x0.2 := by
  refine bz_met (by decide +kernel) (Nat.le_of_ble_eq_true rfl) (fun K X => ?_)
  have X : bz_X K E prog_14_method_94_code 1 "UnitsWrongModel" (some .int) 8 202 _ _ := X
  unfold fM_rivals at hf
  show bz_J K 1 0 [(0, bz_rf E 81)] [] M
  refine j_aload_n X dM_rivals_0 rfl 0 rfl ?_
  obtain ⟨m1, hz, hf⟩ := q_cl hf
  refine j_cv X (st := []) (cM_searches E F hz) gyM_searches gv_M_searches_81 rfl (by decide) (by decide) wd_1794 rfl (Nat.le_of_ble_eq_true rfl) dM_rivals_1 ?_
  clear hz
  refine j_aload_n X dM_rivals_4 rfl 0 rfl ?_
  refine j_geti X gf_M_529_81 dM_rivals_5 ?_
  refine j_iconst X dM_rivals_8 ?_
  refine j_icmp_ne X (tgt := 16) rfl (w32_lit rfl) dM_rivals_9 (by decide) hf (fun hf => ?_) (fun hf => ?_)
  · refine j_aload_n X dM_rivals_16 rfl 0 rfl ?_
    refine j_geti X gf_M_532_81 dM_rivals_17 ?_
    refine j_iconst X dM_rivals_20 ?_
    refine j_isub X dM_rivals_21 ?_
    cases hf
    exact j_iret X dM_rivals_22 rfl rfl
  · refine j_iconst X dM_rivals_12 ?_
    refine j_goto X (tgt := 22) dM_rivals_13 (by decide) ?_
    cases hf
    exact j_iret X dM_rivals_22 rfl rfl
def M_alarm_L27 (F : Nat) : Nat → bz_Mm → Int → Int → Int → Int → Option (Int ⊕ (Int))
  | 0, _, _, _, _, _ => none
  | n + 1, M, l1, l2, l4, l3 =>
    if w32 l4 < w32 (M 81 0) then
    (cl_ (fM_isOpen F M l4) fun x1 =>
    if w32 x1 = 0 then
    (M_alarm_L27 F n M l1 l2 (l4 + 1) l3)
    else
    (if w32 l3 = (-1) then
    (M_alarm_L27 F n M l1 l2 (l4 + 1) l4)
    else
    (ra_ l1 4 fun i2 =>
    rd_ M (212 + i2) l3 260 fun x3 =>
    ra_ l1 4 fun i4 =>
    rd_ M (212 + i4) l4 260 fun x5 =>
    cl1_ (if w64 x3 < w64 x5 then
    (some (x5 - x3))
    else
    (some (x3 - x5))) fun v7 =>
    if w64 ((w32 l2) * x3) < w64 (10000 * v7) then
    (some (.inl l4))
    else
    (M_alarm_L27 F n M l1 l2 (l4 + 1) l4))))
    else
    (some (.inr 0))
theorem lM_alarm_L27 (E : bz_E) (F : Nat) {K : bz_K} {rv : Option Value} {M1 : bz_Mm} (X : bz_X K E prog_14_method_95_code 9 "UnitsWrongModel" (some .int) 2 46 rv M1) {M : bz_Mm} {l1 : Int} {l2 : Int} {res : (Int ⊕ (Int))}
    (kx : ∀ (_u : Int), some (.inr _u) = some res → bz_J K 9 120 [] [] M) (kr : ∀ b : Int, some (.inl b) = some res → some (bz_i b) = rv ∧ M = M1) :
    ∀ (n : Nat) (l4 : Int) (l3 : Int), M_alarm_L27 F n M l1 l2 l4 l3 = some res → bz_J K 9 27 [(4, bz_i l4), (3, bz_i l3), (0, bz_rf E 81), (1, bz_i l1), (2, bz_i l2)] [] M := by
  intro n
  induction n with
  | zero => intro l4 l3 hf; cases hf
  | succ n ih =>
    intro l4 l3 hf
    rw [M_alarm_L27] at hf
    refine j_iload X dM_alarm_27 0 rfl ?_
    refine j_aload_n X dM_alarm_29 rfl 2 rfl ?_
    refine j_geti X gf_M_216_81 dM_alarm_30 ?_
    refine j_icmp_ge X (tgt := 120) rfl rfl dM_alarm_33 (by decide) hf (fun hf => ?_) (fun hf => ?_)
    · exact j_sub [] rfl (kx _ hf)
    · refine j_aload_n X dM_alarm_36 rfl 2 rfl ?_
      refine j_iload X dM_alarm_37 0 rfl ?_
      obtain ⟨x1, hzx1, hf⟩ := q_cl hf
      refine j_cv X (st := []) (cM_isOpen E F hzx1) gyM_isOpen gv_M_isOpen_81 rfl (by decide) (by decide) wd_1415 rfl (Nat.le_of_ble_eq_true rfl) dM_alarm_39 ?_
      refine j_if_ne X (tgt := 48) rfl dM_alarm_42 (by decide) hf (fun hf => ?_) (fun hf => ?_)
      · refine j_iload_n X dM_alarm_48 rfl 1 rfl ?_
        refine j_iconst X dM_alarm_49 ?_
        refine j_icmp_eq X (tgt := 111) rfl (w32_lit rfl) dM_alarm_50 (by decide) hf (fun hf => ?_) (fun hf => ?_)
        · refine j_iload X dM_alarm_111 0 rfl ?_
          refine j_istore_n X (lv' := [(3, bz_i l4), (4, bz_i l4), (0, bz_rf E 81), (1, bz_i l1), (2, bz_i l2)]) dM_alarm_113 rfl (by decide) rfl ?_
          refine j_iinc X (y := l4 + 1) (lv' := [(4, bz_i (l4 + 1)), (3, bz_i l4), (0, bz_rf E 81), (1, bz_i l1), (2, bz_i l2)]) dM_alarm_114 1 rfl rfl (by decide) rfl ?_
          refine j_goto X (tgt := 27) dM_alarm_117 (by decide) ?_
          exact ih _ _ hf
        · refine j_aload_n X dM_alarm_53 rfl 2 rfl ?_
          refine j_geta X gf_M_160_81 dM_alarm_54 ?_
          refine j_iload_n X dM_alarm_57 rfl 3 rfl ?_
          refine j_aald X sh_211 (by decide) (by decide) dM_alarm_58 hf (fun i2 hi2 hf => ?_)
          refine j_iload_n X dM_alarm_59 rfl 1 rfl ?_
          refine j_lald X (sr_211 i2 hi2) dM_alarm_60 hf (fun x3 hf => ?_)
          refine j_lstore X (lv' := [(5, bz_l x3), (4, bz_i l4), (3, bz_i l3), (0, bz_rf E 81), (1, bz_i l1), (2, bz_i l2)]) dM_alarm_61 (by decide) rfl ?_
          show bz_J _ _ 63 _ _ _
          refine j_aload_n X dM_alarm_63 rfl 3 rfl ?_
          refine j_geta X gf_M_160_81 dM_alarm_64 ?_
          refine j_iload_n X dM_alarm_67 rfl 4 rfl ?_
          refine j_aald X sh_211 (by decide) (by decide) dM_alarm_68 hf (fun i4 hi4 hf => ?_)
          refine j_iload X dM_alarm_69 1 rfl ?_
          refine j_lald X (sr_211 i4 hi4) dM_alarm_71 hf (fun x5 hf => ?_)
          refine j_lstore X (lv' := [(7, bz_l x5), (5, bz_l x3), (4, bz_i l4), (3, bz_i l3), (0, bz_rf E 81), (1, bz_i l1), (2, bz_i l2)]) dM_alarm_72 (by decide) rfl ?_
          refine j_ldc2 X (v := 10000) wd_1432 dM_alarm_74 ?_
          show bz_J _ _ 77 _ _ _
          refine j_lload X dM_alarm_77 0 rfl ?_
          refine j_lload X dM_alarm_79 1 rfl ?_
          obtain ⟨resJ6, hf0, hkJ6⟩ := q_l1 hf
          have J6 : ∀ (v7 : Int), some v7 = some resJ6 → bz_J K 9 98 [(5, bz_l x3), (4, bz_i l4), (0, bz_rf E 81), (1, bz_i l1), (2, bz_i l2)] [bz_l v7, bz_l 10000] M := by
            intro v7 he
            have hf := hkJ6 _ he
            refine j_lmul X dM_alarm_98 ?_
            refine j_iload_n X dM_alarm_99 rfl 4 rfl ?_
            refine j_i2l X rfl dM_alarm_100 ?_
            refine j_lload X dM_alarm_101 0 rfl ?_
            refine j_lmul X dM_alarm_103 ?_
            refine j_lcmp_le X (tgt := 111) rfl rfl dM_alarm_104 dM_alarm_105 (by decide) hf (fun hf => ?_) (fun hf => ?_)
            · refine j_iload X dM_alarm_111 1 rfl ?_
              refine j_istore_n X (lv' := [(3, bz_i l4), (5, bz_l x3), (4, bz_i l4), (0, bz_rf E 81), (1, bz_i l1), (2, bz_i l2)]) dM_alarm_113 rfl (by decide) rfl ?_
              refine j_iinc X (y := l4 + 1) (lv' := [(4, bz_i (l4 + 1)), (3, bz_i l4), (5, bz_l x3), (0, bz_rf E 81), (1, bz_i l1), (2, bz_i l2)]) dM_alarm_114 2 rfl rfl (by decide) rfl ?_
              refine j_goto X (tgt := 27) dM_alarm_117 (by decide) ?_
              exact j_sub [0, 1, 3, 4, 5] rfl (ih _ _ hf)
            · refine j_iload X dM_alarm_108 1 rfl ?_
              exact j_iret X dM_alarm_110 (kr _ hf).1 (kr _ hf).2
          clear hf
          have hf := hf0
          clear hf0
          refine j_lcmp_le X (tgt := 93) rfl rfl dM_alarm_81 dM_alarm_82 (by decide) hf (fun hf => ?_) (fun hf => ?_)
          · refine j_lload X dM_alarm_93 1 rfl ?_
            refine j_lload X dM_alarm_95 0 rfl ?_
            refine j_lsub X dM_alarm_97 ?_
            exact j_sub [1, 2, 4, 5, 6] rfl (J6 _ hf)
          · refine j_lload X dM_alarm_85 0 rfl ?_
            refine j_lload X dM_alarm_87 1 rfl ?_
            refine j_lsub X dM_alarm_89 ?_
            refine j_goto X (tgt := 98) dM_alarm_90 (by decide) ?_
            exact j_sub [1, 2, 4, 5, 6] rfl (J6 _ hf)
      · refine j_goto X (tgt := 114) dM_alarm_45 (by decide) ?_
        refine j_iinc X (y := l4 + 1) (lv' := [(4, bz_i (l4 + 1)), (3, bz_i l3), (0, bz_rf E 81), (1, bz_i l1), (2, bz_i l2)]) dM_alarm_114 0 rfl rfl (by decide) rfl ?_
        refine j_goto X (tgt := 27) dM_alarm_117 (by decide) ?_
        exact ih _ _ hf
def fM_alarm (F : Nat) (M : bz_Mm) (a1 : Int) (a2 : Int) : Option (Int) :=
  if w32 (fM_isFund M a1) = 0 then
  (some ((-1)))
  else
  (if w32 (fM_in (w32 a2) 0 10000) = 0 then
  (some ((-1)))
  else
  (cs1_ (M_alarm_L27 F F M a1 a2 0 ((-1))) (fun b => some b) fun _u =>
  some ((-1))))
set_option maxHeartbeats 4000000 in
set_option maxRecDepth 20000 in
theorem cM_alarm (E : bz_E) (F : Nat)  {M : bz_Mm} {a1 : Int} {a2 : Int} {x0 : Int} (hf : fM_alarm F M a1 a2 = some x0) : bz_Ct E yM_alarm (.code yM_alarm prog_14_method_95_code 9 (some .int)) 2 46 [bz_rf E 81, bz_i a1, bz_i a2] M (some (bz_i x0)) M := by
  refine bz_met (by decide +kernel) (Nat.le_of_ble_eq_true rfl) (fun K X => ?_)
  have X : bz_X K E prog_14_method_95_code 9 "UnitsWrongModel" (some .int) 2 46 _ _ := X
  unfold fM_alarm at hf
  show bz_J K 9 0 [(0, bz_rf E 81), (1, bz_i a1), (2, bz_i a2)] [] M
  refine j_aload_n X dM_alarm_0 rfl 0 rfl ?_
  refine j_iload_n X dM_alarm_1 rfl 1 rfl ?_
  refine j_cv X (st := []) (cM_isFund E) gyM_isFund gv_M_isFund_81 rfl (by decide) (by decide) wd_1479 rfl (Nat.le_of_ble_eq_true rfl) dM_alarm_2 ?_
  refine j_if_eq X (tgt := 20) rfl dM_alarm_5 (by decide) hf (fun hf => ?_) (fun hf => ?_)
  · refine j_iconst X dM_alarm_20 ?_
    cases hf
    exact j_iret X dM_alarm_21 rfl rfl
  · refine j_iload_n X dM_alarm_8 rfl 2 rfl ?_
    refine j_i2l X rfl dM_alarm_9 ?_
    refine j_lconst X (v := 0) dM_alarm_10 rfl ?_
    refine j_ldc2 X (v := 10000) wd_1432 dM_alarm_11 ?_
    refine j_cs X (st := []) (cM_in E) gyM_in wd_1409 rfl (by decide) (by decide) wd_1408 rfl (Nat.le_of_ble_eq_true rfl) dM_alarm_14 ?_
    refine j_if_ne X (tgt := 22) rfl dM_alarm_17 (by decide) hf (fun hf => ?_) (fun hf => ?_)
    · refine j_iconst X dM_alarm_22 ?_
      refine j_istore_n X (lv' := [(3, bz_i ((-1))), (0, bz_rf E 81), (1, bz_i a1), (2, bz_i a2)]) dM_alarm_23 rfl (by decide) rfl ?_
      refine j_iconst X dM_alarm_24 ?_
      refine j_istore X (lv' := [(4, bz_i 0), (3, bz_i ((-1))), (0, bz_rf E 81), (1, bz_i a1), (2, bz_i a2)]) dM_alarm_25 (by decide) rfl ?_
      obtain ⟨res8, hz8, hk8, hr8⟩ := q_s1 hf
      clear hf
      refine lM_alarm_L27 E F X (fun _u he => ?_) (fun b he => ?_) F 0 ((-1)) hz8
      · have hf := hk8 _ he
        refine j_iconst X dM_alarm_120 ?_
        cases hf
        exact j_iret X dM_alarm_121 rfl rfl
      · have hf := hr8 _ he
        cases hf
        exact ⟨rfl, rfl⟩
    · refine j_iconst X dM_alarm_20 ?_
      cases hf
      exact j_iret X dM_alarm_21 rfl rfl
