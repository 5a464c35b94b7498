/-! ===== NumberedByAgeModel.readStatement()V ===== -/
abbrev M_X11_readStatement : Mx := (cX11_readStatement, 3, RX11, (false, []), none, 2, 45)
def f_X11_readStatement_186 (this : Nat) (h : Hp) (s0 : Int32) (s1 : Int32) (s2 : Option Nat) : Option Hp :=
    (pF h s2 [11] 11 (vI (s1 + s0))).bind fun h187 =>
    (gI h187 (some this) [11] 13).bind fun v192 =>
    (pF h187 (some this) [11] 13 (vI (v192 + (1 : Int32)))).bind fun h197 =>
    some h197
set_option maxRecDepth 100000 in
set_option maxHeartbeats 4000000 in
theorem t_X11_readStatement_186 (G : Gx) (l : Launch) (this : Nat)  (h : Hp) (s0 : Int32) (s1 : Int32) (s2 : Option Nat) (r : Hp) (hf : f_X11_readStatement_186 this h s0 s1 s2 = some r) : RJ G l M_X11_readStatement none r 186 [(0, vR (some this))] [vI s0, vI s1, vR s2] h := by
  unfold f_X11_readStatement_186 at hf
  refine r_iadd dX11_readStatement_186 ?_
  obtain ⟨h187, e187, hf⟩ := ob hf
  refine r_put dX11_readStatement_187 fl_11_11 kw_4_66 (Or.inl rfl) (by decide +kernel) (fit_int _) e187 ?_
  refine r_aload_n 0 dX11_readStatement_190 rfl ?_
  refine r_dup dX11_readStatement_191 rfl ?_
  obtain ⟨v192, e192, hf⟩ := ob hf
  refine r_get dX11_readStatement_192 fl_11_13 kw_4_68 (Or.inl rfl) (gI_sp e192) ?_
  refine r_iconst (x := (1 : Int32)) dX11_readStatement_195 (by decide) ?_
  refine r_iadd dX11_readStatement_196 ?_
  obtain ⟨h197, e197, hf⟩ := ob hf
  refine r_put dX11_readStatement_197 fl_11_13 kw_4_68 (Or.inl rfl) (by decide +kernel) (fit_int _) e197 ?_
  have hf := Option.some.inj hf
  subst hf
  exact r_vret rfl dX11_readStatement_200
def f_X11_readStatement_166 (this : Nat) (h : Hp) (s0 : Int32) (s1 : Option Nat) : Option Hp :=
    (okZ s0).bind fun z166 =>
    (pF h s1 [11] 12 (vI s0)).bind fun h166 =>
    (gI h166 (some this) [11] 11).bind fun v171 =>
    (gI h166 (some this) [11] 12).bind fun v175 =>
    if v175 = 0 then
      f_X11_readStatement_186 this h166 (1 : Int32) v171 (some this)
    else
      f_X11_readStatement_186 this h166 (0 : Int32) v171 (some this)
set_option maxRecDepth 100000 in
set_option maxHeartbeats 4000000 in
theorem t_X11_readStatement_166 (G : Gx) (l : Launch) (this : Nat)  (h : Hp) (s0 : Int32) (s1 : Option Nat) (r : Hp) (hf : f_X11_readStatement_166 this h s0 s1 = some r) : RJ G l M_X11_readStatement none r 166 [(0, vR (some this))] [vI s0, vR s1] h := by
  unfold f_X11_readStatement_166 at hf
  obtain ⟨z166, ez166, hf⟩ := ob hf
  obtain ⟨-, ew166⟩ := okZ_sp ez166
  obtain ⟨h166, e166, hf⟩ := ob hf
  refine r_put dX11_readStatement_166 fl_11_12 kw_4_67 (Or.inl rfl) (by decide +kernel) (fit_bool ew166) e166 ?_
  refine r_aload_n 0 dX11_readStatement_169 rfl ?_
  refine r_dup dX11_readStatement_170 rfl ?_
  obtain ⟨v171, e171, hf⟩ := ob hf
  refine r_get dX11_readStatement_171 fl_11_11 kw_4_66 (Or.inl rfl) (gI_sp e171) ?_
  refine r_aload_n 0 dX11_readStatement_174 rfl ?_
  obtain ⟨v175, e175, hf⟩ := ob hf
  refine r_get dX11_readStatement_175 fl_11_12 kw_4_67 (Or.inl rfl) (gI_sp e175) ?_
  refine r_if_eq (tgt := 185) dX11_readStatement_178 (by decide) (fun c178 => ?_) (fun c178 => ?_)
  · replace hf := (if_pos c178).symm.trans hf
    refine r_iconst (x := (1 : Int32)) dX11_readStatement_185 (by decide) ?_
    exact r_sub [0] rfl (t_X11_readStatement_186 G l _ _ _ _ _ _ hf)
  · replace hf := (if_neg c178).symm.trans hf
    refine r_iconst (x := (0 : Int32)) dX11_readStatement_181 (by decide) ?_
    refine r_goto (tgt := 186) dX11_readStatement_182 (by decide) ?_
    exact r_sub [0] rfl (t_X11_readStatement_186 G l _ _ _ _ _ _ hf)
def f_X11_readStatement_161 (this : Nat) (h : Hp) (s0 : Option Nat) : Option Hp :=
    f_X11_readStatement_166 this h (1 : Int32) s0
set_option maxRecDepth 100000 in
set_option maxHeartbeats 4000000 in
theorem t_X11_readStatement_161 (G : Gx) (l : Launch) (this : Nat)  (h : Hp) (s0 : Option Nat) (r : Hp) (hf : f_X11_readStatement_161 this h s0 = some r) : RJ G l M_X11_readStatement none r 161 [(0, vR (some this))] [vR s0] h := by
  unfold f_X11_readStatement_161 at hf
  refine r_iconst (x := (1 : Int32)) dX11_readStatement_161 (by decide) ?_
  refine r_goto (tgt := 166) dX11_readStatement_162 (by decide) ?_
  exact r_sub [0] rfl (t_X11_readStatement_166 G l _ _ _ _ _ hf)
def f_X11_readStatement_143 (this : Nat) (h : Hp) (s0 : Int32) (s1 : Int32) (s2 : Option Nat) : Option Hp :=
    (wI h s2 s1 s0).bind fun h143 =>
    (gI h143 (some this) [11] 12).bind fun v146 =>
    if v146 = 0 then
      (rcv h143 (some this) 11).bind fun a153 =>
      (f_X11_here h143 a153).bind fun v153 =>
      if v153 = (59 : Int32) then
        f_X11_readStatement_166 this h143 (0 : Int32) (some this)
      else
        f_X11_readStatement_161 this h143 (some this)
    else
      f_X11_readStatement_161 this h143 (some this)
set_option maxRecDepth 100000 in
set_option maxHeartbeats 4000000 in
theorem t_X11_readStatement_143 (G : Gx) (l : Launch) (this : Nat)  (h : Hp) (s0 : Int32) (s1 : Int32) (s2 : Option Nat) (r : Hp) (hf : f_X11_readStatement_143 this h s0 s1 s2 = some r) : RJ G l M_X11_readStatement none r 143 [(0, vR (some this))] [vI s0, vI s1, vR s2] h := by
  unfold f_X11_readStatement_143 at hf
  obtain ⟨h143, e143, hf⟩ := ob hf
  refine r_iastore dX11_readStatement_143 e143 ?_
  refine r_aload_n 0 dX11_readStatement_144 rfl ?_
  refine r_aload_n 0 dX11_readStatement_145 rfl ?_
  obtain ⟨v146, e146, hf⟩ := ob hf
  refine r_get dX11_readStatement_146 fl_11_12 kw_4_67 (Or.inl rfl) (gI_sp e146) ?_
  refine r_if_ne (tgt := 161) dX11_readStatement_149 (by decide) (fun c149 => ?_) (fun c149 => ?_)
  · replace hf := (if_pos c149).symm.trans hf
    refine r_aload_n 0 dX11_readStatement_152 rfl ?_
    obtain ⟨a153, ea153, hf⟩ := ob hf
    obtain ⟨v153, e153, hf⟩ := ob hf
    refine r_callV (y := yX11_here) (ci := 11) (avs := []) dX11_readStatement_153 rfl kw_4_186 kw_4_188 kw_0_17 kw_1_5 kw_4_189 oky_X11_here ⟨Nat.le_of_ble_eq_true rfl, Nat.le_of_ble_eq_true rfl⟩ rfl (Nat.le_of_ble_eq_true rfl) ea153 (k_X11_here G l e153) ?_
    refine r_bipush (x := (59 : Int32)) dX11_readStatement_156 (by decide) ?_
    refine r_icmp_eq (tgt := 165) dX11_readStatement_158 (by decide) (fun c158 => ?_) (fun c158 => ?_)
    · replace hf := (if_pos c158).symm.trans hf
      refine r_iconst (x := (0 : Int32)) dX11_readStatement_165 (by decide) ?_
      exact r_sub [0] rfl (t_X11_readStatement_166 G l _ _ _ _ _ hf)
    · replace hf := (if_neg c158).symm.trans hf
      exact r_sub [0] rfl (t_X11_readStatement_161 G l _ _ _ _ hf)
  · replace hf := (if_neg c149).symm.trans hf
    exact r_sub [0] rfl (t_X11_readStatement_161 G l _ _ _ _ hf)
def f_X11_readStatement_124 (this : Nat) (h : Hp) (x1 : Int32) (x2 : Int32) : Option Hp :=
    (gR h (some this) [11] 17).bind fun v125 =>
    if x2 = (102 : Int32) then
      f_X11_readStatement_143 this h (0 : Int32) x1 v125
    else
      (rcv h (some this) 11).bind fun a140 =>
      (f_X11_readDigit h a140).bind fun q140 =>
      f_X11_readStatement_143 this q140.2 q140.1 x1 v125
set_option maxRecDepth 100000 in
set_option maxHeartbeats 4000000 in
theorem t_X11_readStatement_124 (G : Gx) (l : Launch) (this : Nat)  (h : Hp) (x1 : Int32) (x2 : Int32) (r : Hp) (hf : f_X11_readStatement_124 this h x1 x2 = some r) : RJ G l M_X11_readStatement none r 124 [(0, vR (some this)), (1, vI x1), (2, vI x2)] [] h := by
  unfold f_X11_readStatement_124 at hf
  refine r_aload_n 0 dX11_readStatement_124 rfl ?_
  obtain ⟨v125, e125, hf⟩ := ob hf
  refine r_get dX11_readStatement_125 fl_11_17 kw_4_72 (Or.inl rfl) (gR_sp e125) ?_
  refine r_iload_n 1 dX11_readStatement_128 rfl ?_
  refine r_iload_n 2 dX11_readStatement_129 rfl ?_
  refine r_bipush (x := (102 : Int32)) dX11_readStatement_130 (by decide) ?_
  refine r_icmp_ne (tgt := 139) dX11_readStatement_132 (by decide) (fun c132 => ?_) (fun c132 => ?_)
  · replace hf := (if_pos c132).symm.trans hf
    refine r_iconst (x := (0 : Int32)) dX11_readStatement_135 (by decide) ?_
    refine r_goto (tgt := 143) dX11_readStatement_136 (by decide) ?_
    exact r_sub [0] rfl (t_X11_readStatement_143 G l _ _ _ _ _ _ hf)
  · replace hf := (if_neg c132).symm.trans hf
    refine r_aload_n 0 dX11_readStatement_139 rfl ?_
    obtain ⟨a140, ea140, hf⟩ := ob hf
    obtain ⟨q140, e140, hf⟩ := ob hf
    refine r_callV (y := yX11_readDigit) (ci := 11) (avs := []) dX11_readStatement_140 rfl kw_4_190 kw_4_192 kw_0_18 kw_1_5 kw_4_193 oky_X11_readDigit ⟨Nat.le_of_ble_eq_true rfl, Nat.le_of_ble_eq_true rfl⟩ rfl (Nat.le_of_ble_eq_true rfl) ea140 (k_X11_readDigit G l e140) ?_
    exact r_sub [0] rfl (t_X11_readStatement_143 G l _ _ _ _ _ _ hf)
def f_X11_readStatement_104 (this : Nat) (h : Hp) (x1 : Int32) (x2 : Int32) : Option Hp :=
    (gR h (some this) [11] 16).bind fun v105 =>
    (gR h (some this) [11] 16).bind fun v112 =>
    (aI h v112 x1).bind fun v116 =>
    (rcv h (some this) 11).bind fun a119 =>
    (f_X11_readDigit h a119).bind fun q119 =>
    (wI q119.2 v105 x1 (((10 : Int32) * v116) + q119.1)).bind fun h123 =>
    f_X11_readStatement_124 this h123 x1 x2
set_option maxRecDepth 100000 in
set_option maxHeartbeats 4000000 in
theorem t_X11_readStatement_104 (G : Gx) (l : Launch) (this : Nat)  (h : Hp) (x1 : Int32) (x2 : Int32) (r : Hp) (hf : f_X11_readStatement_104 this h x1 x2 = some r) : RJ G l M_X11_readStatement none r 104 [(0, vR (some this)), (1, vI x1), (2, vI x2)] [] h := by
  unfold f_X11_readStatement_104 at hf
  refine r_aload_n 0 dX11_readStatement_104 rfl ?_
  obtain ⟨v105, e105, hf⟩ := ob hf
  refine r_get dX11_readStatement_105 fl_11_16 kw_4_71 (Or.inl rfl) (gR_sp e105) ?_
  refine r_iload_n 1 dX11_readStatement_108 rfl ?_
  refine r_bipush (x := (10 : Int32)) dX11_readStatement_109 (by decide) ?_
  refine r_aload_n 0 dX11_readStatement_111 rfl ?_
  obtain ⟨v112, e112, hf⟩ := ob hf
  refine r_get dX11_readStatement_112 fl_11_16 kw_4_71 (Or.inl rfl) (gR_sp e112) ?_
  refine r_iload_n 1 dX11_readStatement_115 rfl ?_
  obtain ⟨v116, e116, hf⟩ := ob hf
  refine r_iaload dX11_readStatement_116 e116 ?_
  refine r_imul dX11_readStatement_117 ?_
  refine r_aload_n 0 dX11_readStatement_118 rfl ?_
  obtain ⟨a119, ea119, hf⟩ := ob hf
  obtain ⟨q119, e119, hf⟩ := ob hf
  refine r_callV (y := yX11_readDigit) (ci := 11) (avs := []) dX11_readStatement_119 rfl kw_4_190 kw_4_192 kw_0_18 kw_1_5 kw_4_193 oky_X11_readDigit ⟨Nat.le_of_ble_eq_true rfl, Nat.le_of_ble_eq_true rfl⟩ rfl (Nat.le_of_ble_eq_true rfl) ea119 (k_X11_readDigit G l e119) ?_
  refine r_iadd dX11_readStatement_122 ?_
  obtain ⟨h123, e123, hf⟩ := ob hf
  refine r_iastore dX11_readStatement_123 e123 ?_
  exact r_sub [0, 1, 2] rfl (t_X11_readStatement_124 G l _ _ _ _ _ hf)
def f_X11_readStatement_78 (this : Nat) (h : Hp) (x1 : Int32) (x2 : Int32) (s0 : Int32) (s1 : Int32) (s2 : Option Nat) : Option Hp :=
    (pF h s2 [11] 11 (vI (s1 + s0))).bind fun h79 =>
    (gR h79 (some this) [11] 16).bind fun v83 =>
    (rcv h79 (some this) 11).bind fun a88 =>
    (f_X11_readDigit h79 a88).bind fun q88 =>
    (wI q88.2 v83 x1 q88.1).bind fun h91 =>
    if x2 = (98 : Int32) then
      f_X11_readStatement_104 this h91 x1 x2
    else
      if x2 = (102 : Int32) then
        f_X11_readStatement_104 this h91 x1 x2
      else
        f_X11_readStatement_124 this h91 x1 x2
set_option maxRecDepth 100000 in
set_option maxHeartbeats 4000000 in
theorem t_X11_readStatement_78 (G : Gx) (l : Launch) (this : Nat)  (h : Hp) (x1 : Int32) (x2 : Int32) (s0 : Int32) (s1 : Int32) (s2 : Option Nat) (r : Hp) (hf : f_X11_readStatement_78 this h x1 x2 s0 s1 s2 = some r) : RJ G l M_X11_readStatement none r 78 [(0, vR (some this)), (1, vI x1), (2, vI x2)] [vI s0, vI s1, vR s2] h := by
  unfold f_X11_readStatement_78 at hf
  refine r_iadd dX11_readStatement_78 ?_
  obtain ⟨h79, e79, hf⟩ := ob hf
  refine r_put dX11_readStatement_79 fl_11_11 kw_4_66 (Or.inl rfl) (by decide +kernel) (fit_int _) e79 ?_
  refine r_aload_n 0 dX11_readStatement_82 rfl ?_
  obtain ⟨v83, e83, hf⟩ := ob hf
  refine r_get dX11_readStatement_83 fl_11_16 kw_4_71 (Or.inl rfl) (gR_sp e83) ?_
  refine r_iload_n 1 dX11_readStatement_86 rfl ?_
  refine r_aload_n 0 dX11_readStatement_87 rfl ?_
  obtain ⟨a88, ea88, hf⟩ := ob hf
  obtain ⟨q88, e88, hf⟩ := ob hf
  refine r_callV (y := yX11_readDigit) (ci := 11) (avs := []) dX11_readStatement_88 rfl kw_4_190 kw_4_192 kw_0_18 kw_1_5 kw_4_193 oky_X11_readDigit ⟨Nat.le_of_ble_eq_true rfl, Nat.le_of_ble_eq_true rfl⟩ rfl (Nat.le_of_ble_eq_true rfl) ea88 (k_X11_readDigit G l e88) ?_
  obtain ⟨h91, e91, hf⟩ := ob hf
  refine r_iastore dX11_readStatement_91 e91 ?_
  refine r_iload_n 2 dX11_readStatement_92 rfl ?_
  refine r_bipush (x := (98 : Int32)) dX11_readStatement_93 (by decide) ?_
  refine r_icmp_eq (tgt := 104) dX11_readStatement_95 (by decide) (fun c95 => ?_) (fun c95 => ?_)
  · replace hf := (if_pos c95).symm.trans hf
    exact r_sub [0, 1, 2] rfl (t_X11_readStatement_104 G l _ _ _ _ _ hf)
  · replace hf := (if_neg c95).symm.trans hf
    refine r_iload_n 2 dX11_readStatement_98 rfl ?_
    refine r_bipush (x := (102 : Int32)) dX11_readStatement_99 (by decide) ?_
    refine r_icmp_ne (tgt := 124) dX11_readStatement_101 (by decide) (fun c101 => ?_) (fun c101 => ?_)
    · replace hf := (if_pos c101).symm.trans hf
      exact r_sub [0, 1, 2] rfl (t_X11_readStatement_104 G l _ _ _ _ _ hf)
    · replace hf := (if_neg c101).symm.trans hf
      exact r_sub [0, 1, 2] rfl (t_X11_readStatement_124 G l _ _ _ _ _ hf)
def f_X11_readStatement_58 (this : Nat) (h : Hp) (x1 : Int32) (x2 : Int32) (s0 : Int32) (s1 : Option Nat) : Option Hp :=
    (okZ s0).bind fun z58 =>
    (pF h s1 [11] 12 (vI s0)).bind fun h58 =>
    (gI h58 (some this) [11] 11).bind fun v63 =>
    (gI h58 (some this) [11] 12).bind fun v67 =>
    if v67 = 0 then
      f_X11_readStatement_78 this h58 x1 x2 (1 : Int32) v63 (some this)
    else
      f_X11_readStatement_78 this h58 x1 x2 (0 : Int32) v63 (some this)
set_option maxRecDepth 100000 in
set_option maxHeartbeats 4000000 in
theorem t_X11_readStatement_58 (G : Gx) (l : Launch) (this : Nat)  (h : Hp) (x1 : Int32) (x2 : Int32) (s0 : Int32) (s1 : Option Nat) (r : Hp) (hf : f_X11_readStatement_58 this h x1 x2 s0 s1 = some r) : RJ G l M_X11_readStatement none r 58 [(0, vR (some this)), (1, vI x1), (2, vI x2)] [vI s0, vR s1] h := by
  unfold f_X11_readStatement_58 at hf
  obtain ⟨z58, ez58, hf⟩ := ob hf
  obtain ⟨-, ew58⟩ := okZ_sp ez58
  obtain ⟨h58, e58, hf⟩ := ob hf
  refine r_put dX11_readStatement_58 fl_11_12 kw_4_67 (Or.inl rfl) (by decide +kernel) (fit_bool ew58) e58 ?_
  refine r_aload_n 0 dX11_readStatement_61 rfl ?_
  refine r_dup dX11_readStatement_62 rfl ?_
  obtain ⟨v63, e63, hf⟩ := ob hf
  refine r_get dX11_readStatement_63 fl_11_11 kw_4_66 (Or.inl rfl) (gI_sp e63) ?_
  refine r_aload_n 0 dX11_readStatement_66 rfl ?_
  obtain ⟨v67, e67, hf⟩ := ob hf
  refine r_get dX11_readStatement_67 fl_11_12 kw_4_67 (Or.inl rfl) (gI_sp e67) ?_
  refine r_if_eq (tgt := 77) dX11_readStatement_70 (by decide) (fun c70 => ?_) (fun c70 => ?_)
  · replace hf := (if_pos c70).symm.trans hf
    refine r_iconst (x := (1 : Int32)) dX11_readStatement_77 (by decide) ?_
    exact r_sub [0, 1, 2] rfl (t_X11_readStatement_78 G l _ _ _ _ _ _ _ _ hf)
  · replace hf := (if_neg c70).symm.trans hf
    refine r_iconst (x := (0 : Int32)) dX11_readStatement_73 (by decide) ?_
    refine r_goto (tgt := 78) dX11_readStatement_74 (by decide) ?_
    exact r_sub [0, 1, 2] rfl (t_X11_readStatement_78 G l _ _ _ _ _ _ _ _ hf)
def f_X11_readStatement_53 (this : Nat) (h : Hp) (x1 : Int32) (x2 : Int32) (s0 : Option Nat) : Option Hp :=
    f_X11_readStatement_58 this h x1 x2 (1 : Int32) s0
set_option maxRecDepth 100000 in
set_option maxHeartbeats 4000000 in
theorem t_X11_readStatement_53 (G : Gx) (l : Launch) (this : Nat)  (h : Hp) (x1 : Int32) (x2 : Int32) (s0 : Option Nat) (r : Hp) (hf : f_X11_readStatement_53 this h x1 x2 s0 = some r) : RJ G l M_X11_readStatement none r 53 [(0, vR (some this)), (1, vI x1), (2, vI x2)] [vR s0] h := by
  unfold f_X11_readStatement_53 at hf
  refine r_iconst (x := (1 : Int32)) dX11_readStatement_53 (by decide) ?_
  refine r_goto (tgt := 58) dX11_readStatement_54 (by decide) ?_
  exact r_sub [0, 1, 2] rfl (t_X11_readStatement_58 G l _ _ _ _ _ _ _ hf)
def f_X11_readStatement_57 (this : Nat) (h : Hp) (x1 : Int32) (x2 : Int32) (s0 : Option Nat) : Option Hp :=
    f_X11_readStatement_58 this h x1 x2 (0 : Int32) s0
set_option maxRecDepth 100000 in
set_option maxHeartbeats 4000000 in
theorem t_X11_readStatement_57 (G : Gx) (l : Launch) (this : Nat)  (h : Hp) (x1 : Int32) (x2 : Int32) (s0 : Option Nat) (r : Hp) (hf : f_X11_readStatement_57 this h x1 x2 s0 = some r) : RJ G l M_X11_readStatement none r 57 [(0, vR (some this)), (1, vI x1), (2, vI x2)] [vR s0] h := by
  unfold f_X11_readStatement_57 at hf
  refine r_iconst (x := (0 : Int32)) dX11_readStatement_57 (by decide) ?_
  exact r_sub [0, 1, 2] rfl (t_X11_readStatement_58 G l _ _ _ _ _ _ _ hf)
def f_X11_readStatement (h : Hp) (this : Nat) : Option Hp :=
    (gI h (some this) [11] 13).bind fun v1 =>
    (rcv h (some this) 11).bind fun a6 =>
    (f_X11_here h a6).bind fun v6 =>
    (gR h (some this) [11] 14).bind fun v11 =>
    (gI h (some this) [11] 11).bind fun v16 =>
    (wI h v11 v1 v16).bind fun h19 =>
    (gR h19 (some this) [11] 15).bind fun v21 =>
    (wI h19 v21 v1 v6).bind fun h26 =>
    (gI h26 (some this) [11] 12).bind fun v29 =>
    if v29 = 0 then
      if v6 = (98 : Int32) then
        f_X11_readStatement_57 this h26 v1 v6 (some this)
      else
        if v6 = (102 : Int32) then
          f_X11_readStatement_57 this h26 v1 v6 (some this)
        else
          if v6 = (108 : Int32) then
            f_X11_readStatement_57 this h26 v1 v6 (some this)
          else
            f_X11_readStatement_53 this h26 v1 v6 (some this)
    else
      f_X11_readStatement_53 this h26 v1 v6 (some this)
set_option maxRecDepth 100000 in
set_option maxHeartbeats 4000000 in
theorem k_X11_readStatement (G : Gx) (l : Launch) {h : Hp} {this : Nat} {r : Hp} (hf : f_X11_readStatement h this = some r) : KM l yX11_readStatement (.code yX11_readStatement cX11_readStatement 3 none :: wsK) 2 45 G [vR (some this)] h none r := by
  refine r_entry (ctor := false) (own := RX11) (by decide +kernel) rfl (fun q => by cases q) (Nat.le_of_ble_eq_true rfl) ?_
  show RJ G l M_X11_readStatement none r 0 [(0, vR (some this))] [] h
  unfold f_X11_readStatement at hf
  refine r_aload_n 0 dX11_readStatement_0 rfl ?_
  obtain ⟨v1, e1, hf⟩ := ob hf
  refine r_get dX11_readStatement_1 fl_11_13 kw_4_68 (Or.inl rfl) (gI_sp e1) ?_
  refine r_istore_n (lv' := [(1, vI v1), (0, vR (some this))]) dX11_readStatement_4 (Nat.le_of_ble_eq_true rfl) rfl ?_
  refine r_aload_n 1 dX11_readStatement_5 rfl ?_
  obtain ⟨a6, ea6, hf⟩ := ob hf
  obtain ⟨v6, e6, hf⟩ := ob hf
  refine r_callV (y := yX11_here) (ci := 11) (avs := []) dX11_readStatement_6 rfl kw_4_186 kw_4_188 kw_0_17 kw_1_5 kw_4_189 oky_X11_here ⟨Nat.le_of_ble_eq_true rfl, Nat.le_of_ble_eq_true rfl⟩ rfl (Nat.le_of_ble_eq_true rfl) ea6 (k_X11_here G l e6) ?_
  refine r_istore_n (lv' := [(2, vI v6), (1, vI v1), (0, vR (some this))]) dX11_readStatement_9 (Nat.le_of_ble_eq_true rfl) rfl ?_
  refine r_aload_n 2 dX11_readStatement_10 rfl ?_
  obtain ⟨v11, e11, hf⟩ := ob hf
  refine r_get dX11_readStatement_11 fl_11_14 kw_4_69 (Or.inl rfl) (gR_sp e11) ?_
  refine r_iload_n 1 dX11_readStatement_14 rfl ?_
  refine r_aload_n 2 dX11_readStatement_15 rfl ?_
  obtain ⟨v16, e16, hf⟩ := ob hf
  refine r_get dX11_readStatement_16 fl_11_11 kw_4_66 (Or.inl rfl) (gI_sp e16) ?_
  obtain ⟨h19, e19, hf⟩ := ob hf
  refine r_iastore dX11_readStatement_19 e19 ?_
  refine r_aload_n 2 dX11_readStatement_20 rfl ?_
  refine r_pc (pc' := 21) rfl ?_
  obtain ⟨v21, e21, hf⟩ := ob hf
  refine r_get dX11_readStatement_21 fl_11_15 kw_4_70 (Or.inl rfl) (gR_sp e21) ?_
  refine r_iload_n 1 dX11_readStatement_24 rfl ?_
  refine r_iload_n 0 dX11_readStatement_25 rfl ?_
  obtain ⟨h26, e26, hf⟩ := ob hf
  refine r_iastore dX11_readStatement_26 e26 ?_
  refine r_aload_n 2 dX11_readStatement_27 rfl ?_
  refine r_aload_n 2 dX11_readStatement_28 rfl ?_
  obtain ⟨v29, e29, hf⟩ := ob hf
  refine r_get dX11_readStatement_29 fl_11_12 kw_4_67 (Or.inl rfl) (gI_sp e29) ?_
  refine r_if_ne (tgt := 53) dX11_readStatement_32 (by decide) (fun c32 => ?_) (fun c32 => ?_)
  · replace hf := (if_pos c32).symm.trans hf
    refine r_iload_n 0 dX11_readStatement_35 rfl ?_
    refine r_bipush (x := (98 : Int32)) dX11_readStatement_36 (by decide) ?_
    refine r_icmp_eq (tgt := 57) dX11_readStatement_38 (by decide) (fun c38 => ?_) (fun c38 => ?_)
    · replace hf := (if_pos c38).symm.trans hf
      exact r_sub [2, 1, 0] rfl (t_X11_readStatement_57 G l _ _ _ _ _ _ hf)
    · replace hf := (if_neg c38).symm.trans hf
      refine r_iload_n 0 dX11_readStatement_41 rfl ?_
      refine r_bipush (x := (102 : Int32)) dX11_readStatement_42 (by decide) ?_
      refine r_icmp_eq (tgt := 57) dX11_readStatement_44 (by decide) (fun c44 => ?_) (fun c44 => ?_)
      · replace hf := (if_pos c44).symm.trans hf
        exact r_sub [2, 1, 0] rfl (t_X11_readStatement_57 G l _ _ _ _ _ _ hf)
      · replace hf := (if_neg c44).symm.trans hf
        refine r_iload_n 0 dX11_readStatement_47 rfl ?_
        refine r_bipush (x := (108 : Int32)) dX11_readStatement_48 (by decide) ?_
        refine r_icmp_eq (tgt := 57) dX11_readStatement_50 (by decide) (fun c50 => ?_) (fun c50 => ?_)
        · replace hf := (if_pos c50).symm.trans hf
          exact r_sub [2, 1, 0] rfl (t_X11_readStatement_57 G l _ _ _ _ _ _ hf)
        · replace hf := (if_neg c50).symm.trans hf
          exact r_sub [2, 1, 0] rfl (t_X11_readStatement_53 G l _ _ _ _ _ _ hf)
  · replace hf := (if_neg c32).symm.trans hf
    exact r_sub [2, 1, 0] rfl (t_X11_readStatement_53 G l _ _ _ _ _ _ hf)
/-! ===== NumberedByAgeModel.restore()I ===== -/
abbrev M_X11_restore : Mx := (cX11_restore, 1, RX11, (false, []), (some .int), 2, 44)
def f_X11_restore (h : Hp) (this : Nat) : Option (Int32 × Hp) :=
    (pF h (some this) [11] 6 (vI (0 : Int32))).bind fun h2 =>
    (gI h2 (some this) [11] 20).bind fun v6 =>
    if v6 = 0 then
      some ((-3 : Int32), h2)
    else
      (gR h2 (some this) [11] 19).bind fun v17 =>
      (rcv h2 (some this) 11).bind fun a21 =>
      (f_X11_carryAll h2 a21 v17 (0 : Int32)).bind fun h21 =>
      (gI h21 (some this) [11] 2).bind fun v25 =>
      some (v25, h21)
set_option maxRecDepth 100000 in
set_option maxHeartbeats 4000000 in
theorem k_X11_restore (G : Gx) (l : Launch) {h : Hp} {this : Nat} {r : (Int32 × Hp)} (hf : f_X11_restore h this = some r) : KM l yX11_restore (.code yX11_restore cX11_restore 1 (some .int) :: wsK) 2 44 G [vR (some this)] h (some (vI r.1)) r.2 := by
  refine r_entry (ctor := false) (own := RX11) (by decide +kernel) rfl (fun q => by cases q) (Nat.le_of_ble_eq_true rfl) ?_
  show RJ G l M_X11_restore (some (vI r.1)) r.2 0 [(0, vR (some this))] [] h
  unfold f_X11_restore at hf
  refine r_aload_n 0 dX11_restore_0 rfl ?_
  refine r_iconst (x := (0 : Int32)) dX11_restore_1 (by decide) ?_
  obtain ⟨h2, e2, hf⟩ := ob hf
  refine r_put dX11_restore_2 fl_11_6 kw_4_61 (Or.inl rfl) (by decide +kernel) (fit_int _) e2 ?_
  refine r_aload_n 0 dX11_restore_5 rfl ?_
  obtain ⟨v6, e6, hf⟩ := ob hf
  refine r_get dX11_restore_6 fl_11_20 kw_4_75 (Or.inl rfl) (gI_sp e6) ?_
  refine r_if_ne (tgt := 15) dX11_restore_9 (by decide) (fun c9 => ?_) (fun c9 => ?_)
  · replace hf := (if_pos c9).symm.trans hf
    refine r_bipush (x := (-3 : Int32)) dX11_restore_12 (by decide) ?_
    have hf := Option.some.inj hf
    subst hf
    exact r_iret rfl dX11_restore_14
  · replace hf := (if_neg c9).symm.trans hf
    refine r_aload_n 0 dX11_restore_15 rfl ?_
    refine r_aload_n 0 dX11_restore_16 rfl ?_
    obtain ⟨v17, e17, hf⟩ := ob hf
    refine r_get dX11_restore_17 fl_11_19 kw_4_74 (Or.inl rfl) (gR_sp e17) ?_
    refine r_iconst (x := (0 : Int32)) dX11_restore_20 (by decide) ?_
    obtain ⟨a21, ea21, hf⟩ := ob hf
    obtain ⟨h21, e21, hf⟩ := ob hf
    refine r_callV (y := yX11_carryAll) (ci := 11) (avs := [vR v17, vI (0 : Int32)]) dX11_restore_21 rfl kw_4_196 kw_4_198 kw_0_19 kw_1_5 kw_4_199 oky_X11_carryAll ⟨Nat.le_of_ble_eq_true rfl, Nat.le_of_ble_eq_true rfl⟩ rfl (Nat.le_of_ble_eq_true rfl) ea21 (k_X11_carryAll G l e21) ?_
    refine r_aload_n 0 dX11_restore_24 rfl ?_
    obtain ⟨v25, e25, hf⟩ := ob hf
    refine r_get dX11_restore_25 fl_11_2 kw_4_57 (Or.inl rfl) (gI_sp e25) ?_
    have hf := Option.some.inj hf
    subst hf
    exact r_iret rfl dX11_restore_28
/-! ===== NumberedByAgeModel.riseLooked()I ===== -/
abbrev M_X11_riseLooked : Mx := (cX11_riseLooked, 5, RX11, (false, []), (some .int), 0, 0)
def f_X11_riseLooked_121 (this : Nat) (k4 : Hp → Int32 → Int32 → Option (Int32 × Hp)) (k32 : Hp → Int32 → Int32 → Int32 → Option (Int32 × Hp)) (h : Hp) (x1 : Int32) (x2 : Int32) (x3 : Int32) (s0 : Int32) (s1 : Int32) (s2 : Option Nat) : Option (Int32 × Hp) :=
    (wI h s2 s1 s0).bind fun h121 =>
    k32 h121 x1 x2 (x3 + 1)
set_option maxRecDepth 100000 in
set_option maxHeartbeats 4000000 in
theorem t_X11_riseLooked_121 (G : Gx) (l : Launch) (this : Nat) (k4 : Hp → Int32 → Int32 → Option (Int32 × Hp)) (hk4 : ∀ (h : Hp) (x1 : Int32) (x2 : Int32) (r : (Int32 × Hp)), k4 h x1 x2 = some r → RJ G l M_X11_riseLooked (some (vI r.1)) r.2 4 [(0, vR (some this)), (1, vI x1), (2, vI x2)] [] h) (k32 : Hp → Int32 → Int32 → Int32 → Option (Int32 × Hp)) (hk32 : ∀ (h : Hp) (x1 : Int32) (x2 : Int32) (x3 : Int32) (r : (Int32 × Hp)), k32 h x1 x2 x3 = some r → RJ G l M_X11_riseLooked (some (vI r.1)) r.2 32 [(0, vR (some this)), (1, vI x1), (2, vI x2), (3, vI x3)] [] h) (h : Hp) (x1 : Int32) (x2 : Int32) (x3 : Int32) (s0 : Int32) (s1 : Int32) (s2 : Option Nat) (r : (Int32 × Hp)) (hf : f_X11_riseLooked_121 this k4 k32 h x1 x2 x3 s0 s1 s2 = some r) : RJ G l M_X11_riseLooked (some (vI r.1)) r.2 121 [(0, vR (some this)), (1, vI x1), (2, vI x2), (3, vI x3)] [vI s0, vI s1, vR s2] h := by
  unfold f_X11_riseLooked_121 at hf
  obtain ⟨h121, e121, hf⟩ := ob hf
  refine r_iastore dX11_riseLooked_121 e121 ?_
  refine r_iinc (y := (x3 + 1)) (lv' := [(3, vI (x3 + 1)), (0, vR (some this)), (1, vI x1), (2, vI x2)]) 3 dX11_riseLooked_122 rfl rfl (Nat.le_of_ble_eq_true rfl) rfl ?_
  refine r_goto (tgt := 32) dX11_riseLooked_125 (by decide) ?_
  exact r_sub [1, 2, 3, 0] rfl (hk32 _ _ _ _ _ hf)
def f_X11_riseLooked_92 (this : Nat) (k4 : Hp → Int32 → Int32 → Option (Int32 × Hp)) (k32 : Hp → Int32 → Int32 → Int32 → Option (Int32 × Hp)) (h : Hp) (x1 : Int32) (x2 : Int32) (x3 : Int32) (s0 : Int32) : Option (Int32 × Hp) :=
    (gR h (some this) [11] 24).bind fun v95 =>
    if s0 = 0 then
      (gR h (some this) [11] 24).bind fun v116 =>
      (aI h v116 x2).bind fun v120 =>
      f_X11_riseLooked_121 this k4 k32 h x1 x2 x3 v120 x2 v95
    else
      (gR h (some this) [11] 24).bind fun v105 =>
      (aI h v105 x3).bind fun v109 =>
      f_X11_riseLooked_121 this k4 k32 h x1 x2 x3 (v109 + (1 : Int32)) x2 v95
set_option maxRecDepth 100000 in
set_option maxHeartbeats 4000000 in
theorem t_X11_riseLooked_92 (G : Gx) (l : Launch) (this : Nat) (k4 : Hp → Int32 → Int32 → Option (Int32 × Hp)) (hk4 : ∀ (h : Hp) (x1 : Int32) (x2 : Int32) (r : (Int32 × Hp)), k4 h x1 x2 = some r → RJ G l M_X11_riseLooked (some (vI r.1)) r.2 4 [(0, vR (some this)), (1, vI x1), (2, vI x2)] [] h) (k32 : Hp → Int32 → Int32 → Int32 → Option (Int32 × Hp)) (hk32 : ∀ (h : Hp) (x1 : Int32) (x2 : Int32) (x3 : Int32) (r : (Int32 × Hp)), k32 h x1 x2 x3 = some r → RJ G l M_X11_riseLooked (some (vI r.1)) r.2 32 [(0, vR (some this)), (1, vI x1), (2, vI x2), (3, vI x3)] [] h) (h : Hp) (x1 : Int32) (x2 : Int32) (x3 : Int32) (s0 : Int32) (r : (Int32 × Hp)) (hf : f_X11_riseLooked_92 this k4 k32 h x1 x2 x3 s0 = some r) : RJ G l M_X11_riseLooked (some (vI r.1)) r.2 92 [(0, vR (some this)), (1, vI x1), (2, vI x2), (3, vI x3)] [vI s0] h := by
  unfold f_X11_riseLooked_92 at hf
  refine r_istore (lv' := [(4, vI s0), (0, vR (some this)), (1, vI x1), (2, vI x2), (3, vI x3)]) dX11_riseLooked_92 (Nat.le_of_ble_eq_true rfl) rfl ?_
  refine r_aload_n 1 dX11_riseLooked_94 rfl ?_
  obtain ⟨v95, e95, hf⟩ := ob hf
  refine r_get dX11_riseLooked_95 fl_11_24 kw_4_79 (Or.inl rfl) (gR_sp e95) ?_
  refine r_iload_n 3 dX11_riseLooked_98 rfl ?_
  refine r_iload 0 dX11_riseLooked_99 rfl ?_
  refine r_if_eq (tgt := 115) dX11_riseLooked_101 (by decide) (fun c101 => ?_) (fun c101 => ?_)
  · replace hf := (if_pos c101).symm.trans hf
    refine r_aload_n 1 dX11_riseLooked_115 rfl ?_
    obtain ⟨v116, e116, hf⟩ := ob hf
    refine r_get dX11_riseLooked_116 fl_11_24 kw_4_79 (Or.inl rfl) (gR_sp e116) ?_
    refine r_iload_n 3 dX11_riseLooked_119 rfl ?_
    obtain ⟨v120, e120, hf⟩ := ob hf
    refine r_iaload dX11_riseLooked_120 e120 ?_
    exact r_sub [1, 2, 3, 4] rfl (t_X11_riseLooked_121 G l _ k4 hk4 k32 hk32 _ _ _ _ _ _ _ _ hf)
  · replace hf := (if_neg c101).symm.trans hf
    refine r_aload_n 1 dX11_riseLooked_104 rfl ?_
    obtain ⟨v105, e105, hf⟩ := ob hf
    refine r_get dX11_riseLooked_105 fl_11_24 kw_4_79 (Or.inl rfl) (gR_sp e105) ?_
    refine r_iload_n 4 dX11_riseLooked_108 rfl ?_
    obtain ⟨v109, e109, hf⟩ := ob hf
    refine r_iaload dX11_riseLooked_109 e109 ?_
    refine r_iconst (x := (1 : Int32)) dX11_riseLooked_110 (by decide) ?_
    refine r_iadd dX11_riseLooked_111 ?_
    refine r_goto (tgt := 121) dX11_riseLooked_112 (by decide) ?_
    exact r_sub [1, 2, 3, 4] rfl (t_X11_riseLooked_121 G l _ k4 hk4 k32 hk32 _ _ _ _ _ _ _ _ hf)
def f_X11_riseLooked_91 (this : Nat) (k4 : Hp → Int32 → Int32 → Option (Int32 × Hp)) (k32 : Hp → Int32 → Int32 → Int32 → Option (Int32 × Hp)) (h : Hp) (x1 : Int32) (x2 : Int32) (x3 : Int32) : Option (Int32 × Hp) :=
    f_X11_riseLooked_92 this k4 k32 h x1 x2 x3 (0 : Int32)
set_option maxRecDepth 100000 in
set_option maxHeartbeats 4000000 in
theorem t_X11_riseLooked_91 (G : Gx) (l : Launch) (this : Nat) (k4 : Hp → Int32 → Int32 → Option (Int32 × Hp)) (hk4 : ∀ (h : Hp) (x1 : Int32) (x2 : Int32) (r : (Int32 × Hp)), k4 h x1 x2 = some r → RJ G l M_X11_riseLooked (some (vI r.1)) r.2 4 [(0, vR (some this)), (1, vI x1), (2, vI x2)] [] h) (k32 : Hp → Int32 → Int32 → Int32 → Option (Int32 × Hp)) (hk32 : ∀ (h : Hp) (x1 : Int32) (x2 : Int32) (x3 : Int32) (r : (Int32 × Hp)), k32 h x1 x2 x3 = some r → RJ G l M_X11_riseLooked (some (vI r.1)) r.2 32 [(0, vR (some this)), (1, vI x1), (2, vI x2), (3, vI x3)] [] h) (h : Hp) (x1 : Int32) (x2 : Int32) (x3 : Int32) (r : (Int32 × Hp)) (hf : f_X11_riseLooked_91 this k4 k32 h x1 x2 x3 = some r) : RJ G l M_X11_riseLooked (some (vI r.1)) r.2 91 [(0, vR (some this)), (1, vI x1), (2, vI x2), (3, vI x3)] [] h := by
  unfold f_X11_riseLooked_91 at hf
  refine r_iconst (x := (0 : Int32)) dX11_riseLooked_91 (by decide) ?_
  exact r_sub [0, 1, 2, 3] rfl (t_X11_riseLooked_92 G l _ k4 hk4 k32 hk32 _ _ _ _ _ _ hf)
def f_X11_riseLooked_148 (this : Nat) (k4 : Hp → Int32 → Int32 → Option (Int32 × Hp)) (h : Hp) (x2 : Int32) (s0 : Int32) : Option (Int32 × Hp) :=
    k4 h s0 (x2 + 1)
set_option maxRecDepth 100000 in
set_option maxHeartbeats 4000000 in
theorem t_X11_riseLooked_148 (G : Gx) (l : Launch) (this : Nat) (k4 : Hp → Int32 → Int32 → Option (Int32 × Hp)) (hk4 : ∀ (h : Hp) (x1 : Int32) (x2 : Int32) (r : (Int32 × Hp)), k4 h x1 x2 = some r → RJ G l M_X11_riseLooked (some (vI r.1)) r.2 4 [(0, vR (some this)), (1, vI x1), (2, vI x2)] [] h) (h : Hp) (x2 : Int32) (s0 : Int32) (r : (Int32 × Hp)) (hf : f_X11_riseLooked_148 this k4 h x2 s0 = some r) : RJ G l M_X11_riseLooked (some (vI r.1)) r.2 148 [(0, vR (some this)), (2, vI x2)] [vI s0] h := by
  unfold f_X11_riseLooked_148 at hf
  refine r_istore_n (lv' := [(1, vI s0), (0, vR (some this)), (2, vI x2)]) dX11_riseLooked_148 (Nat.le_of_ble_eq_true rfl) rfl ?_
  refine r_iinc (y := (x2 + 1)) (lv' := [(2, vI (x2 + 1)), (1, vI s0), (0, vR (some this))]) 2 dX11_riseLooked_149 rfl rfl (Nat.le_of_ble_eq_true rfl) rfl ?_
  refine r_goto (tgt := 4) dX11_riseLooked_152 (by decide) ?_
  exact r_sub [2, 1, 0] rfl (hk4 _ _ _ _ hf)
def f_X11_riseLooked_128 (this : Nat) (k4 : Hp → Int32 → Int32 → Option (Int32 × Hp)) (h : Hp) (x1 : Int32) (x2 : Int32) : Option (Int32 × Hp) :=
    (gR h (some this) [11] 24).bind fun v129 =>
    (aI h v129 x2).bind fun v133 =>
    if v133 ≤ x1 then
      f_X11_riseLooked_148 this k4 h x2 x1
    else
      (gR h (some this) [11] 24).bind fun v139 =>
      (aI h v139 x2).bind fun v143 =>
      f_X11_riseLooked_148 this k4 h x2 v143
set_option maxRecDepth 100000 in
set_option maxHeartbeats 4000000 in
theorem t_X11_riseLooked_128 (G : Gx) (l : Launch) (this : Nat) (k4 : Hp → Int32 → Int32 → Option (Int32 × Hp)) (hk4 : ∀ (h : Hp) (x1 : Int32) (x2 : Int32) (r : (Int32 × Hp)), k4 h x1 x2 = some r → RJ G l M_X11_riseLooked (some (vI r.1)) r.2 4 [(0, vR (some this)), (1, vI x1), (2, vI x2)] [] h) (h : Hp) (x1 : Int32) (x2 : Int32) (r : (Int32 × Hp)) (hf : f_X11_riseLooked_128 this k4 h x1 x2 = some r) : RJ G l M_X11_riseLooked (some (vI r.1)) r.2 128 [(0, vR (some this)), (1, vI x1), (2, vI x2)] [] h := by
  unfold f_X11_riseLooked_128 at hf
  refine r_aload_n 0 dX11_riseLooked_128 rfl ?_
  obtain ⟨v129, e129, hf⟩ := ob hf
  refine r_get dX11_riseLooked_129 fl_11_24 kw_4_79 (Or.inl rfl) (gR_sp e129) ?_
  refine r_iload_n 2 dX11_riseLooked_132 rfl ?_
  obtain ⟨v133, e133, hf⟩ := ob hf
  refine r_iaload dX11_riseLooked_133 e133 ?_
  refine r_iload_n 1 dX11_riseLooked_134 rfl ?_
  refine r_icmp_le (tgt := 147) dX11_riseLooked_135 (by decide) (fun c135 => ?_) (fun c135 => ?_)
  · replace hf := (if_pos c135).symm.trans hf
    refine r_iload_n 1 dX11_riseLooked_147 rfl ?_
    exact r_sub [0, 2] rfl (t_X11_riseLooked_148 G l _ k4 hk4 _ _ _ _ hf)
  · replace hf := (if_neg c135).symm.trans hf
    refine r_aload_n 0 dX11_riseLooked_138 rfl ?_
    obtain ⟨v139, e139, hf⟩ := ob hf
    refine r_get dX11_riseLooked_139 fl_11_24 kw_4_79 (Or.inl rfl) (gR_sp e139) ?_
    refine r_iload_n 2 dX11_riseLooked_142 rfl ?_
    obtain ⟨v143, e143, hf⟩ := ob hf
    refine r_iaload dX11_riseLooked_143 e143 ?_
    refine r_goto (tgt := 148) dX11_riseLooked_144 (by decide) ?_
    exact r_sub [0, 2] rfl (t_X11_riseLooked_148 G l _ k4 hk4 _ _ _ _ hf)
def f_X11_riseLooked_32 (this : Nat) (k4 : Hp → Int32 → Int32 → Option (Int32 × Hp)) : Nat → Hp → Int32 → Int32 → Int32 → Option (Int32 × Hp)
  | 0, _, _, _, _ => none
  | n + 1, h, x1, x2, x3 =>
    if x2 ≤ x3 then
      f_X11_riseLooked_128 this k4 h x1 x2
    else
      (gR h (some this) [11] 7).bind fun v38 =>
      (aI h v38 x2).bind fun v42 =>
      if v42 ≤ 0 then
        f_X11_riseLooked_128 this k4 h x1 x2
      else
        (gR h (some this) [11] 7).bind fun v47 =>
        (aI h v47 x3).bind fun v51 =>
        if v51 ≤ 0 then
          f_X11_riseLooked_91 this k4 (f_X11_riseLooked_32 this k4 n) h x1 x2 x3
        else
          (gR h (some this) [11] 7).bind fun v56 =>
          (aI h v56 x3).bind fun v60 =>
          (gR h (some this) [11] 7).bind fun v62 =>
          (aI h v62 x2).bind fun v66 =>
          if v66 ≤ v60 then
            f_X11_riseLooked_91 this k4 (f_X11_riseLooked_32 this k4 n) h x1 x2 x3
          else
            (gR h (some this) [11] 24).bind fun v71 =>
            (aI h v71 x3).bind fun v75 =>
            (gR h (some this) [11] 24).bind fun v79 =>
            (aI h v79 x2).bind fun v83 =>
            if (v75 + (1 : Int32)) ≤ v83 then
              f_X11_riseLooked_91 this k4 (f_X11_riseLooked_32 this k4 n) h x1 x2 x3
            else
              f_X11_riseLooked_92 this k4 (f_X11_riseLooked_32 this k4 n) h x1 x2 x3 (1 : Int32)
set_option maxRecDepth 100000 in
set_option maxHeartbeats 4000000 in
theorem t_X11_riseLooked_32 (G : Gx) (l : Launch) (this : Nat) (k4 : Hp → Int32 → Int32 → Option (Int32 × Hp)) (hk4 : ∀ (h : Hp) (x1 : Int32) (x2 : Int32) (r : (Int32 × Hp)), k4 h x1 x2 = some r → RJ G l M_X11_riseLooked (some (vI r.1)) r.2 4 [(0, vR (some this)), (1, vI x1), (2, vI x2)] [] h) : ∀ (n : Nat) (h : Hp) (x1 : Int32) (x2 : Int32) (x3 : Int32) (r : (Int32 × Hp)), f_X11_riseLooked_32 this k4 n h x1 x2 x3 = some r → RJ G l M_X11_riseLooked (some (vI r.1)) r.2 32 [(0, vR (some this)), (1, vI x1), (2, vI x2), (3, vI x3)] [] h := by
  intro n
  induction n with
  | zero =>
    intro h x1 x2 x3 r hf
    rw [f_X11_riseLooked_32] at hf
    cases hf
  | succ n ih =>
    intro h x1 x2 x3 r hf
    rw [f_X11_riseLooked_32] at hf
    refine r_iload_n 3 dX11_riseLooked_32 rfl ?_
    refine r_iload_n 2 dX11_riseLooked_33 rfl ?_
    refine r_icmp_ge (tgt := 128) dX11_riseLooked_34 (by decide) (fun c34 => ?_) (fun c34 => ?_)
    · replace hf := (if_pos c34).symm.trans hf
      exact r_sub [0, 1, 2] rfl (t_X11_riseLooked_128 G l _ k4 hk4 _ _ _ _ hf)
    · replace hf := (if_neg c34).symm.trans hf
      refine r_aload_n 0 dX11_riseLooked_37 rfl ?_
      obtain ⟨v38, e38, hf⟩ := ob hf
      refine r_get dX11_riseLooked_38 fl_11_7 kw_4_62 (Or.inl rfl) (gR_sp e38) ?_
      refine r_iload_n 2 dX11_riseLooked_41 rfl ?_
      obtain ⟨v42, e42, hf⟩ := ob hf
      refine r_iaload dX11_riseLooked_42 e42 ?_
      refine r_if_le (tgt := 128) dX11_riseLooked_43 (by decide) (fun c43 => ?_) (fun c43 => ?_)
      · replace hf := (if_pos c43).symm.trans hf
        exact r_sub [0, 1, 2] rfl (t_X11_riseLooked_128 G l _ k4 hk4 _ _ _ _ hf)
      · replace hf := (if_neg c43).symm.trans hf
        refine r_aload_n 0 dX11_riseLooked_46 rfl ?_
        obtain ⟨v47, e47, hf⟩ := ob hf
        refine r_get dX11_riseLooked_47 fl_11_7 kw_4_62 (Or.inl rfl) (gR_sp e47) ?_
        refine r_iload_n 3 dX11_riseLooked_50 rfl ?_
        obtain ⟨v51, e51, hf⟩ := ob hf
        refine r_iaload dX11_riseLooked_51 e51 ?_
        refine r_if_le (tgt := 91) dX11_riseLooked_52 (by decide) (fun c52 => ?_) (fun c52 => ?_)
        · replace hf := (if_pos c52).symm.trans hf
          exact r_sub [0, 1, 2, 3] rfl (t_X11_riseLooked_91 G l _ k4 hk4 (f_X11_riseLooked_32 this k4 n) ih _ _ _ _ _ hf)
        · replace hf := (if_neg c52).symm.trans hf
          refine r_aload_n 0 dX11_riseLooked_55 rfl ?_
          obtain ⟨v56, e56, hf⟩ := ob hf
          refine r_get dX11_riseLooked_56 fl_11_7 kw_4_62 (Or.inl rfl) (gR_sp e56) ?_
          refine r_iload_n 3 dX11_riseLooked_59 rfl ?_
          obtain ⟨v60, e60, hf⟩ := ob hf
          refine r_iaload dX11_riseLooked_60 e60 ?_
          refine r_aload_n 0 dX11_riseLooked_61 rfl ?_
          obtain ⟨v62, e62, hf⟩ := ob hf
          refine r_get dX11_riseLooked_62 fl_11_7 kw_4_62 (Or.inl rfl) (gR_sp e62) ?_
          refine r_iload_n 2 dX11_riseLooked_65 rfl ?_
          obtain ⟨v66, e66, hf⟩ := ob hf
          refine r_iaload dX11_riseLooked_66 e66 ?_
          refine r_icmp_ge (tgt := 91) dX11_riseLooked_67 (by decide) (fun c67 => ?_) (fun c67 => ?_)
          · replace hf := (if_pos c67).symm.trans hf
            exact r_sub [0, 1, 2, 3] rfl (t_X11_riseLooked_91 G l _ k4 hk4 (f_X11_riseLooked_32 this k4 n) ih _ _ _ _ _ hf)
          · replace hf := (if_neg c67).symm.trans hf
            refine r_aload_n 0 dX11_riseLooked_70 rfl ?_
            obtain ⟨v71, e71, hf⟩ := ob hf
            refine r_get dX11_riseLooked_71 fl_11_24 kw_4_79 (Or.inl rfl) (gR_sp e71) ?_
            refine r_iload_n 3 dX11_riseLooked_74 rfl ?_
            obtain ⟨v75, e75, hf⟩ := ob hf
            refine r_iaload dX11_riseLooked_75 e75 ?_
            refine r_iconst (x := (1 : Int32)) dX11_riseLooked_76 (by decide) ?_
            refine r_iadd dX11_riseLooked_77 ?_
            refine r_aload_n 0 dX11_riseLooked_78 rfl ?_
            obtain ⟨v79, e79, hf⟩ := ob hf
            refine r_get dX11_riseLooked_79 fl_11_24 kw_4_79 (Or.inl rfl) (gR_sp e79) ?_
            refine r_iload_n 2 dX11_riseLooked_82 rfl ?_
            obtain ⟨v83, e83, hf⟩ := ob hf
            refine r_iaload dX11_riseLooked_83 e83 ?_
            refine r_icmp_le (tgt := 91) dX11_riseLooked_84 (by decide) (fun c84 => ?_) (fun c84 => ?_)
            · replace hf := (if_pos c84).symm.trans hf
              exact r_sub [0, 1, 2, 3] rfl (t_X11_riseLooked_91 G l _ k4 hk4 (f_X11_riseLooked_32 this k4 n) ih _ _ _ _ _ hf)
            · replace hf := (if_neg c84).symm.trans hf
              refine r_iconst (x := (1 : Int32)) dX11_riseLooked_87 (by decide) ?_
              refine r_goto (tgt := 92) dX11_riseLooked_88 (by decide) ?_
              exact r_sub [0, 1, 2, 3] rfl (t_X11_riseLooked_92 G l _ k4 hk4 (f_X11_riseLooked_32 this k4 n) ih _ _ _ _ _ _ hf)
def f_X11_riseLooked_29 (this : Nat) (k4 : Hp → Int32 → Int32 → Option (Int32 × Hp)) (h : Hp) (x1 : Int32) (x2 : Int32) (s0 : Int32) (s1 : Int32) (s2 : Option Nat) : Option (Int32 × Hp) :=
    (wI h s2 s1 s0).bind fun h29 =>
    f_X11_riseLooked_32 this k4 10000 h29 x1 x2 (0 : Int32)
set_option maxRecDepth 100000 in
set_option maxHeartbeats 4000000 in
theorem t_X11_riseLooked_29 (G : Gx) (l : Launch) (this : Nat) (k4 : Hp → Int32 → Int32 → Option (Int32 × Hp)) (hk4 : ∀ (h : Hp) (x1 : Int32) (x2 : Int32) (r : (Int32 × Hp)), k4 h x1 x2 = some r → RJ G l M_X11_riseLooked (some (vI r.1)) r.2 4 [(0, vR (some this)), (1, vI x1), (2, vI x2)] [] h) (h : Hp) (x1 : Int32) (x2 : Int32) (s0 : Int32) (s1 : Int32) (s2 : Option Nat) (r : (Int32 × Hp)) (hf : f_X11_riseLooked_29 this k4 h x1 x2 s0 s1 s2 = some r) : RJ G l M_X11_riseLooked (some (vI r.1)) r.2 29 [(0, vR (some this)), (1, vI x1), (2, vI x2)] [vI s0, vI s1, vR s2] h := by
  unfold f_X11_riseLooked_29 at hf
  obtain ⟨h29, e29, hf⟩ := ob hf
  refine r_iastore dX11_riseLooked_29 e29 ?_
  refine r_iconst (x := (0 : Int32)) dX11_riseLooked_30 (by decide) ?_
  refine r_istore_n (lv' := [(3, vI (0 : Int32)), (0, vR (some this)), (1, vI x1), (2, vI x2)]) dX11_riseLooked_31 (Nat.le_of_ble_eq_true rfl) rfl ?_
  exact r_sub [1, 2, 3, 0] rfl (t_X11_riseLooked_32 G l _ k4 hk4 _ _ _ _ _ _ hf)
def f_X11_riseLooked_4 (this : Nat) : Nat → Hp → Int32 → Int32 → Option (Int32 × Hp)
  | 0, _, _, _ => none
  | n + 1, h, x1, x2 =>
    if (12 : Int32) ≤ x2 then
      some (x1, h)
    else
      (gR h (some this) [11] 24).bind fun v11 =>
      (gR h (some this) [11] 7).bind fun v16 =>
      (aI h v16 x2).bind fun v20 =>
      if v20 ≤ 0 then
        f_X11_riseLooked_29 this (f_X11_riseLooked_4 this n) h x1 x2 (0 : Int32) x2 v11
      else
        f_X11_riseLooked_29 this (f_X11_riseLooked_4 this n) h x1 x2 (1 : Int32) x2 v11
set_option maxRecDepth 100000 in
set_option maxHeartbeats 4000000 in
theorem t_X11_riseLooked_4 (G : Gx) (l : Launch) (this : Nat)  : ∀ (n : Nat) (h : Hp) (x1 : Int32) (x2 : Int32) (r : (Int32 × Hp)), f_X11_riseLooked_4 this n h x1 x2 = some r → RJ G l M_X11_riseLooked (some (vI r.1)) r.2 4 [(0, vR (some this)), (1, vI x1), (2, vI x2)] [] h := by
  intro n
  induction n with
  | zero =>
    intro h x1 x2 r hf
    rw [f_X11_riseLooked_4] at hf
    cases hf
  | succ n ih =>
    intro h x1 x2 r hf
    rw [f_X11_riseLooked_4] at hf
    refine r_iload_n 2 dX11_riseLooked_4 rfl ?_
    refine r_bipush (x := (12 : Int32)) dX11_riseLooked_5 (by decide) ?_
    refine r_icmp_ge (tgt := 155) dX11_riseLooked_7 (by decide) (fun c7 => ?_) (fun c7 => ?_)
    · replace hf := (if_pos c7).symm.trans hf
      refine r_iload_n 1 dX11_riseLooked_155 rfl ?_
      have hf := Option.some.inj hf
      subst hf
      exact r_iret rfl dX11_riseLooked_156
    · replace hf := (if_neg c7).symm.trans hf
      refine r_aload_n 0 dX11_riseLooked_10 rfl ?_
      obtain ⟨v11, e11, hf⟩ := ob hf
      refine r_get dX11_riseLooked_11 fl_11_24 kw_4_79 (Or.inl rfl) (gR_sp e11) ?_
      refine r_iload_n 2 dX11_riseLooked_14 rfl ?_
      refine r_aload_n 0 dX11_riseLooked_15 rfl ?_
      obtain ⟨v16, e16, hf⟩ := ob hf
      refine r_get dX11_riseLooked_16 fl_11_7 kw_4_62 (Or.inl rfl) (gR_sp e16) ?_
      refine r_iload_n 2 dX11_riseLooked_19 rfl ?_
      obtain ⟨v20, e20, hf⟩ := ob hf
      refine r_iaload dX11_riseLooked_20 e20 ?_
      refine r_if_le (tgt := 28) dX11_riseLooked_21 (by decide) (fun c21 => ?_) (fun c21 => ?_)
      · replace hf := (if_pos c21).symm.trans hf
        refine r_iconst (x := (0 : Int32)) dX11_riseLooked_28 (by decide) ?_
        exact r_sub [0, 1, 2] rfl (t_X11_riseLooked_29 G l _ (f_X11_riseLooked_4 this n) ih _ _ _ _ _ _ _ hf)
      · replace hf := (if_neg c21).symm.trans hf
        refine r_iconst (x := (1 : Int32)) dX11_riseLooked_24 (by decide) ?_
        refine r_goto (tgt := 29) dX11_riseLooked_25 (by decide) ?_
        exact r_sub [0, 1, 2] rfl (t_X11_riseLooked_29 G l _ (f_X11_riseLooked_4 this n) ih _ _ _ _ _ _ _ hf)
def f_X11_riseLooked (h : Hp) (this : Nat) : Option (Int32 × Hp) :=
    f_X11_riseLooked_4 this 10000 h (0 : Int32) (0 : Int32)
set_option maxRecDepth 100000 in
set_option maxHeartbeats 4000000 in
theorem k_X11_riseLooked (G : Gx) (l : Launch) {h : Hp} {this : Nat} {r : (Int32 × Hp)} (hf : f_X11_riseLooked h this = some r) : KM l yX11_riseLooked (.code yX11_riseLooked cX11_riseLooked 5 (some .int) :: wsK) 0 0 G [vR (some this)] h (some (vI r.1)) r.2 := by
  refine r_entry (ctor := false) (own := RX11) (by decide +kernel) rfl (fun q => by cases q) (Nat.le_of_ble_eq_true rfl) ?_
  show RJ G l M_X11_riseLooked (some (vI r.1)) r.2 0 [(0, vR (some this))] [] h
  unfold f_X11_riseLooked at hf
  refine r_iconst (x := (0 : Int32)) dX11_riseLooked_0 (by decide) ?_
  refine r_istore_n (lv' := [(1, vI (0 : Int32)), (0, vR (some this))]) dX11_riseLooked_1 (Nat.le_of_ble_eq_true rfl) rfl ?_
  refine r_iconst (x := (0 : Int32)) dX11_riseLooked_2 (by decide) ?_
  refine r_istore_n (lv' := [(2, vI (0 : Int32)), (1, vI (0 : Int32)), (0, vR (some this))]) dX11_riseLooked_3 (Nat.le_of_ble_eq_true rfl) rfl ?_
  exact r_sub [2, 1, 0] rfl (t_X11_riseLooked_4 G l _ _ _ _ _ _ hf)
/-! ===== NumberedByAgeModel.rise()I ===== -/
abbrev M_X11_rise : Mx := (cX11_rise, 1, RX11, (false, []), (some .int), 2, 42)
def f_X11_rise (h : Hp) (this : Nat) : Option (Int32 × Hp) :=
    (pF h (some this) [11] 6 (vI (0 : Int32))).bind fun h2 =>
    (rcv h2 (some this) 11).bind fun a6 =>
    (f_X11_lookNow h2 a6).bind fun h6 =>
    (rcv h6 (some this) 11).bind fun a10 =>
    (f_X11_riseLooked h6 a10).bind fun q10 =>
    some (q10.1, q10.2)
set_option maxRecDepth 100000 in
set_option maxHeartbeats 4000000 in
theorem k_X11_rise (G : Gx) (l : Launch) {h : Hp} {this : Nat} {r : (Int32 × Hp)} (hf : f_X11_rise h this = some r) : KM l yX11_rise (.code yX11_rise cX11_rise 1 (some .int) :: wsK) 2 42 G [vR (some this)] h (some (vI r.1)) r.2 := by
  refine r_entry (ctor := false) (own := RX11) (by decide +kernel) rfl (fun q => by cases q) (Nat.le_of_ble_eq_true rfl) ?_
  show RJ G l M_X11_rise (some (vI r.1)) r.2 0 [(0, vR (some this))] [] h
  unfold f_X11_rise at hf
  refine r_aload_n 0 dX11_rise_0 rfl ?_
  refine r_iconst (x := (0 : Int32)) dX11_rise_1 (by decide) ?_
  obtain ⟨h2, e2, hf⟩ := ob hf
  refine r_put dX11_rise_2 fl_11_6 kw_4_61 (Or.inl rfl) (by decide +kernel) (fit_int _) e2 ?_
  refine r_aload_n 0 dX11_rise_5 rfl ?_
  obtain ⟨a6, ea6, hf⟩ := ob hf
  obtain ⟨h6, e6, hf⟩ := ob hf
  refine r_callV (y := yX11_lookNow) (ci := 11) (avs := []) dX11_rise_6 rfl kw_4_212 kw_4_214 kw_0_23 kw_1_5 kw_4_215 oky_X11_lookNow ⟨Nat.le_of_ble_eq_true rfl, Nat.le_of_ble_eq_true rfl⟩ rfl (Nat.le_of_ble_eq_true rfl) ea6 (k_X11_lookNow G l e6) ?_
  refine r_aload_n 0 dX11_rise_9 rfl ?_
  obtain ⟨a10, ea10, hf⟩ := ob hf
  obtain ⟨q10, e10, hf⟩ := ob hf
  refine r_callV (y := yX11_riseLooked) (ci := 11) (avs := []) dX11_rise_10 rfl kw_5_86 kw_5_88 kw_0_35 kw_1_5 kw_5_89 oky_X11_riseLooked ⟨Nat.le_of_ble_eq_true rfl, Nat.le_of_ble_eq_true rfl⟩ rfl (Nat.le_of_ble_eq_true rfl) ea10 (k_X11_riseLooked G l e10) ?_
  have hf := Option.some.inj hf
  subst hf
  exact r_iret rfl dX11_rise_13
/-! ===== NumberedByAgeModel.row(III)I ===== -/
abbrev M_X11_row : Mx := (cX11_row, 5, RX11, (false, []), (some .int), 1, 25)
def f_X11_row_68 (this : Nat) : Nat → Hp → Int32 → Int32 → Option (Int32 × Hp)
  | 0, _, _, _ => none
  | n + 1, h, x1, x4 =>
    if (100 : Int32) ≤ x4 then
      some ((0 : Int32), h)
    else
      (gR h (some this) [11] 33).bind fun v76 =>
      (wL h v76 (((100 : Int32) * x1) + x4) (0 : Int64)).bind fun h87 =>
      (f_X11_row_68 this n) h87 x1 (x4 + 1)
set_option maxRecDepth 100000 in
set_option maxHeartbeats 4000000 in
theorem t_X11_row_68 (G : Gx) (l : Launch) (this : Nat)  : ∀ (n : Nat) (h : Hp) (x1 : Int32) (x4 : Int32) (r : (Int32 × Hp)), f_X11_row_68 this n h x1 x4 = some r → RJ G l M_X11_row (some (vI r.1)) r.2 68 [(0, vR (some this)), (1, vI x1), (4, vI x4)] [] h := by
  intro n
  induction n with
  | zero =>
    intro h x1 x4 r hf
    rw [f_X11_row_68] at hf
    cases hf
  | succ n ih =>
    intro h x1 x4 r hf
    rw [f_X11_row_68] at hf
    refine r_iload 2 dX11_row_68 rfl ?_
    refine r_bipush (x := (100 : Int32)) dX11_row_70 (by decide) ?_
    refine r_icmp_ge (tgt := 94) dX11_row_72 (by decide) (fun c72 => ?_) (fun c72 => ?_)
    · replace hf := (if_pos c72).symm.trans hf
      refine r_iconst (x := (0 : Int32)) dX11_row_94 (by decide) ?_
      have hf := Option.some.inj hf
      subst hf
      exact r_iret rfl dX11_row_95
    · replace hf := (if_neg c72).symm.trans hf
      refine r_aload_n 0 dX11_row_75 rfl ?_
      obtain ⟨v76, e76, hf⟩ := ob hf
      refine r_get dX11_row_76 fl_11_33 kw_4_88 (Or.inl rfl) (gR_sp e76) ?_
      refine r_bipush (x := (100 : Int32)) dX11_row_79 (by decide) ?_
      refine r_iload_n 1 dX11_row_81 rfl ?_
      refine r_imul dX11_row_82 ?_
      refine r_iload 2 dX11_row_83 rfl ?_
      refine r_iadd dX11_row_85 ?_
      refine r_lconst (x := (0 : Int64)) dX11_row_86 (by decide) ?_
      obtain ⟨h87, e87, hf⟩ := ob hf
      refine r_lastore dX11_row_87 e87 ?_
      refine r_iinc (y := (x4 + 1)) (lv' := [(4, vI (x4 + 1)), (0, vR (some this)), (1, vI x1)]) 2 dX11_row_88 rfl rfl (Nat.le_of_ble_eq_true rfl) rfl ?_
      refine r_goto (tgt := 68) dX11_row_91 (by decide) ?_
      exact r_sub [1, 2, 0] rfl (ih _ _ _ _ hf)
def f_X11_row (h : Hp) (this : Nat) (x1 : Int32) (x2 : Int32) (x3 : Int32) : Option (Int32 × Hp) :=
    (pF h (some this) [11] 6 (vI (0 : Int32))).bind fun h2 =>
    (f_X11_in h2 x1.toInt64 (0 : Int64) (7 : Int64)).bind fun v11 =>
    if v11 = 0 then
      some ((-1 : Int32), h2)
    else
      (f_X11_in h2 x2.toInt64 (0 : Int64) (2 : Int64)).bind fun v23 =>
      if v23 = 0 then
        some ((-1 : Int32), h2)
      else
        if x3 ≤ (100 : Int32) then
          if 0 ≤ x3 then
            (gR h2 (some this) [11] 28).bind fun v45 =>
            (wI h2 v45 x1 (2 : Int32)).bind fun h50 =>
            (gR h50 (some this) [11] 31).bind fun v52 =>
            (wI h50 v52 x1 x2).bind fun h57 =>
            (gR h57 (some this) [11] 32).bind fun v59 =>
            (wI h57 v59 x1 x3).bind fun h64 =>
            f_X11_row_68 this 10000 h64 x1 (0 : Int32)
          else
            some ((-14 : Int32), h2)
        else
          some ((-1 : Int32), h2)
set_option maxRecDepth 100000 in
set_option maxHeartbeats 4000000 in
theorem k_X11_row (G : Gx) (l : Launch) {h : Hp} {this : Nat} {x1 : Int32} {x2 : Int32} {x3 : Int32} {r : (Int32 × Hp)} (hf : f_X11_row h this x1 x2 x3 = some r) : KM l yX11_row (.code yX11_row cX11_row 5 (some .int) :: wsK) 1 25 G [vR (some this), vI x1, vI x2, vI x3] h (some (vI r.1)) r.2 := by
  refine r_entry (ctor := false) (own := RX11) (by decide +kernel) rfl (fun q => by cases q) (Nat.le_of_ble_eq_true rfl) ?_
  show RJ G l M_X11_row (some (vI r.1)) r.2 0 [(0, vR (some this)), (1, vI x1), (2, vI x2), (3, vI x3)] [] h
  unfold f_X11_row at hf
  refine r_aload_n 0 dX11_row_0 rfl ?_
  refine r_iconst (x := (0 : Int32)) dX11_row_1 (by decide) ?_
  obtain ⟨h2, e2, hf⟩ := ob hf
  refine r_put dX11_row_2 fl_11_6 kw_4_61 (Or.inl rfl) (by decide +kernel) (fit_int _) e2 ?_
  refine r_iload_n 1 dX11_row_5 rfl ?_
  refine r_i2l dX11_row_6 ?_
  refine r_lconst (x := (0 : Int64)) dX11_row_7 (by decide) ?_
  refine r_ldc2 (x := (7 : Int64)) dX11_row_8 kw_4_178 ?_
  obtain ⟨v11, e11, hf⟩ := ob hf
  refine r_callS (y := yX11_in) (avs := [vL x1.toInt64, vL (0 : Int64), vL (7 : Int64)]) dX11_row_11 kw_4_179 kw_4_180 kw_1_5 kw_4_181 oky_X11_in ⟨Nat.le_of_ble_eq_true rfl, Nat.le_of_ble_eq_true rfl⟩ rfl (Nat.le_of_ble_eq_true rfl) (k_X11_in G l e11) ?_
  refine r_if_eq (tgt := 35) dX11_row_14 (by decide) (fun c14 => ?_) (fun c14 => ?_)
  · replace hf := (if_pos c14).symm.trans hf
    refine r_iconst (x := (-1 : Int32)) dX11_row_35 (by decide) ?_
    have hf := Option.some.inj hf
    subst hf
    exact r_iret rfl dX11_row_36
  · replace hf := (if_neg c14).symm.trans hf
    refine r_iload_n 2 dX11_row_17 rfl ?_
    refine r_i2l dX11_row_18 ?_
    refine r_lconst (x := (0 : Int64)) dX11_row_19 (by decide) ?_
    refine r_ldc2 (x := (2 : Int64)) dX11_row_20 kw_5_36 ?_
    obtain ⟨v23, e23, hf⟩ := ob hf
    refine r_callS (y := yX11_in) (avs := [vL x2.toInt64, vL (0 : Int64), vL (2 : Int64)]) dX11_row_23 kw_4_179 kw_4_180 kw_1_5 kw_4_181 oky_X11_in ⟨Nat.le_of_ble_eq_true rfl, Nat.le_of_ble_eq_true rfl⟩ rfl (Nat.le_of_ble_eq_true rfl) (k_X11_in G l e23) ?_
    refine r_if_eq (tgt := 35) dX11_row_26 (by decide) (fun c26 => ?_) (fun c26 => ?_)
    · replace hf := (if_pos c26).symm.trans hf
      refine r_iconst (x := (-1 : Int32)) dX11_row_35 (by decide) ?_
      have hf := Option.some.inj hf
      subst hf
      exact r_iret rfl dX11_row_36
    · replace hf := (if_neg c26).symm.trans hf
      refine r_iload_n 3 dX11_row_29 rfl ?_
      refine r_bipush (x := (100 : Int32)) dX11_row_30 (by decide) ?_
      refine r_icmp_le (tgt := 37) dX11_row_32 (by decide) (fun c32 => ?_) (fun c32 => ?_)
      · replace hf := (if_pos c32).symm.trans hf
        refine r_iload_n 3 dX11_row_37 rfl ?_
        refine r_if_ge (tgt := 44) dX11_row_38 (by decide) (fun c38 => ?_) (fun c38 => ?_)
        · replace hf := (if_pos c38).symm.trans hf
          refine r_aload_n 0 dX11_row_44 rfl ?_
          obtain ⟨v45, e45, hf⟩ := ob hf
          refine r_get dX11_row_45 fl_11_28 kw_4_83 (Or.inl rfl) (gR_sp e45) ?_
          refine r_iload_n 1 dX11_row_48 rfl ?_
          refine r_iconst (x := (2 : Int32)) dX11_row_49 (by decide) ?_
          obtain ⟨h50, e50, hf⟩ := ob hf
          refine r_iastore dX11_row_50 e50 ?_
          refine r_aload_n 0 dX11_row_51 rfl ?_
          obtain ⟨v52, e52, hf⟩ := ob hf
          refine r_get dX11_row_52 fl_11_31 kw_4_86 (Or.inl rfl) (gR_sp e52) ?_
          refine r_iload_n 1 dX11_row_55 rfl ?_
          refine r_iload_n 2 dX11_row_56 rfl ?_
          obtain ⟨h57, e57, hf⟩ := ob hf
          refine r_iastore dX11_row_57 e57 ?_
          refine r_aload_n 0 dX11_row_58 rfl ?_
          obtain ⟨v59, e59, hf⟩ := ob hf
          refine r_get dX11_row_59 fl_11_32 kw_4_87 (Or.inl rfl) (gR_sp e59) ?_
          refine r_iload_n 1 dX11_row_62 rfl ?_
          refine r_pc (pc' := 63) rfl ?_
          refine r_iload_n 3 dX11_row_63 rfl ?_
          obtain ⟨h64, e64, hf⟩ := ob hf
          refine r_iastore dX11_row_64 e64 ?_
          refine r_iconst (x := (0 : Int32)) dX11_row_65 (by decide) ?_
          refine r_istore (lv' := [(4, vI (0 : Int32)), (0, vR (some this)), (1, vI x1), (2, vI x2), (3, vI x3)]) dX11_row_66 (Nat.le_of_ble_eq_true rfl) rfl ?_
          exact r_sub [1, 2, 0] rfl (t_X11_row_68 G l _ _ _ _ _ _ hf)
        · replace hf := (if_neg c38).symm.trans hf
          refine r_bipush (x := (-14 : Int32)) dX11_row_41 (by decide) ?_
          have hf := Option.some.inj hf
          subst hf
          exact r_iret rfl dX11_row_43
      · replace hf := (if_neg c32).symm.trans hf
        refine r_iconst (x := (-1 : Int32)) dX11_row_35 (by decide) ?_
        have hf := Option.some.inj hf
        subst hf
        exact r_iret rfl dX11_row_36
