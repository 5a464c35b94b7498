/-! ===== NumberedByAgeModel.carryAll([IZ)V ===== -/
abbrev M_X11_carryAll : Mx := (cX11_carryAll, 4, RX11, (false, []), none, 1, 21)
def f_X11_carryAll_99 (this : Nat) : Nat → Hp → Int32 → Option Hp
  | 0, _, _ => none
  | n + 1, h, x3 =>
    if (12 : Int32) ≤ x3 then
      some h
    else
      (gR h (some this) [11] 5).bind fun v106 =>
      (gR h (some this) [11] 5).bind fun v112 =>
      (aI h v112 x3).bind fun v116 =>
      (rcv h (some this) 11).bind fun a117 =>
      (f_X11_carry h a117 v116).bind fun q117 =>
      (wI q117.2 v106 x3 q117.1).bind fun h120 =>
      (f_X11_carryAll_99 this n) h120 (x3 + 1)
set_option maxRecDepth 100000 in
set_option maxHeartbeats 4000000 in
theorem t_X11_carryAll_99 (G : Gx) (l : Launch) (this : Nat)  : ∀ (n : Nat) (h : Hp) (x3 : Int32) (r : Hp), f_X11_carryAll_99 this n h x3 = some r → RJ G l M_X11_carryAll none r 99 [(0, vR (some this)), (3, vI x3)] [] h := by
  intro n
  induction n with
  | zero =>
    intro h x3 r hf
    rw [f_X11_carryAll_99] at hf
    cases hf
  | succ n ih =>
    intro h x3 r hf
    rw [f_X11_carryAll_99] at hf
    refine r_iload_n 1 dX11_carryAll_99 rfl ?_
    refine r_bipush (x := (12 : Int32)) dX11_carryAll_100 (by decide) ?_
    refine r_icmp_ge (tgt := 127) dX11_carryAll_102 (by decide) (fun c102 => ?_) (fun c102 => ?_)
    · replace hf := (if_pos c102).symm.trans hf
      have hf := Option.some.inj hf
      subst hf
      exact r_vret rfl dX11_carryAll_127
    · replace hf := (if_neg c102).symm.trans hf
      refine r_aload_n 0 dX11_carryAll_105 rfl ?_
      obtain ⟨v106, e106, hf⟩ := ob hf
      refine r_get dX11_carryAll_106 fl_11_5 kw_4_60 (Or.inl rfl) (gR_sp e106) ?_
      refine r_iload_n 1 dX11_carryAll_109 rfl ?_
      refine r_aload_n 0 dX11_carryAll_110 rfl ?_
      refine r_aload_n 0 dX11_carryAll_111 rfl ?_
      obtain ⟨v112, e112, hf⟩ := ob hf
      refine r_get dX11_carryAll_112 fl_11_5 kw_4_60 (Or.inl rfl) (gR_sp e112) ?_
      refine r_iload_n 1 dX11_carryAll_115 rfl ?_
      obtain ⟨v116, e116, hf⟩ := ob hf
      refine r_iaload dX11_carryAll_116 e116 ?_
      obtain ⟨a117, ea117, hf⟩ := ob hf
      obtain ⟨q117, e117, hf⟩ := ob hf
      refine r_callV (y := yX11_carry) (ci := 11) (avs := [vI v116]) dX11_carryAll_117 rfl kw_4_200 kw_4_202 kw_0_20 kw_1_5 kw_4_203 oky_X11_carry ⟨Nat.le_of_ble_eq_true rfl, Nat.le_of_ble_eq_true rfl⟩ rfl (Nat.le_of_ble_eq_true rfl) ea117 (k_X11_carry G l e117) ?_
      obtain ⟨h120, e120, hf⟩ := ob hf
      refine r_iastore dX11_carryAll_120 e120 ?_
      refine r_iinc (y := (x3 + 1)) (lv' := [(3, vI (x3 + 1)), (0, vR (some this))]) 1 dX11_carryAll_121 rfl rfl (Nat.le_of_ble_eq_true rfl) rfl ?_
      refine r_goto (tgt := 99) dX11_carryAll_124 (by decide) ?_
      exact r_sub [1, 0] rfl (ih _ _ _ hf)
def f_X11_carryAll_53 (this : Nat) : Nat → Hp → Int32 → Option Hp
  | 0, _, _ => none
  | n + 1, h, x3 =>
    if (30 : Int32) ≤ x3 then
      f_X11_carryAll_99 this 10000 h (0 : Int32)
    else
      (gR h (some this) [11] 3).bind fun v60 =>
      (gR h (some this) [11] 3).bind fun v66 =>
      (aI h v66 x3).bind fun v70 =>
      (rcv h (some this) 11).bind fun a71 =>
      (f_X11_carry h a71 v70).bind fun q71 =>
      (wI q71.2 v60 x3 q71.1).bind fun h74 =>
      (gR h74 (some this) [11] 4).bind fun v76 =>
      (gR h74 (some this) [11] 4).bind fun v82 =>
      (aI h74 v82 x3).bind fun v86 =>
      (rcv h74 (some this) 11).bind fun a87 =>
      (f_X11_carry h74 a87 v86).bind fun q87 =>
      (wI q87.2 v76 x3 q87.1).bind fun h90 =>
      (f_X11_carryAll_53 this n) h90 (x3 + 1)
set_option maxRecDepth 100000 in
set_option maxHeartbeats 4000000 in
theorem t_X11_carryAll_53 (G : Gx) (l : Launch) (this : Nat)  : ∀ (n : Nat) (h : Hp) (x3 : Int32) (r : Hp), f_X11_carryAll_53 this n h x3 = some r → RJ G l M_X11_carryAll none r 53 [(0, vR (some this)), (3, vI x3)] [] h := by
  intro n
  induction n with
  | zero =>
    intro h x3 r hf
    rw [f_X11_carryAll_53] at hf
    cases hf
  | succ n ih =>
    intro h x3 r hf
    rw [f_X11_carryAll_53] at hf
    refine r_iload_n 1 dX11_carryAll_53 rfl ?_
    refine r_bipush (x := (30 : Int32)) dX11_carryAll_54 (by decide) ?_
    refine r_icmp_ge (tgt := 97) dX11_carryAll_56 (by decide) (fun c56 => ?_) (fun c56 => ?_)
    · replace hf := (if_pos c56).symm.trans hf
      refine r_iconst (x := (0 : Int32)) dX11_carryAll_97 (by decide) ?_
      refine r_istore_n (lv' := [(3, vI (0 : Int32)), (0, vR (some this))]) dX11_carryAll_98 (Nat.le_of_ble_eq_true rfl) rfl ?_
      exact r_sub [1, 0] rfl (t_X11_carryAll_99 G l _ _ _ _ _ hf)
    · replace hf := (if_neg c56).symm.trans hf
      refine r_aload_n 0 dX11_carryAll_59 rfl ?_
      obtain ⟨v60, e60, hf⟩ := ob hf
      refine r_get dX11_carryAll_60 fl_11_3 kw_4_58 (Or.inl rfl) (gR_sp e60) ?_
      refine r_iload_n 1 dX11_carryAll_63 rfl ?_
      refine r_aload_n 0 dX11_carryAll_64 rfl ?_
      refine r_aload_n 0 dX11_carryAll_65 rfl ?_
      obtain ⟨v66, e66, hf⟩ := ob hf
      refine r_get dX11_carryAll_66 fl_11_3 kw_4_58 (Or.inl rfl) (gR_sp e66) ?_
      refine r_iload_n 1 dX11_carryAll_69 rfl ?_
      obtain ⟨v70, e70, hf⟩ := ob hf
      refine r_iaload dX11_carryAll_70 e70 ?_
      obtain ⟨a71, ea71, hf⟩ := ob hf
      obtain ⟨q71, e71, hf⟩ := ob hf
      refine r_callV (y := yX11_carry) (ci := 11) (avs := [vI v70]) dX11_carryAll_71 rfl kw_4_200 kw_4_202 kw_0_20 kw_1_5 kw_4_203 oky_X11_carry ⟨Nat.le_of_ble_eq_true rfl, Nat.le_of_ble_eq_true rfl⟩ rfl (Nat.le_of_ble_eq_true rfl) ea71 (k_X11_carry G l e71) ?_
      obtain ⟨h74, e74, hf⟩ := ob hf
      refine r_iastore dX11_carryAll_74 e74 ?_
      refine r_aload_n 0 dX11_carryAll_75 rfl ?_
      obtain ⟨v76, e76, hf⟩ := ob hf
      refine r_get dX11_carryAll_76 fl_11_4 kw_4_59 (Or.inl rfl) (gR_sp e76) ?_
      refine r_iload_n 1 dX11_carryAll_79 rfl ?_
      refine r_pc (pc' := 80) rfl ?_
      refine r_aload_n 0 dX11_carryAll_80 rfl ?_
      refine r_aload_n 0 dX11_carryAll_81 rfl ?_
      obtain ⟨v82, e82, hf⟩ := ob hf
      refine r_get dX11_carryAll_82 fl_11_4 kw_4_59 (Or.inl rfl) (gR_sp e82) ?_
      refine r_iload_n 1 dX11_carryAll_85 rfl ?_
      obtain ⟨v86, e86, hf⟩ := ob hf
      refine r_iaload dX11_carryAll_86 e86 ?_
      obtain ⟨a87, ea87, hf⟩ := ob hf
      obtain ⟨q87, e87, hf⟩ := ob hf
      refine r_callV (y := yX11_carry) (ci := 11) (avs := [vI v86]) dX11_carryAll_87 rfl kw_4_200 kw_4_202 kw_0_20 kw_1_5 kw_4_203 oky_X11_carry ⟨Nat.le_of_ble_eq_true rfl, Nat.le_of_ble_eq_true rfl⟩ rfl (Nat.le_of_ble_eq_true rfl) ea87 (k_X11_carry G l e87) ?_
      obtain ⟨h90, e90, hf⟩ := ob hf
      refine r_iastore dX11_carryAll_90 e90 ?_
      refine r_iinc (y := (x3 + 1)) (lv' := [(3, vI (x3 + 1)), (0, vR (some this))]) 1 dX11_carryAll_91 rfl rfl (Nat.le_of_ble_eq_true rfl) rfl ?_
      refine r_goto (tgt := 53) dX11_carryAll_94 (by decide) ?_
      exact r_sub [1, 0] rfl (ih _ _ _ hf)
def f_X11_carryAll (h : Hp) (this : Nat) (x1 : Option Nat) (x2 : Int32) : Option Hp :=
    (pF h (some this) [11] 23 (vR x1)).bind fun h2 =>
    (okZ x2).bind fun z7 =>
    (pF h2 (some this) [11] 22 (vI x2)).bind fun h7 =>
    (pF h7 (some this) [11] 21 (vI (0 : Int32))).bind fun h12 =>
    (gI h12 (some this) [11] 0).bind fun v18 =>
    (rcv h12 (some this) 11).bind fun a21 =>
    (f_X11_carry h12 a21 v18).bind fun q21 =>
    (pF q21.2 (some this) [11] 0 (vI q21.1)).bind fun h24 =>
    (gI h24 (some this) [11] 1).bind fun v30 =>
    (rcv h24 (some this) 11).bind fun a33 =>
    (f_X11_carry h24 a33 v30).bind fun q33 =>
    (pF q33.2 (some this) [11] 1 (vI q33.1)).bind fun h36 =>
    (gI h36 (some this) [11] 2).bind fun v42 =>
    (rcv h36 (some this) 11).bind fun a45 =>
    (f_X11_carry h36 a45 v42).bind fun q45 =>
    (pF q45.2 (some this) [11] 2 (vI q45.1)).bind fun h48 =>
    f_X11_carryAll_53 this 10000 h48 (0 : Int32)
set_option maxRecDepth 100000 in
set_option maxHeartbeats 4000000 in
theorem k_X11_carryAll (G : Gx) (l : Launch) {h : Hp} {this : Nat} {x1 : Option Nat} {x2 : Int32} {r : Hp} (hf : f_X11_carryAll h this x1 x2 = some r) : KM l yX11_carryAll (.code yX11_carryAll cX11_carryAll 4 none :: wsK) 1 21 G [vR (some this), vR x1, vI x2] h none r := by
  refine r_entry (ctor := false) (own := RX11) (by decide +kernel) rfl (fun q => by cases q) (Nat.le_of_ble_eq_true rfl) ?_
  show RJ G l M_X11_carryAll none r 0 [(0, vR (some this)), (1, vR x1), (2, vI x2)] [] h
  unfold f_X11_carryAll at hf
  refine r_aload_n 0 dX11_carryAll_0 rfl ?_
  refine r_aload_n 1 dX11_carryAll_1 rfl ?_
  obtain ⟨h2, e2, hf⟩ := ob hf
  refine r_put dX11_carryAll_2 fl_11_23 kw_4_78 (Or.inl rfl) (by decide +kernel) (fit_arr .int _) e2 ?_
  refine r_aload_n 0 dX11_carryAll_5 rfl ?_
  refine r_iload_n 2 dX11_carryAll_6 rfl ?_
  obtain ⟨z7, ez7, hf⟩ := ob hf
  obtain ⟨-, ew7⟩ := okZ_sp ez7
  obtain ⟨h7, e7, hf⟩ := ob hf
  refine r_put dX11_carryAll_7 fl_11_22 kw_4_77 (Or.inl rfl) (by decide +kernel) (fit_bool ew7) e7 ?_
  refine r_aload_n 0 dX11_carryAll_10 rfl ?_
  refine r_iconst (x := (0 : Int32)) dX11_carryAll_11 (by decide) ?_
  obtain ⟨h12, e12, hf⟩ := ob hf
  refine r_put dX11_carryAll_12 fl_11_21 kw_4_76 (Or.inl rfl) (by decide +kernel) (fit_int _) e12 ?_
  refine r_aload_n 0 dX11_carryAll_15 rfl ?_
  refine r_aload_n 0 dX11_carryAll_16 rfl ?_
  refine r_aload_n 0 dX11_carryAll_17 rfl ?_
  obtain ⟨v18, e18, hf⟩ := ob hf
  refine r_get dX11_carryAll_18 fl_11_0 kw_4_55 (Or.inl rfl) (gI_sp e18) ?_
  refine r_pc (pc' := 21) rfl ?_
  obtain ⟨a21, ea21, hf⟩ := ob hf
  obtain ⟨q21, e21, hf⟩ := ob hf
  refine r_callV (y := yX11_carry) (ci := 11) (avs := [vI v18]) dX11_carryAll_21 rfl kw_4_200 kw_4_202 kw_0_20 kw_1_5 kw_4_203 oky_X11_carry ⟨Nat.le_of_ble_eq_true rfl, Nat.le_of_ble_eq_true rfl⟩ rfl (Nat.le_of_ble_eq_true rfl) ea21 (k_X11_carry G l e21) ?_
  obtain ⟨h24, e24, hf⟩ := ob hf
  refine r_put dX11_carryAll_24 fl_11_0 kw_4_55 (Or.inl rfl) (by decide +kernel) (fit_int _) e24 ?_
  refine r_aload_n 0 dX11_carryAll_27 rfl ?_
  refine r_aload_n 0 dX11_carryAll_28 rfl ?_
  refine r_aload_n 0 dX11_carryAll_29 rfl ?_
  obtain ⟨v30, e30, hf⟩ := ob hf
  refine r_get dX11_carryAll_30 fl_11_1 kw_4_56 (Or.inl rfl) (gI_sp e30) ?_
  obtain ⟨a33, ea33, hf⟩ := ob hf
  obtain ⟨q33, e33, hf⟩ := ob hf
  refine r_callV (y := yX11_carry) (ci := 11) (avs := [vI v30]) dX11_carryAll_33 rfl kw_4_200 kw_4_202 kw_0_20 kw_1_5 kw_4_203 oky_X11_carry ⟨Nat.le_of_ble_eq_true rfl, Nat.le_of_ble_eq_true rfl⟩ rfl (Nat.le_of_ble_eq_true rfl) ea33 (k_X11_carry G l e33) ?_
  obtain ⟨h36, e36, hf⟩ := ob hf
  refine r_put dX11_carryAll_36 fl_11_1 kw_4_56 (Or.inl rfl) (by decide +kernel) (fit_int _) e36 ?_
  refine r_aload_n 0 dX11_carryAll_39 rfl ?_
  refine r_aload_n 0 dX11_carryAll_40 rfl ?_
  refine r_aload_n 0 dX11_carryAll_41 rfl ?_
  obtain ⟨v42, e42, hf⟩ := ob hf
  refine r_get dX11_carryAll_42 fl_11_2 kw_4_57 (Or.inl rfl) (gI_sp e42) ?_
  obtain ⟨a45, ea45, hf⟩ := ob hf
  obtain ⟨q45, e45, hf⟩ := ob hf
  refine r_callV (y := yX11_carry) (ci := 11) (avs := [vI v42]) dX11_carryAll_45 rfl kw_4_200 kw_4_202 kw_0_20 kw_1_5 kw_4_203 oky_X11_carry ⟨Nat.le_of_ble_eq_true rfl, Nat.le_of_ble_eq_true rfl⟩ rfl (Nat.le_of_ble_eq_true rfl) ea45 (k_X11_carry G l e45) ?_
  obtain ⟨h48, e48, hf⟩ := ob hf
  refine r_put dX11_carryAll_48 fl_11_2 kw_4_57 (Or.inl rfl) (by decide +kernel) (fit_int _) e48 ?_
  refine r_pc (pc' := 51) rfl ?_
  refine r_iconst (x := (0 : Int32)) dX11_carryAll_51 (by decide) ?_
  refine r_istore_n (lv' := [(3, vI (0 : Int32)), (0, vR (some this)), (1, vR x1), (2, vI x2)]) dX11_carryAll_52 (Nat.le_of_ble_eq_true rfl) rfl ?_
  exact r_sub [1, 0] rfl (t_X11_carryAll_53 G l _ _ _ _ _ hf)
/-! ===== NumberedByAgeModel.comes(I)Z ===== -/
abbrev M_X11_comes : Mx := (cX11_comes, 5, RX11, (false, []), (some .boolean), 4, 92)
def f_X11_comes_188 (this : Nat) (h : Hp) (x3 : Int32) (x4 : Int32) (s0 : Int32) (s1 : Option Nat) : Option (Int32 × Hp) :=
    (pF h s1 [11] 0 (vI s0)).bind fun h188 =>
    if x4 = 0 then
      (gI h188 (some this) [11] 1).bind fun v202 =>
      (pF h188 (some this) [11] 1 (vI v202)).bind fun h205 =>
      (okZ x4).bind fun z210 => some (z210, h205)
    else
      (pF h188 (some this) [11] 1 (vI x3)).bind fun h205 =>
      (okZ x4).bind fun z210 => some (z210, h205)
set_option maxRecDepth 100000 in
set_option maxHeartbeats 4000000 in
theorem t_X11_comes_188 (G : Gx) (l : Launch) (this : Nat)  (h : Hp) (x3 : Int32) (x4 : Int32) (s0 : Int32) (s1 : Option Nat) (r : (Int32 × Hp)) (hf : f_X11_comes_188 this h x3 x4 s0 s1 = some r) : RJ G l M_X11_comes (some (vI r.1)) r.2 188 [(0, vR (some this)), (3, vI x3), (4, vI x4)] [vI s0, vR s1] h := by
  unfold f_X11_comes_188 at hf
  obtain ⟨h188, e188, hf⟩ := ob hf
  refine r_put dX11_comes_188 fl_11_0 kw_4_55 (Or.inl rfl) (by decide +kernel) (fit_int _) e188 ?_
  refine r_aload_n 0 dX11_comes_191 rfl ?_
  refine r_iload 2 dX11_comes_192 rfl ?_
  refine r_if_eq (tgt := 201) dX11_comes_194 (by decide) (fun c194 => ?_) (fun c194 => ?_)
  · replace hf := (if_pos c194).symm.trans hf
    refine r_aload_n 0 dX11_comes_201 rfl ?_
    obtain ⟨v202, e202, hf⟩ := ob hf
    refine r_get dX11_comes_202 fl_11_1 kw_4_56 (Or.inl rfl) (gI_sp e202) ?_
    obtain ⟨h205, e205, hf⟩ := ob hf
    refine r_put dX11_comes_205 fl_11_1 kw_4_56 (Or.inl rfl) (by decide +kernel) (fit_int _) e205 ?_
    refine r_iload 2 dX11_comes_208 rfl ?_
    obtain ⟨z210, ez210, hf⟩ := ob hf
    have hf := Option.some.inj hf
    subst hf
    exact r_zret rfl dX11_comes_210 ez210
  · replace hf := (if_neg c194).symm.trans hf
    refine r_iload_n 1 dX11_comes_197 rfl ?_
    refine r_goto (tgt := 205) dX11_comes_198 (by decide) ?_
    obtain ⟨h205, e205, hf⟩ := ob hf
    refine r_put dX11_comes_205 fl_11_1 kw_4_56 (Or.inl rfl) (by decide +kernel) (fit_int _) e205 ?_
    refine r_iload 2 dX11_comes_208 rfl ?_
    obtain ⟨z210, ez210, hf⟩ := ob hf
    have hf := Option.some.inj hf
    subst hf
    exact r_zret rfl dX11_comes_210 ez210
def f_X11_comes_172 (this : Nat) (h : Hp) (x2 : Int32) (x3 : Int32) (s0 : Int32) : Option (Int32 × Hp) :=
    if s0 = 0 then
      (gI h (some this) [11] 0).bind fun v185 =>
      f_X11_comes_188 this h x3 s0 v185 (some this)
    else
      f_X11_comes_188 this h x3 s0 x2 (some this)
set_option maxRecDepth 100000 in
set_option maxHeartbeats 4000000 in
theorem t_X11_comes_172 (G : Gx) (l : Launch) (this : Nat)  (h : Hp) (x2 : Int32) (x3 : Int32) (s0 : Int32) (r : (Int32 × Hp)) (hf : f_X11_comes_172 this h x2 x3 s0 = some r) : RJ G l M_X11_comes (some (vI r.1)) r.2 172 [(0, vR (some this)), (2, vI x2), (3, vI x3)] [vI s0] h := by
  unfold f_X11_comes_172 at hf
  refine r_istore (lv' := [(4, vI s0), (0, vR (some this)), (2, vI x2), (3, vI x3)]) dX11_comes_172 (Nat.le_of_ble_eq_true rfl) rfl ?_
  refine r_aload_n 1 dX11_comes_174 rfl ?_
  refine r_iload 0 dX11_comes_175 rfl ?_
  refine r_if_eq (tgt := 184) dX11_comes_177 (by decide) (fun c177 => ?_) (fun c177 => ?_)
  · replace hf := (if_pos c177).symm.trans hf
    refine r_aload_n 1 dX11_comes_184 rfl ?_
    obtain ⟨v185, e185, hf⟩ := ob hf
    refine r_get dX11_comes_185 fl_11_0 kw_4_55 (Or.inl rfl) (gI_sp e185) ?_
    exact r_sub [1, 3, 0] rfl (t_X11_comes_188 G l _ _ _ _ _ _ _ hf)
  · replace hf := (if_neg c177).symm.trans hf
    refine r_iload_n 2 dX11_comes_180 rfl ?_
    refine r_goto (tgt := 188) dX11_comes_181 (by decide) ?_
    exact r_sub [1, 3, 0] rfl (t_X11_comes_188 G l _ _ _ _ _ _ _ hf)
def f_X11_comes_91 (this : Nat) (h : Hp) (x2 : Int32) (x3 : Int32) (s0 : Int32) : Option (Int32 × Hp) :=
    if s0 = 0 then
      (okZ s0).bind fun z106 => some (z106, h)
    else
      (rcv h (some this) 11).bind fun a101 =>
      (f_X11_builds h a101 x2 x3).bind fun h101 =>
      (okZ s0).bind fun z106 => some (z106, h101)
set_option maxRecDepth 100000 in
set_option maxHeartbeats 4000000 in
theorem t_X11_comes_91 (G : Gx) (l : Launch) (this : Nat)  (h : Hp) (x2 : Int32) (x3 : Int32) (s0 : Int32) (r : (Int32 × Hp)) (hf : f_X11_comes_91 this h x2 x3 s0 = some r) : RJ G l M_X11_comes (some (vI r.1)) r.2 91 [(0, vR (some this)), (2, vI x2), (3, vI x3)] [vI s0] h := by
  unfold f_X11_comes_91 at hf
  refine r_istore (lv' := [(4, vI s0), (0, vR (some this)), (2, vI x2), (3, vI x3)]) dX11_comes_91 (Nat.le_of_ble_eq_true rfl) rfl ?_
  refine r_iload 0 dX11_comes_93 rfl ?_
  refine r_if_eq (tgt := 104) dX11_comes_95 (by decide) (fun c95 => ?_) (fun c95 => ?_)
  · replace hf := (if_pos c95).symm.trans hf
    refine r_iload 0 dX11_comes_104 rfl ?_
    obtain ⟨z106, ez106, hf⟩ := ob hf
    have hf := Option.some.inj hf
    subst hf
    exact r_zret rfl dX11_comes_106 ez106
  · replace hf := (if_neg c95).symm.trans hf
    refine r_aload_n 1 dX11_comes_98 rfl ?_
    refine r_iload_n 2 dX11_comes_99 rfl ?_
    refine r_iload_n 3 dX11_comes_100 rfl ?_
    obtain ⟨a101, ea101, hf⟩ := ob hf
    obtain ⟨h101, e101, hf⟩ := ob hf
    refine r_callV (y := yX11_builds) (ci := 11) (avs := [vI x2, vI x3]) dX11_comes_101 rfl kw_4_208 kw_4_210 kw_0_22 kw_1_5 kw_4_211 oky_X11_builds ⟨Nat.le_of_ble_eq_true rfl, Nat.le_of_ble_eq_true rfl⟩ rfl (Nat.le_of_ble_eq_true rfl) ea101 (k_X11_builds G l e101) ?_
    refine r_iload 0 dX11_comes_104 rfl ?_
    obtain ⟨z106, ez106, hf⟩ := ob hf
    have hf := Option.some.inj hf
    subst hf
    exact r_zret rfl dX11_comes_106 ez106
def f_X11_comes_90 (this : Nat) (h : Hp) (x2 : Int32) (x3 : Int32) : Option (Int32 × Hp) :=
    f_X11_comes_91 this h x2 x3 (0 : Int32)
set_option maxRecDepth 100000 in
set_option maxHeartbeats 4000000 in
theorem t_X11_comes_90 (G : Gx) (l : Launch) (this : Nat)  (h : Hp) (x2 : Int32) (x3 : Int32) (r : (Int32 × Hp)) (hf : f_X11_comes_90 this h x2 x3 = some r) : RJ G l M_X11_comes (some (vI r.1)) r.2 90 [(0, vR (some this)), (2, vI x2), (3, vI x3)] [] h := by
  unfold f_X11_comes_90 at hf
  refine r_iconst (x := (0 : Int32)) dX11_comes_90 (by decide) ?_
  exact r_sub [0, 1, 2] rfl (t_X11_comes_91 G l _ _ _ _ _ _ hf)
def f_X11_comes_82 (this : Nat) (h : Hp) (x2 : Int32) (x3 : Int32) (s0 : Int32) (s1 : Option Nat) : Option (Int32 × Hp) :=
    (aI h s1 s0).bind fun v82 =>
    if v82 = 0 then
      f_X11_comes_91 this h x2 x3 (1 : Int32)
    else
      f_X11_comes_90 this h x2 x3
set_option maxRecDepth 100000 in
set_option maxHeartbeats 4000000 in
theorem t_X11_comes_82 (G : Gx) (l : Launch) (this : Nat)  (h : Hp) (x2 : Int32) (x3 : Int32) (s0 : Int32) (s1 : Option Nat) (r : (Int32 × Hp)) (hf : f_X11_comes_82 this h x2 x3 s0 s1 = some r) : RJ G l M_X11_comes (some (vI r.1)) r.2 82 [(0, vR (some this)), (2, vI x2), (3, vI x3)] [vI s0, vR s1] h := by
  unfold f_X11_comes_82 at hf
  obtain ⟨v82, e82, hf⟩ := ob hf
  refine r_iaload dX11_comes_82 e82 ?_
  refine r_if_ne (tgt := 90) dX11_comes_83 (by decide) (fun c83 => ?_) (fun c83 => ?_)
  · replace hf := (if_pos c83).symm.trans hf
    refine r_iconst (x := (1 : Int32)) dX11_comes_86 (by decide) ?_
    refine r_goto (tgt := 91) dX11_comes_87 (by decide) ?_
    exact r_sub [0, 1, 2] rfl (t_X11_comes_91 G l _ _ _ _ _ _ hf)
  · replace hf := (if_neg c83).symm.trans hf
    exact r_sub [0, 1, 2] rfl (t_X11_comes_90 G l _ _ _ _ _ hf)
def f_X11_comes_146 (this : Nat) (h : Hp) (x2 : Int32) (s0 : Int32) : Option (Int32 × Hp) :=
    if s0 = 0 then
      (okZ s0).bind fun z160 => some (z160, h)
    else
      (rcv h (some this) 11).bind fun a155 =>
      (f_X11_burns h a155 x2).bind fun h155 =>
      (okZ s0).bind fun z160 => some (z160, h155)
set_option maxRecDepth 100000 in
set_option maxHeartbeats 4000000 in
theorem t_X11_comes_146 (G : Gx) (l : Launch) (this : Nat)  (h : Hp) (x2 : Int32) (s0 : Int32) (r : (Int32 × Hp)) (hf : f_X11_comes_146 this h x2 s0 = some r) : RJ G l M_X11_comes (some (vI r.1)) r.2 146 [(0, vR (some this)), (2, vI x2)] [vI s0] h := by
  unfold f_X11_comes_146 at hf
  refine r_istore (lv' := [(4, vI s0), (0, vR (some this)), (2, vI x2)]) dX11_comes_146 (Nat.le_of_ble_eq_true rfl) rfl ?_
  refine r_iload 0 dX11_comes_148 rfl ?_
  refine r_if_eq (tgt := 158) dX11_comes_150 (by decide) (fun c150 => ?_) (fun c150 => ?_)
  · replace hf := (if_pos c150).symm.trans hf
    refine r_iload 0 dX11_comes_158 rfl ?_
    obtain ⟨z160, ez160, hf⟩ := ob hf
    have hf := Option.some.inj hf
    subst hf
    exact r_zret rfl dX11_comes_160 ez160
  · replace hf := (if_neg c150).symm.trans hf
    refine r_aload_n 1 dX11_comes_153 rfl ?_
    refine r_iload_n 2 dX11_comes_154 rfl ?_
    obtain ⟨a155, ea155, hf⟩ := ob hf
    obtain ⟨h155, e155, hf⟩ := ob hf
    refine r_callV (y := yX11_burns) (ci := 11) (avs := [vI x2]) dX11_comes_155 rfl kw_4_239 kw_5_1 kw_0_29 kw_1_5 kw_5_2 oky_X11_burns ⟨Nat.le_of_ble_eq_true rfl, Nat.le_of_ble_eq_true rfl⟩ rfl (Nat.le_of_ble_eq_true rfl) ea155 (k_X11_burns G l e155) ?_
    refine r_iload 0 dX11_comes_158 rfl ?_
    obtain ⟨z160, ez160, hf⟩ := ob hf
    have hf := Option.some.inj hf
    subst hf
    exact r_zret rfl dX11_comes_160 ez160
def f_X11_comes_145 (this : Nat) (h : Hp) (x2 : Int32) : Option (Int32 × Hp) :=
    f_X11_comes_146 this h x2 (0 : Int32)
set_option maxRecDepth 100000 in
set_option maxHeartbeats 4000000 in
theorem t_X11_comes_145 (G : Gx) (l : Launch) (this : Nat)  (h : Hp) (x2 : Int32) (r : (Int32 × Hp)) (hf : f_X11_comes_145 this h x2 = some r) : RJ G l M_X11_comes (some (vI r.1)) r.2 145 [(0, vR (some this)), (2, vI x2)] [] h := by
  unfold f_X11_comes_145 at hf
  refine r_iconst (x := (0 : Int32)) dX11_comes_145 (by decide) ?_
  exact r_sub [0, 1] rfl (t_X11_comes_146 G l _ _ _ _ _ hf)
def f_X11_comes_137 (this : Nat) (h : Hp) (x2 : Int32) (s0 : Int32) (s1 : Option Nat) : Option (Int32 × Hp) :=
    (aI h s1 s0).bind fun v137 =>
    if v137 ≤ 0 then
      f_X11_comes_145 this h x2
    else
      f_X11_comes_146 this h x2 (1 : Int32)
set_option maxRecDepth 100000 in
set_option maxHeartbeats 4000000 in
theorem t_X11_comes_137 (G : Gx) (l : Launch) (this : Nat)  (h : Hp) (x2 : Int32) (s0 : Int32) (s1 : Option Nat) (r : (Int32 × Hp)) (hf : f_X11_comes_137 this h x2 s0 s1 = some r) : RJ G l M_X11_comes (some (vI r.1)) r.2 137 [(0, vR (some this)), (2, vI x2)] [vI s0, vR s1] h := by
  unfold f_X11_comes_137 at hf
  obtain ⟨v137, e137, hf⟩ := ob hf
  refine r_iaload dX11_comes_137 e137 ?_
  refine r_if_le (tgt := 145) dX11_comes_138 (by decide) (fun c138 => ?_) (fun c138 => ?_)
  · replace hf := (if_pos c138).symm.trans hf
    exact r_sub [0, 1] rfl (t_X11_comes_145 G l _ _ _ _ hf)
  · replace hf := (if_neg c138).symm.trans hf
    refine r_iconst (x := (1 : Int32)) dX11_comes_141 (by decide) ?_
    refine r_goto (tgt := 146) dX11_comes_142 (by decide) ?_
    exact r_sub [0, 1] rfl (t_X11_comes_146 G l _ _ _ _ _ hf)
def f_X11_comes (h : Hp) (this : Nat) (x1 : Int32) : Option (Int32 × Hp) :=
    (gR h (some this) [11] 16).bind fun v1 =>
    (aI h v1 x1).bind fun v5 =>
    (gR h (some this) [11] 17).bind fun v8 =>
    (aI h v8 x1).bind fun v12 =>
    (gR h (some this) [11] 15).bind fun v15 =>
    (aI h v15 x1).bind fun v19 =>
    if v19 = (98 : Int32) then
      if (12 : Int32) ≤ v5 then
        f_X11_comes_90 this h v5 v12
      else
        if v12 ≤ 0 then
          f_X11_comes_90 this h v5 v12
        else
          (gI h (some this) [11] 2).bind fun v59 =>
          if (30 : Int32) ≤ v59 then
            f_X11_comes_90 this h v5 v12
          else
            (gR h (some this) [11] 5).bind fun v68 =>
            if (12 : Int32) ≤ v5 then
              f_X11_comes_82 this h v5 v12 (0 : Int32) v68
            else
              f_X11_comes_82 this h v5 v12 v5 v68
    else
    if v19 = (102 : Int32) then
      if (12 : Int32) ≤ v5 then
        f_X11_comes_145 this h v5
      else
        (gI h (some this) [11] 2).bind fun v114 =>
        if (30 : Int32) ≤ v114 then
          f_X11_comes_145 this h v5
        else
          (gR h (some this) [11] 5).bind fun v123 =>
          if (12 : Int32) ≤ v5 then
            f_X11_comes_137 this h v5 (0 : Int32) v123
          else
            f_X11_comes_137 this h v5 v5 v123
    else
      if (8 : Int32) ≤ v5 then
        f_X11_comes_172 this h v5 v12 (0 : Int32)
      else
        f_X11_comes_172 this h v5 v12 (1 : Int32)
set_option maxRecDepth 100000 in
set_option maxHeartbeats 4000000 in
theorem k_X11_comes (G : Gx) (l : Launch) {h : Hp} {this : Nat} {x1 : Int32} {r : (Int32 × Hp)} (hf : f_X11_comes h this x1 = some r) : KM l yX11_comes (.code yX11_comes cX11_comes 5 (some .boolean) :: wsK) 4 92 G [vR (some this), vI x1] h (some (vI r.1)) r.2 := by
  refine r_entry (ctor := false) (own := RX11) (by decide +kernel) rfl (fun q => by cases q) (Nat.le_of_ble_eq_true rfl) ?_
  show RJ G l M_X11_comes (some (vI r.1)) r.2 0 [(0, vR (some this)), (1, vI x1)] [] h
  unfold f_X11_comes at hf
  refine r_aload_n 0 dX11_comes_0 rfl ?_
  obtain ⟨v1, e1, hf⟩ := ob hf
  refine r_get dX11_comes_1 fl_11_16 kw_4_71 (Or.inl rfl) (gR_sp e1) ?_
  refine r_iload_n 1 dX11_comes_4 rfl ?_
  obtain ⟨v5, e5, hf⟩ := ob hf
  refine r_iaload dX11_comes_5 e5 ?_
  refine r_istore_n (lv' := [(2, vI v5), (0, vR (some this)), (1, vI x1)]) dX11_comes_6 (Nat.le_of_ble_eq_true rfl) rfl ?_
  refine r_aload_n 1 dX11_comes_7 rfl ?_
  obtain ⟨v8, e8, hf⟩ := ob hf
  refine r_get dX11_comes_8 fl_11_17 kw_4_72 (Or.inl rfl) (gR_sp e8) ?_
  refine r_iload_n 2 dX11_comes_11 rfl ?_
  obtain ⟨v12, e12, hf⟩ := ob hf
  refine r_iaload dX11_comes_12 e12 ?_
  refine r_istore_n (lv' := [(3, vI v12), (2, vI v5), (0, vR (some this)), (1, vI x1)]) dX11_comes_13 (Nat.le_of_ble_eq_true rfl) rfl ?_
  refine r_aload_n 2 dX11_comes_14 rfl ?_
  obtain ⟨v15, e15, hf⟩ := ob hf
  refine r_get dX11_comes_15 fl_11_15 kw_4_70 (Or.inl rfl) (gR_sp e15) ?_
  refine r_iload_n 3 dX11_comes_18 rfl ?_
  refine r_pc (pc' := 19) rfl ?_
  obtain ⟨v19, e19, hf⟩ := ob hf
  refine r_iaload dX11_comes_19 e19 ?_
  by_cases c20_0 : v19 = (98 : Int32)
  · replace hf := (if_pos c20_0).symm.trans hf
    refine r_lookup (off := 28) (tgt := 48) dX11_comes_20 (by decide) (by rw [c20_0]; decide +kernel) (by decide) ?_
    refine r_iload_n 1 dX11_comes_48 rfl ?_
    refine r_bipush (x := (12 : Int32)) dX11_comes_49 (by decide) ?_
    refine r_icmp_ge (tgt := 90) dX11_comes_51 (by decide) (fun c51 => ?_) (fun c51 => ?_)
    · replace hf := (if_pos c51).symm.trans hf
      exact r_sub [2, 1, 0] rfl (t_X11_comes_90 G l _ _ _ _ _ hf)
    · replace hf := (if_neg c51).symm.trans hf
      refine r_iload_n 0 dX11_comes_54 rfl ?_
      refine r_if_le (tgt := 90) dX11_comes_55 (by decide) (fun c55 => ?_) (fun c55 => ?_)
      · replace hf := (if_pos c55).symm.trans hf
        exact r_sub [2, 1, 0] rfl (t_X11_comes_90 G l _ _ _ _ _ hf)
      · replace hf := (if_neg c55).symm.trans hf
        refine r_aload_n 2 dX11_comes_58 rfl ?_
        obtain ⟨v59, e59, hf⟩ := ob hf
        refine r_get dX11_comes_59 fl_11_2 kw_4_57 (Or.inl rfl) (gI_sp e59) ?_
        refine r_bipush (x := (30 : Int32)) dX11_comes_62 (by decide) ?_
        refine r_icmp_ge (tgt := 90) dX11_comes_64 (by decide) (fun c64 => ?_) (fun c64 => ?_)
        · replace hf := (if_pos c64).symm.trans hf
          exact r_sub [2, 1, 0] rfl (t_X11_comes_90 G l _ _ _ _ _ hf)
        · replace hf := (if_neg c64).symm.trans hf
          refine r_aload_n 2 dX11_comes_67 rfl ?_
          obtain ⟨v68, e68, hf⟩ := ob hf
          refine r_get dX11_comes_68 fl_11_5 kw_4_60 (Or.inl rfl) (gR_sp e68) ?_
          refine r_iload_n 1 dX11_comes_71 rfl ?_
          refine r_bipush (x := (12 : Int32)) dX11_comes_72 (by decide) ?_
          refine r_icmp_ge (tgt := 81) dX11_comes_74 (by decide) (fun c74 => ?_) (fun c74 => ?_)
          · replace hf := (if_pos c74).symm.trans hf
            refine r_iconst (x := (0 : Int32)) dX11_comes_81 (by decide) ?_
            exact r_sub [2, 1, 0] rfl (t_X11_comes_82 G l _ _ _ _ _ _ _ hf)
          · replace hf := (if_neg c74).symm.trans hf
            refine r_iload_n 1 dX11_comes_77 rfl ?_
            refine r_goto (tgt := 82) dX11_comes_78 (by decide) ?_
            exact r_sub [2, 1, 0] rfl (t_X11_comes_82 G l _ _ _ _ _ _ _ hf)
  · replace hf := (if_neg c20_0).symm.trans hf
    by_cases c20_1 : v19 = (102 : Int32)
    · replace hf := (if_pos c20_1).symm.trans hf
      refine r_lookup (off := 87) (tgt := 107) dX11_comes_20 (by decide) (by rw [c20_1]; decide +kernel) (by decide) ?_
      refine r_iload_n 1 dX11_comes_107 rfl ?_
      refine r_bipush (x := (12 : Int32)) dX11_comes_108 (by decide) ?_
      refine r_icmp_ge (tgt := 145) dX11_comes_110 (by decide) (fun c110 => ?_) (fun c110 => ?_)
      · replace hf := (if_pos c110).symm.trans hf
        exact r_sub [2, 1] rfl (t_X11_comes_145 G l _ _ _ _ hf)
      · replace hf := (if_neg c110).symm.trans hf
        refine r_aload_n 2 dX11_comes_113 rfl ?_
        obtain ⟨v114, e114, hf⟩ := ob hf
        refine r_get dX11_comes_114 fl_11_2 kw_4_57 (Or.inl rfl) (gI_sp e114) ?_
        refine r_bipush (x := (30 : Int32)) dX11_comes_117 (by decide) ?_
        refine r_icmp_ge (tgt := 145) dX11_comes_119 (by decide) (fun c119 => ?_) (fun c119 => ?_)
        · replace hf := (if_pos c119).symm.trans hf
          exact r_sub [2, 1] rfl (t_X11_comes_145 G l _ _ _ _ hf)
        · replace hf := (if_neg c119).symm.trans hf
          refine r_aload_n 2 dX11_comes_122 rfl ?_
          obtain ⟨v123, e123, hf⟩ := ob hf
          refine r_get dX11_comes_123 fl_11_5 kw_4_60 (Or.inl rfl) (gR_sp e123) ?_
          refine r_iload_n 1 dX11_comes_126 rfl ?_
          refine r_bipush (x := (12 : Int32)) dX11_comes_127 (by decide) ?_
          refine r_icmp_ge (tgt := 136) dX11_comes_129 (by decide) (fun c129 => ?_) (fun c129 => ?_)
          · replace hf := (if_pos c129).symm.trans hf
            refine r_iconst (x := (0 : Int32)) dX11_comes_136 (by decide) ?_
            exact r_sub [2, 1] rfl (t_X11_comes_137 G l _ _ _ _ _ _ hf)
          · replace hf := (if_neg c129).symm.trans hf
            refine r_iload_n 1 dX11_comes_132 rfl ?_
            refine r_goto (tgt := 137) dX11_comes_133 (by decide) ?_
            exact r_sub [2, 1] rfl (t_X11_comes_137 G l _ _ _ _ _ _ hf)
    · replace hf := (if_neg c20_1).symm.trans hf
      refine r_lookup (off := 141) (tgt := 161) dX11_comes_20 (by decide) (by show Op.lookupswitch.offset [(98, 28), (102, 87)] 141 _ = _; rw [lv_osw (k := (98 : Int32)) c20_0 (by decide), lv_osw (k := (102 : Int32)) c20_1 (by decide)]; rfl) (by decide) ?_
      refine r_iload_n 1 dX11_comes_161 rfl ?_
      refine r_bipush (x := (8 : Int32)) dX11_comes_162 (by decide) ?_
      refine r_icmp_ge (tgt := 171) dX11_comes_164 (by decide) (fun c164 => ?_) (fun c164 => ?_)
      · replace hf := (if_pos c164).symm.trans hf
        refine r_iconst (x := (0 : Int32)) dX11_comes_171 (by decide) ?_
        exact r_sub [2, 1, 0] rfl (t_X11_comes_172 G l _ _ _ _ _ _ hf)
      · replace hf := (if_neg c164).symm.trans hf
        refine r_iconst (x := (1 : Int32)) dX11_comes_167 (by decide) ?_
        refine r_goto (tgt := 172) dX11_comes_168 (by decide) ?_
        exact r_sub [2, 1, 0] rfl (t_X11_comes_172 G l _ _ _ _ _ _ hf)
/-! ===== NumberedByAgeModel.copy(IIIII)I ===== -/
abbrev M_X11_copy : Mx := (cX11_copy, 7, RX11, (false, []), (some .int), 1, 25)
def f_X11_copy_174 (this : Nat) : Nat → Hp → Int32 → Int32 → Int32 → Int32 → Option (Int32 × Hp)
  | 0, _, _, _, _, _ => none
  | n + 1, h, x3, x4, x5, x6 =>
    if x5 ≤ x6 then
      some (x5, h)
    else
      (gR h (some this) [11] 33).bind fun v182 =>
      (gR h (some this) [11] 34).bind fun v196 =>
      (aL h v196 x6).bind fun v201 =>
      (wL h v182 ((((100 : Int32) * x3) + x4) + x6) v201).bind fun h202 =>
      (f_X11_copy_174 this n) h202 x3 x4 x5 (x6 + 1)
set_option maxRecDepth 100000 in
set_option maxHeartbeats 4000000 in
theorem t_X11_copy_174 (G : Gx) (l : Launch) (this : Nat)  : ∀ (n : Nat) (h : Hp) (x3 : Int32) (x4 : Int32) (x5 : Int32) (x6 : Int32) (r : (Int32 × Hp)), f_X11_copy_174 this n h x3 x4 x5 x6 = some r → RJ G l M_X11_copy (some (vI r.1)) r.2 174 [(0, vR (some this)), (3, vI x3), (4, vI x4), (5, vI x5), (6, vI x6)] [] h := by
  intro n
  induction n with
  | zero =>
    intro h x3 x4 x5 x6 r hf
    rw [f_X11_copy_174] at hf
    cases hf
  | succ n ih =>
    intro h x3 x4 x5 x6 r hf
    rw [f_X11_copy_174] at hf
    refine r_iload 4 dX11_copy_174 rfl ?_
    refine r_iload 3 dX11_copy_176 rfl ?_
    refine r_icmp_ge (tgt := 209) dX11_copy_178 (by decide) (fun c178 => ?_) (fun c178 => ?_)
    · replace hf := (if_pos c178).symm.trans hf
      refine r_iload 3 dX11_copy_209 rfl ?_
      have hf := Option.some.inj hf
      subst hf
      exact r_iret rfl dX11_copy_211
    · replace hf := (if_neg c178).symm.trans hf
      refine r_aload_n 0 dX11_copy_181 rfl ?_
      obtain ⟨v182, e182, hf⟩ := ob hf
      refine r_get dX11_copy_182 fl_11_33 kw_4_88 (Or.inl rfl) (gR_sp e182) ?_
      refine r_bipush (x := (100 : Int32)) dX11_copy_185 (by decide) ?_
      refine r_iload_n 1 dX11_copy_187 rfl ?_
      refine r_imul dX11_copy_188 ?_
      refine r_iload 2 dX11_copy_189 rfl ?_
      refine r_iadd dX11_copy_191 ?_
      refine r_iload 4 dX11_copy_192 rfl ?_
      refine r_iadd dX11_copy_194 ?_
      refine r_aload_n 0 dX11_copy_195 rfl ?_
      obtain ⟨v196, e196, hf⟩ := ob hf
      refine r_get dX11_copy_196 fl_11_34 kw_4_89 (Or.inl rfl) (gR_sp e196) ?_
      refine r_iload 4 dX11_copy_199 rfl ?_
      obtain ⟨v201, e201, hf⟩ := ob hf
      refine r_laload dX11_copy_201 e201 ?_
      refine r_pc (pc' := 202) rfl ?_
      obtain ⟨h202, e202, hf⟩ := ob hf
      refine r_lastore dX11_copy_202 e202 ?_
      refine r_iinc (y := (x6 + 1)) (lv' := [(6, vI (x6 + 1)), (0, vR (some this)), (3, vI x3), (4, vI x4), (5, vI x5)]) 4 dX11_copy_203 rfl rfl (Nat.le_of_ble_eq_true rfl) rfl ?_
      refine r_goto (tgt := 174) dX11_copy_206 (by decide) ?_
      exact r_sub [1, 2, 3, 4, 0] rfl (ih _ _ _ _ _ _ hf)
def f_X11_copy_137 (this : Nat) : Nat → Hp → Int32 → Int32 → Int32 → Int32 → Int32 → Int32 → Option (Int32 × Hp)
  | 0, _, _, _, _, _, _, _ => none
  | n + 1, h, x1, x2, x3, x4, x5, x6 =>
    if x5 ≤ x6 then
      f_X11_copy_174 this 10000 h x3 x4 x5 (0 : Int32)
    else
      (gR h (some this) [11] 34).bind fun v145 =>
      (gR h (some this) [11] 33).bind fun v151 =>
      (aL h v151 ((((100 : Int32) * x1) + x2) + x6)).bind fun v163 =>
      (wL h v145 x6 v163).bind fun h164 =>
      (f_X11_copy_137 this n) h164 x1 x2 x3 x4 x5 (x6 + 1)
set_option maxRecDepth 100000 in
set_option maxHeartbeats 4000000 in
theorem t_X11_copy_137 (G : Gx) (l : Launch) (this : Nat)  : ∀ (n : Nat) (h : Hp) (x1 : Int32) (x2 : Int32) (x3 : Int32) (x4 : Int32) (x5 : Int32) (x6 : Int32) (r : (Int32 × Hp)), f_X11_copy_137 this n h x1 x2 x3 x4 x5 x6 = some r → RJ G l M_X11_copy (some (vI r.1)) r.2 137 [(0, vR (some this)), (1, vI x1), (2, vI x2), (3, vI x3), (4, vI x4), (5, vI x5), (6, vI x6)] [] h := by
  intro n
  induction n with
  | zero =>
    intro h x1 x2 x3 x4 x5 x6 r hf
    rw [f_X11_copy_137] at hf
    cases hf
  | succ n ih =>
    intro h x1 x2 x3 x4 x5 x6 r hf
    rw [f_X11_copy_137] at hf
    refine r_iload 6 dX11_copy_137 rfl ?_
    refine r_iload 5 dX11_copy_139 rfl ?_
    refine r_icmp_ge (tgt := 171) dX11_copy_141 (by decide) (fun c141 => ?_) (fun c141 => ?_)
    · replace hf := (if_pos c141).symm.trans hf
      refine r_iconst (x := (0 : Int32)) dX11_copy_171 (by decide) ?_
      refine r_istore (lv' := [(6, vI (0 : Int32)), (0, vR (some this)), (1, vI x1), (2, vI x2), (3, vI x3), (4, vI x4), (5, vI x5)]) dX11_copy_172 (Nat.le_of_ble_eq_true rfl) rfl ?_
      exact r_sub [1, 4, 5, 6, 0] rfl (t_X11_copy_174 G l _ _ _ _ _ _ _ _ hf)
    · replace hf := (if_neg c141).symm.trans hf
      refine r_aload_n 0 dX11_copy_144 rfl ?_
      obtain ⟨v145, e145, hf⟩ := ob hf
      refine r_get dX11_copy_145 fl_11_34 kw_4_89 (Or.inl rfl) (gR_sp e145) ?_
      refine r_iload 6 dX11_copy_148 rfl ?_
      refine r_aload_n 0 dX11_copy_150 rfl ?_
      obtain ⟨v151, e151, hf⟩ := ob hf
      refine r_get dX11_copy_151 fl_11_33 kw_4_88 (Or.inl rfl) (gR_sp e151) ?_
      refine r_bipush (x := (100 : Int32)) dX11_copy_154 (by decide) ?_
      refine r_iload_n 1 dX11_copy_156 rfl ?_
      refine r_imul dX11_copy_157 ?_
      refine r_iload_n 2 dX11_copy_158 rfl ?_
      refine r_iadd dX11_copy_159 ?_
      refine r_iload 6 dX11_copy_160 rfl ?_
      refine r_iadd dX11_copy_162 ?_
      obtain ⟨v163, e163, hf⟩ := ob hf
      refine r_laload dX11_copy_163 e163 ?_
      refine r_pc (pc' := 164) rfl ?_
      obtain ⟨h164, e164, hf⟩ := ob hf
      refine r_lastore dX11_copy_164 e164 ?_
      refine r_iinc (y := (x6 + 1)) (lv' := [(6, vI (x6 + 1)), (0, vR (some this)), (1, vI x1), (2, vI x2), (3, vI x3), (4, vI x4), (5, vI x5)]) 6 dX11_copy_165 rfl rfl (Nat.le_of_ble_eq_true rfl) rfl ?_
      refine r_goto (tgt := 137) dX11_copy_168 (by decide) ?_
      exact r_sub [1, 2, 3, 4, 5, 6, 0] rfl (ih _ _ _ _ _ _ _ _ hf)
def f_X11_copy (h : Hp) (this : Nat) (x1 : Int32) (x2 : Int32) (x3 : Int32) (x4 : Int32) (x5 : Int32) : Option (Int32 × Hp) :=
    (pF h (some this) [11] 6 (vI (0 : Int32))).bind fun h2 =>
    (f_X11_in h2 x1.toInt64 (0 : Int64) (7 : Int64)).bind fun v11 =>
    if v11 = 0 then
      some ((-1 : Int32), h2)
    else
      (f_X11_in h2 x3.toInt64 (0 : Int64) (7 : Int64)).bind fun v23 =>
      if v23 = 0 then
        some ((-1 : Int32), h2)
      else
        (gR h2 (some this) [11] 28).bind fun v32 =>
        (aI h2 v32 x1).bind fun v36 =>
        if v36 = 0 then
          some ((-11 : Int32), h2)
        else
          (gR h2 (some this) [11] 28).bind fun v41 =>
          (aI h2 v41 x3).bind fun v45 =>
          if v45 = 0 then
            some ((-11 : Int32), h2)
          else
            (gR h2 (some this) [11] 28).bind fun v53 =>
            (aI h2 v53 x1).bind fun v57 =>
            if v57 = (2 : Int32) then
              (gR h2 (some this) [11] 28).bind fun v63 =>
              (aI h2 v63 x3).bind fun v67 =>
              if v67 = (2 : Int32) then
                (gR h2 (some this) [11] 31).bind fun v73 =>
                (aI h2 v73 x1).bind fun v77 =>
                (gR h2 (some this) [11] 31).bind fun v79 =>
                (aI h2 v79 x3).bind fun v83 =>
                if v77 = v83 then
                  if x5 < 0 then
                    some ((-13 : Int32), h2)
                  else
                    if x2 < 0 then
                      some ((-13 : Int32), h2)
                    else
                      if x4 < 0 then
                        some ((-13 : Int32), h2)
                      else
                        (gR h2 (some this) [11] 32).bind fun v106 =>
                        (aI h2 v106 x1).bind fun v110 =>
                        if (v110 - x5) < x2 then
                          some ((-13 : Int32), h2)
                        else
                          (gR h2 (some this) [11] 32).bind fun v120 =>
                          (aI h2 v120 x3).bind fun v124 =>
                          if x4 ≤ (v124 - x5) then
                            f_X11_copy_137 this 10000 h2 x1 x2 x3 x4 x5 (0 : Int32)
                          else
                            some ((-13 : Int32), h2)
                else
                  some ((-12 : Int32), h2)
              else
                some ((-12 : Int32), h2)
            else
              some ((-12 : Int32), h2)
set_option maxRecDepth 100000 in
set_option maxHeartbeats 4000000 in
theorem k_X11_copy (G : Gx) (l : Launch) {h : Hp} {this : Nat} {x1 : Int32} {x2 : Int32} {x3 : Int32} {x4 : Int32} {x5 : Int32} {r : (Int32 × Hp)} (hf : f_X11_copy h this x1 x2 x3 x4 x5 = some r) : KM l yX11_copy (.code yX11_copy cX11_copy 7 (some .int) :: wsK) 1 25 G [vR (some this), vI x1, vI x2, vI x3, vI x4, vI x5] h (some (vI r.1)) r.2 := by
  refine r_entry (ctor := false) (own := RX11) (by decide +kernel) rfl (fun q => by cases q) (Nat.le_of_ble_eq_true rfl) ?_
  show RJ G l M_X11_copy (some (vI r.1)) r.2 0 [(0, vR (some this)), (1, vI x1), (2, vI x2), (3, vI x3), (4, vI x4), (5, vI x5)] [] h
  unfold f_X11_copy at hf
  refine r_aload_n 0 dX11_copy_0 rfl ?_
  refine r_iconst (x := (0 : Int32)) dX11_copy_1 (by decide) ?_
  obtain ⟨h2, e2, hf⟩ := ob hf
  refine r_put dX11_copy_2 fl_11_6 kw_4_61 (Or.inl rfl) (by decide +kernel) (fit_int _) e2 ?_
  refine r_iload_n 1 dX11_copy_5 rfl ?_
  refine r_i2l dX11_copy_6 ?_
  refine r_lconst (x := (0 : Int64)) dX11_copy_7 (by decide) ?_
  refine r_ldc2 (x := (7 : Int64)) dX11_copy_8 kw_4_178 ?_
  obtain ⟨v11, e11, hf⟩ := ob hf
  refine r_callS (y := yX11_in) (avs := [vL x1.toInt64, vL (0 : Int64), vL (7 : Int64)]) dX11_copy_11 kw_4_179 kw_4_180 kw_1_5 kw_4_181 oky_X11_in ⟨Nat.le_of_ble_eq_true rfl, Nat.le_of_ble_eq_true rfl⟩ rfl (Nat.le_of_ble_eq_true rfl) (k_X11_in G l e11) ?_
  refine r_if_eq (tgt := 29) dX11_copy_14 (by decide) (fun c14 => ?_) (fun c14 => ?_)
  · replace hf := (if_pos c14).symm.trans hf
    refine r_iconst (x := (-1 : Int32)) dX11_copy_29 (by decide) ?_
    have hf := Option.some.inj hf
    subst hf
    exact r_iret rfl dX11_copy_30
  · replace hf := (if_neg c14).symm.trans hf
    refine r_iload_n 3 dX11_copy_17 rfl ?_
    refine r_i2l dX11_copy_18 ?_
    refine r_lconst (x := (0 : Int64)) dX11_copy_19 (by decide) ?_
    refine r_ldc2 (x := (7 : Int64)) dX11_copy_20 kw_4_178 ?_
    obtain ⟨v23, e23, hf⟩ := ob hf
    refine r_callS (y := yX11_in) (avs := [vL x3.toInt64, vL (0 : Int64), vL (7 : Int64)]) dX11_copy_23 kw_4_179 kw_4_180 kw_1_5 kw_4_181 oky_X11_in ⟨Nat.le_of_ble_eq_true rfl, Nat.le_of_ble_eq_true rfl⟩ rfl (Nat.le_of_ble_eq_true rfl) (k_X11_in G l e23) ?_
    refine r_if_ne (tgt := 31) dX11_copy_26 (by decide) (fun c26 => ?_) (fun c26 => ?_)
    · replace hf := (if_pos c26).symm.trans hf
      refine r_iconst (x := (-1 : Int32)) dX11_copy_29 (by decide) ?_
      have hf := Option.some.inj hf
      subst hf
      exact r_iret rfl dX11_copy_30
    · replace hf := (if_neg c26).symm.trans hf
      refine r_aload_n 0 dX11_copy_31 rfl ?_
      obtain ⟨v32, e32, hf⟩ := ob hf
      refine r_get dX11_copy_32 fl_11_28 kw_4_83 (Or.inl rfl) (gR_sp e32) ?_
      refine r_iload_n 1 dX11_copy_35 rfl ?_
      obtain ⟨v36, e36, hf⟩ := ob hf
      refine r_iaload dX11_copy_36 e36 ?_
      refine r_if_eq (tgt := 49) dX11_copy_37 (by decide) (fun c37 => ?_) (fun c37 => ?_)
      · replace hf := (if_pos c37).symm.trans hf
        refine r_bipush (x := (-11 : Int32)) dX11_copy_49 (by decide) ?_
        have hf := Option.some.inj hf
        subst hf
        exact r_iret rfl dX11_copy_51
      · replace hf := (if_neg c37).symm.trans hf
        refine r_aload_n 0 dX11_copy_40 rfl ?_
        obtain ⟨v41, e41, hf⟩ := ob hf
        refine r_get dX11_copy_41 fl_11_28 kw_4_83 (Or.inl rfl) (gR_sp e41) ?_
        refine r_iload_n 3 dX11_copy_44 rfl ?_
        obtain ⟨v45, e45, hf⟩ := ob hf
        refine r_iaload dX11_copy_45 e45 ?_
        refine r_if_ne (tgt := 52) dX11_copy_46 (by decide) (fun c46 => ?_) (fun c46 => ?_)
        · replace hf := (if_pos c46).symm.trans hf
          refine r_bipush (x := (-11 : Int32)) dX11_copy_49 (by decide) ?_
          have hf := Option.some.inj hf
          subst hf
          exact r_iret rfl dX11_copy_51
        · replace hf := (if_neg c46).symm.trans hf
          refine r_aload_n 0 dX11_copy_52 rfl ?_
          obtain ⟨v53, e53, hf⟩ := ob hf
          refine r_get dX11_copy_53 fl_11_28 kw_4_83 (Or.inl rfl) (gR_sp e53) ?_
          refine r_iload_n 1 dX11_copy_56 rfl ?_
          obtain ⟨v57, e57, hf⟩ := ob hf
          refine r_iaload dX11_copy_57 e57 ?_
          refine r_iconst (x := (2 : Int32)) dX11_copy_58 (by decide) ?_
          refine r_icmp_ne (tgt := 87) dX11_copy_59 (by decide) (fun c59 => ?_) (fun c59 => ?_)
          · replace hf := (if_pos c59).symm.trans hf
            refine r_aload_n 0 dX11_copy_62 rfl ?_
            obtain ⟨v63, e63, hf⟩ := ob hf
            refine r_get dX11_copy_63 fl_11_28 kw_4_83 (Or.inl rfl) (gR_sp e63) ?_
            refine r_iload_n 3 dX11_copy_66 rfl ?_
            obtain ⟨v67, e67, hf⟩ := ob hf
            refine r_iaload dX11_copy_67 e67 ?_
            refine r_iconst (x := (2 : Int32)) dX11_copy_68 (by decide) ?_
            refine r_icmp_ne (tgt := 87) dX11_copy_69 (by decide) (fun c69 => ?_) (fun c69 => ?_)
            · replace hf := (if_pos c69).symm.trans hf
              refine r_aload_n 0 dX11_copy_72 rfl ?_
              obtain ⟨v73, e73, hf⟩ := ob hf
              refine r_get dX11_copy_73 fl_11_31 kw_4_86 (Or.inl rfl) (gR_sp e73) ?_
              refine r_iload_n 1 dX11_copy_76 rfl ?_
              obtain ⟨v77, e77, hf⟩ := ob hf
              refine r_iaload dX11_copy_77 e77 ?_
              refine r_aload_n 0 dX11_copy_78 rfl ?_
              obtain ⟨v79, e79, hf⟩ := ob hf
              refine r_get dX11_copy_79 fl_11_31 kw_4_86 (Or.inl rfl) (gR_sp e79) ?_
              refine r_iload_n 3 dX11_copy_82 rfl ?_
              obtain ⟨v83, e83, hf⟩ := ob hf
              refine r_iaload dX11_copy_83 e83 ?_
              refine r_icmp_eq (tgt := 90) dX11_copy_84 (by decide) (fun c84 => ?_) (fun c84 => ?_)
              · replace hf := (if_pos c84).symm.trans hf
                refine r_iload 5 dX11_copy_90 rfl ?_
                refine r_if_lt (tgt := 131) dX11_copy_92 (by decide) (fun c92 => ?_) (fun c92 => ?_)
                · replace hf := (if_pos c92).symm.trans hf
                  refine r_bipush (x := (-13 : Int32)) dX11_copy_131 (by decide) ?_
                  have hf := Option.some.inj hf
                  subst hf
                  exact r_iret rfl dX11_copy_133
                · replace hf := (if_neg c92).symm.trans hf
                  refine r_iload_n 2 dX11_copy_95 rfl ?_
                  refine r_if_lt (tgt := 131) dX11_copy_96 (by decide) (fun c96 => ?_) (fun c96 => ?_)
                  · replace hf := (if_pos c96).symm.trans hf
                    refine r_bipush (x := (-13 : Int32)) dX11_copy_131 (by decide) ?_
                    have hf := Option.some.inj hf
                    subst hf
                    exact r_iret rfl dX11_copy_133
                  · replace hf := (if_neg c96).symm.trans hf
                    refine r_iload 4 dX11_copy_99 rfl ?_
                    refine r_if_lt (tgt := 131) dX11_copy_101 (by decide) (fun c101 => ?_) (fun c101 => ?_)
                    · replace hf := (if_pos c101).symm.trans hf
                      refine r_bipush (x := (-13 : Int32)) dX11_copy_131 (by decide) ?_
                      have hf := Option.some.inj hf
                      subst hf
                      exact r_iret rfl dX11_copy_133
                    · replace hf := (if_neg c101).symm.trans hf
                      refine r_iload_n 2 dX11_copy_104 rfl ?_
                      refine r_aload_n 0 dX11_copy_105 rfl ?_
                      obtain ⟨v106, e106, hf⟩ := ob hf
                      refine r_get dX11_copy_106 fl_11_32 kw_4_87 (Or.inl rfl) (gR_sp e106) ?_
                      refine r_iload_n 1 dX11_copy_109 rfl ?_
                      obtain ⟨v110, e110, hf⟩ := ob hf
                      refine r_iaload dX11_copy_110 e110 ?_
                      refine r_iload 5 dX11_copy_111 rfl ?_
                      refine r_isub dX11_copy_113 ?_
                      refine r_icmp_gt (tgt := 131) dX11_copy_114 (by decide) (fun c114 => ?_) (fun c114 => ?_)
                      · replace hf := (if_pos c114).symm.trans hf
                        refine r_bipush (x := (-13 : Int32)) dX11_copy_131 (by decide) ?_
                        have hf := Option.some.inj hf
                        subst hf
                        exact r_iret rfl dX11_copy_133
                      · replace hf := (if_neg c114).symm.trans hf
                        refine r_iload 4 dX11_copy_117 rfl ?_
                        refine r_aload_n 0 dX11_copy_119 rfl ?_
                        obtain ⟨v120, e120, hf⟩ := ob hf
                        refine r_get dX11_copy_120 fl_11_32 kw_4_87 (Or.inl rfl) (gR_sp e120) ?_
                        refine r_iload_n 3 dX11_copy_123 rfl ?_
                        obtain ⟨v124, e124, hf⟩ := ob hf
                        refine r_iaload dX11_copy_124 e124 ?_
                        refine r_iload 5 dX11_copy_125 rfl ?_
                        refine r_isub dX11_copy_127 ?_
                        refine r_icmp_le (tgt := 134) dX11_copy_128 (by decide) (fun c128 => ?_) (fun c128 => ?_)
                        · replace hf := (if_pos c128).symm.trans hf
                          refine r_iconst (x := (0 : Int32)) dX11_copy_134 (by decide) ?_
                          refine r_istore (lv' := [(6, vI (0 : Int32)), (0, vR (some this)), (1, vI x1), (2, vI x2), (3, vI x3), (4, vI x4), (5, vI x5)]) dX11_copy_135 (Nat.le_of_ble_eq_true rfl) rfl ?_
                          exact r_sub [1, 2, 3, 4, 5, 6, 0] rfl (t_X11_copy_137 G l _ _ _ _ _ _ _ _ _ _ hf)
                        · replace hf := (if_neg c128).symm.trans hf
                          refine r_bipush (x := (-13 : Int32)) dX11_copy_131 (by decide) ?_
                          have hf := Option.some.inj hf
                          subst hf
                          exact r_iret rfl dX11_copy_133
              · replace hf := (if_neg c84).symm.trans hf
                refine r_bipush (x := (-12 : Int32)) dX11_copy_87 (by decide) ?_
                have hf := Option.some.inj hf
                subst hf
                exact r_iret rfl dX11_copy_89
            · replace hf := (if_neg c69).symm.trans hf
              refine r_bipush (x := (-12 : Int32)) dX11_copy_87 (by decide) ?_
              have hf := Option.some.inj hf
              subst hf
              exact r_iret rfl dX11_copy_89
          · replace hf := (if_neg c59).symm.trans hf
            refine r_bipush (x := (-12 : Int32)) dX11_copy_87 (by decide) ?_
            have hf := Option.some.inj hf
            subst hf
            exact r_iret rfl dX11_copy_89
