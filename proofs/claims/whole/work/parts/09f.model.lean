/-! ===== NumberedByAgeModel.judge(I)I ===== -/
abbrev M_X11_judge : Mx := (cX11_judge, 6, RX11, (false, []), (some .int), 2, 46)
def f_X11_judge_74 (this : Nat) (k19 : Hp → Int32 → Int32 → Option (Int32 × Hp)) (h : Hp) (x1 : Int32) (x3 : Int32) : Option (Int32 × Hp) :=
    k19 h x1 (x3 + 1)
set_option maxRecDepth 100000 in
set_option maxHeartbeats 4000000 in
theorem t_X11_judge_74 (G : Gx) (l : Launch) (this : Nat) (k19 : Hp → Int32 → Int32 → Option (Int32 × Hp)) (hk19 : ∀ (h : Hp) (x1 : Int32) (x3 : Int32) (r : (Int32 × Hp)), k19 h x1 x3 = some r → RJ G l M_X11_judge (some (vI r.1)) r.2 19 [(0, vR (some this)), (1, vI x1), (3, vI x3)] [] h) (h : Hp) (x1 : Int32) (x3 : Int32) (r : (Int32 × Hp)) (hf : f_X11_judge_74 this k19 h x1 x3 = some r) : RJ G l M_X11_judge (some (vI r.1)) r.2 74 [(0, vR (some this)), (1, vI x1), (3, vI x3)] [] h := by
  unfold f_X11_judge_74 at hf
  refine r_iinc (y := (x3 + 1)) (lv' := [(3, vI (x3 + 1)), (0, vR (some this)), (1, vI x1)]) 2 dX11_judge_74 rfl rfl (Nat.le_of_ble_eq_true rfl) rfl ?_
  refine r_goto (tgt := 19) dX11_judge_77 (by decide) ?_
  exact r_sub [1, 2, 0] rfl (hk19 _ _ _ _ hf)
def f_X11_judge_80 (this : Nat) (h : Hp) (x1 : Int32) : Option (Int32 × Hp) :=
    (gR h (some this) [11] 32).bind fun v81 =>
    (aI h v81 x1).bind fun v85 =>
    if (12 : Int32) ≤ v85 then
      (gR h (some this) [11] 32).bind fun v101 =>
      (aI h v101 x1).bind fun v105 =>
      if v105 ≤ (12 : Int32) then
        some ((-4 : Int32), h)
      else
        some ((12 : Int32), h)
    else
      (gR h (some this) [11] 32).bind fun v92 =>
      (aI h v92 x1).bind fun v96 =>
      some (v96, h)
set_option maxRecDepth 100000 in
set_option maxHeartbeats 4000000 in
theorem t_X11_judge_80 (G : Gx) (l : Launch) (this : Nat)  (h : Hp) (x1 : Int32) (r : (Int32 × Hp)) (hf : f_X11_judge_80 this h x1 = some r) : RJ G l M_X11_judge (some (vI r.1)) r.2 80 [(0, vR (some this)), (1, vI x1)] [] h := by
  unfold f_X11_judge_80 at hf
  refine r_aload_n 0 dX11_judge_80 rfl ?_
  obtain ⟨v81, e81, hf⟩ := ob hf
  refine r_get dX11_judge_81 fl_11_32 kw_4_87 (Or.inl rfl) (gR_sp e81) ?_
  refine r_iload_n 1 dX11_judge_84 rfl ?_
  obtain ⟨v85, e85, hf⟩ := ob hf
  refine r_iaload dX11_judge_85 e85 ?_
  refine r_bipush (x := (12 : Int32)) dX11_judge_86 (by decide) ?_
  refine r_icmp_ge (tgt := 100) dX11_judge_88 (by decide) (fun c88 => ?_) (fun c88 => ?_)
  · replace hf := (if_pos c88).symm.trans hf
    refine r_aload_n 0 dX11_judge_100 rfl ?_
    obtain ⟨v101, e101, hf⟩ := ob hf
    refine r_get dX11_judge_101 fl_11_32 kw_4_87 (Or.inl rfl) (gR_sp e101) ?_
    refine r_iload_n 1 dX11_judge_104 rfl ?_
    obtain ⟨v105, e105, hf⟩ := ob hf
    refine r_iaload dX11_judge_105 e105 ?_
    refine r_bipush (x := (12 : Int32)) dX11_judge_106 (by decide) ?_
    refine r_icmp_le (tgt := 116) dX11_judge_108 (by decide) (fun c108 => ?_) (fun c108 => ?_)
    · replace hf := (if_pos c108).symm.trans hf
      refine r_bipush (x := (-4 : Int32)) dX11_judge_116 (by decide) ?_
      have hf := Option.some.inj hf
      subst hf
      exact r_iret rfl dX11_judge_118
    · replace hf := (if_neg c108).symm.trans hf
      refine r_bipush (x := (12 : Int32)) dX11_judge_111 (by decide) ?_
      refine r_goto (tgt := 118) dX11_judge_113 (by decide) ?_
      have hf := Option.some.inj hf
      subst hf
      exact r_iret rfl dX11_judge_118
  · replace hf := (if_neg c88).symm.trans hf
    refine r_aload_n 0 dX11_judge_91 rfl ?_
    obtain ⟨v92, e92, hf⟩ := ob hf
    refine r_get dX11_judge_92 fl_11_32 kw_4_87 (Or.inl rfl) (gR_sp e92) ?_
    refine r_iload_n 1 dX11_judge_95 rfl ?_
    obtain ⟨v96, e96, hf⟩ := ob hf
    refine r_iaload dX11_judge_96 e96 ?_
    refine r_goto (tgt := 118) dX11_judge_97 (by decide) ?_
    have hf := Option.some.inj hf
    subst hf
    exact r_iret rfl dX11_judge_118
def f_X11_judge_19 (this : Nat) : Nat → Hp → Int32 → Int32 → Option (Int32 × Hp)
  | 0, _, _, _ => none
  | n + 1, h, x1, x3 =>
    if (12 : Int32) ≤ x3 then
      f_X11_judge_80 this h x1
    else
      (gR h (some this) [11] 32).bind fun v27 =>
      (aI h v27 x1).bind fun v31 =>
      if v31 ≤ x3 then
        f_X11_judge_80 this h x1
      else
        (gR h (some this) [11] 33).bind fun v36 =>
        (aL h v36 (((100 : Int32) * x1) + x3)).bind fun v45 =>
        (rcv h (some this) 11).bind fun a52 =>
        (f_X11_skippedIn h a52 x1).bind fun v52 =>
        if (lg_cmp v45 v52) = 0 then
          f_X11_judge_74 this (f_X11_judge_19 this n) h x1 x3
        else
          (gR h (some this) [11] 5).bind fun v62 =>
          (aI h v62 x3).bind fun v66 =>
          if (lg_cmp v45 v66.toInt64) = 0 then
            f_X11_judge_74 this (f_X11_judge_19 this n) h x1 x3
          else
            some (x3, h)
set_option maxRecDepth 100000 in
set_option maxHeartbeats 4000000 in
theorem t_X11_judge_19 (G : Gx) (l : Launch) (this : Nat)  : ∀ (n : Nat) (h : Hp) (x1 : Int32) (x3 : Int32) (r : (Int32 × Hp)), f_X11_judge_19 this n h x1 x3 = some r → RJ G l M_X11_judge (some (vI r.1)) r.2 19 [(0, vR (some this)), (1, vI x1), (3, vI x3)] [] h := by
  intro n
  induction n with
  | zero =>
    intro h x1 x3 r hf
    rw [f_X11_judge_19] at hf
    cases hf
  | succ n ih =>
    intro h x1 x3 r hf
    rw [f_X11_judge_19] at hf
    refine r_iload_n 2 dX11_judge_19 rfl ?_
    refine r_bipush (x := (12 : Int32)) dX11_judge_20 (by decide) ?_
    refine r_icmp_ge (tgt := 80) dX11_judge_22 (by decide) (fun c22 => ?_) (fun c22 => ?_)
    · replace hf := (if_pos c22).symm.trans hf
      exact r_sub [0, 1] rfl (t_X11_judge_80 G l _ _ _ _ hf)
    · replace hf := (if_neg c22).symm.trans hf
      refine r_iload_n 2 dX11_judge_25 rfl ?_
      refine r_aload_n 0 dX11_judge_26 rfl ?_
      obtain ⟨v27, e27, hf⟩ := ob hf
      refine r_get dX11_judge_27 fl_11_32 kw_4_87 (Or.inl rfl) (gR_sp e27) ?_
      refine r_iload_n 1 dX11_judge_30 rfl ?_
      obtain ⟨v31, e31, hf⟩ := ob hf
      refine r_iaload dX11_judge_31 e31 ?_
      refine r_icmp_ge (tgt := 80) dX11_judge_32 (by decide) (fun c32 => ?_) (fun c32 => ?_)
      · replace hf := (if_pos c32).symm.trans hf
        exact r_sub [0, 1] rfl (t_X11_judge_80 G l _ _ _ _ hf)
      · replace hf := (if_neg c32).symm.trans hf
        refine r_aload_n 0 dX11_judge_35 rfl ?_
        obtain ⟨v36, e36, hf⟩ := ob hf
        refine r_get dX11_judge_36 fl_11_33 kw_4_88 (Or.inl rfl) (gR_sp e36) ?_
        refine r_bipush (x := (100 : Int32)) dX11_judge_39 (by decide) ?_
        refine r_iload_n 1 dX11_judge_41 rfl ?_
        refine r_imul dX11_judge_42 ?_
        refine r_iload_n 2 dX11_judge_43 rfl ?_
        refine r_iadd dX11_judge_44 ?_
        obtain ⟨v45, e45, hf⟩ := ob hf
        refine r_laload dX11_judge_45 e45 ?_
        refine r_lstore (lv' := [(4, vL v45), (0, vR (some this)), (1, vI x1), (3, vI x3)]) dX11_judge_46 (Nat.le_of_ble_eq_true rfl) rfl ?_
        refine r_lload 0 dX11_judge_48 rfl ?_
        refine r_aload_n 1 dX11_judge_50 rfl ?_
        refine r_iload_n 2 dX11_judge_51 rfl ?_
        obtain ⟨a52, ea52, hf⟩ := ob hf
        obtain ⟨v52, e52, hf⟩ := ob hf
        refine r_callV (y := yX11_skippedIn) (ci := 11) (avs := [vI x1]) dX11_judge_52 rfl kw_5_151 kw_5_153 kw_0_43 kw_1_5 kw_5_154 oky_X11_skippedIn ⟨Nat.le_of_ble_eq_true rfl, Nat.le_of_ble_eq_true rfl⟩ rfl (Nat.le_of_ble_eq_true rfl) ea52 (k_X11_skippedIn G l e52) ?_
        refine r_pc (pc' := 55) rfl ?_
        refine r_lcmp dX11_judge_55 ?_
        refine r_if_eq (tgt := 74) dX11_judge_56 (by decide) (fun c56 => ?_) (fun c56 => ?_)
        · replace hf := (if_pos c56).symm.trans hf
          exact r_sub [1, 2, 3] rfl (t_X11_judge_74 G l _ (f_X11_judge_19 this n) ih _ _ _ _ hf)
        · replace hf := (if_neg c56).symm.trans hf
          refine r_lload 0 dX11_judge_59 rfl ?_
          refine r_aload_n 1 dX11_judge_61 rfl ?_
          obtain ⟨v62, e62, hf⟩ := ob hf
          refine r_get dX11_judge_62 fl_11_5 kw_4_60 (Or.inl rfl) (gR_sp e62) ?_
          refine r_iload_n 3 dX11_judge_65 rfl ?_
          obtain ⟨v66, e66, hf⟩ := ob hf
          refine r_iaload dX11_judge_66 e66 ?_
          refine r_i2l dX11_judge_67 ?_
          refine r_lcmp dX11_judge_68 ?_
          refine r_if_eq (tgt := 74) dX11_judge_69 (by decide) (fun c69 => ?_) (fun c69 => ?_)
          · replace hf := (if_pos c69).symm.trans hf
            exact r_sub [1, 2, 3] rfl (t_X11_judge_74 G l _ (f_X11_judge_19 this n) ih _ _ _ _ hf)
          · replace hf := (if_neg c69).symm.trans hf
            refine r_iload_n 3 dX11_judge_72 rfl ?_
            have hf := Option.some.inj hf
            subst hf
            exact r_iret rfl dX11_judge_73
def f_X11_judge (h : Hp) (this : Nat) (x1 : Int32) : Option (Int32 × Hp) :=
    (pF h (some this) [11] 6 (vI (0 : Int32))).bind fun h2 =>
    (rcv h2 (some this) 11).bind fun a7 =>
    (f_X11_wrongRow h2 a7 x1).bind fun v7 =>
    if 0 ≤ v7 then
      f_X11_judge_19 this 10000 h2 x1 (0 : Int32)
    else
      some (v7, h2)
set_option maxRecDepth 100000 in
set_option maxHeartbeats 4000000 in
theorem k_X11_judge (G : Gx) (l : Launch) {h : Hp} {this : Nat} {x1 : Int32} {r : (Int32 × Hp)} (hf : f_X11_judge h this x1 = some r) : KM l yX11_judge (.code yX11_judge cX11_judge 6 (some .int) :: wsK) 2 46 G [vR (some this), vI x1] h (some (vI r.1)) r.2 := by
  refine r_entry (ctor := false) (own := RX11) (by decide +kernel) rfl (fun q => by cases q) (Nat.le_of_ble_eq_true rfl) ?_
  show RJ G l M_X11_judge (some (vI r.1)) r.2 0 [(0, vR (some this)), (1, vI x1)] [] h
  unfold f_X11_judge at hf
  refine r_aload_n 0 dX11_judge_0 rfl ?_
  refine r_iconst (x := (0 : Int32)) dX11_judge_1 (by decide) ?_
  obtain ⟨h2, e2, hf⟩ := ob hf
  refine r_put dX11_judge_2 fl_11_6 kw_4_61 (Or.inl rfl) (by decide +kernel) (fit_int _) e2 ?_
  refine r_aload_n 0 dX11_judge_5 rfl ?_
  refine r_iload_n 1 dX11_judge_6 rfl ?_
  obtain ⟨a7, ea7, hf⟩ := ob hf
  obtain ⟨v7, e7, hf⟩ := ob hf
  refine r_callV (y := yX11_wrongRow) (ci := 11) (avs := [vI x1]) dX11_judge_7 rfl kw_4_174 kw_4_176 kw_0_15 kw_1_5 kw_4_177 oky_X11_wrongRow ⟨Nat.le_of_ble_eq_true rfl, Nat.le_of_ble_eq_true rfl⟩ rfl (Nat.le_of_ble_eq_true rfl) ea7 (k_X11_wrongRow G l e7) ?_
  refine r_istore_n (lv' := [(2, vI v7), (0, vR (some this)), (1, vI x1)]) dX11_judge_10 (Nat.le_of_ble_eq_true rfl) rfl ?_
  refine r_iload_n 0 dX11_judge_11 rfl ?_
  refine r_if_ge (tgt := 17) dX11_judge_12 (by decide) (fun c12 => ?_) (fun c12 => ?_)
  · replace hf := (if_pos c12).symm.trans hf
    refine r_iconst (x := (0 : Int32)) dX11_judge_17 (by decide) ?_
    refine r_istore_n (lv' := [(3, vI (0 : Int32)), (2, vI v7), (0, vR (some this)), (1, vI x1)]) dX11_judge_18 (Nat.le_of_ble_eq_true rfl) rfl ?_
    exact r_sub [2, 3, 0] rfl (t_X11_judge_19 G l _ _ _ _ _ _ hf)
  · replace hf := (if_neg c12).symm.trans hf
    refine r_iload_n 0 dX11_judge_15 rfl ?_
    have hf := Option.some.inj hf
    subst hf
    exact r_iret rfl dX11_judge_16
/-! ===== NumberedByAgeModel.keep(IIII)I ===== -/
abbrev M_X11_keep : Mx := (cX11_keep, 5, RX11, (false, []), (some .int), 1, 25)
def f_X11_keep_81 (this : Nat) (h : Hp) (x1 : Int32) (x2 : Int32) (x4 : Int32) (s0 : Int32) (s1 : Int32) (s2 : Option Nat) : Option (Int32 × Hp) :=
    (wI h s2 s1 s0).bind fun h81 =>
    (gR h81 (some this) [11] 30).bind fun v83 =>
    if x2 = (1 : Int32) then
      (wI h81 v83 x1 x4).bind fun h98 =>
      some ((0 : Int32), h98)
    else
      (wI h81 v83 x1 (0 : Int32)).bind fun h98 =>
      some ((0 : Int32), h98)
set_option maxRecDepth 100000 in
set_option maxHeartbeats 4000000 in
theorem t_X11_keep_81 (G : Gx) (l : Launch) (this : Nat)  (h : Hp) (x1 : Int32) (x2 : Int32) (x4 : Int32) (s0 : Int32) (s1 : Int32) (s2 : Option Nat) (r : (Int32 × Hp)) (hf : f_X11_keep_81 this h x1 x2 x4 s0 s1 s2 = some r) : RJ G l M_X11_keep (some (vI r.1)) r.2 81 [(0, vR (some this)), (1, vI x1), (2, vI x2), (4, vI x4)] [vI s0, vI s1, vR s2] h := by
  unfold f_X11_keep_81 at hf
  obtain ⟨h81, e81, hf⟩ := ob hf
  refine r_iastore dX11_keep_81 e81 ?_
  refine r_aload_n 0 dX11_keep_82 rfl ?_
  obtain ⟨v83, e83, hf⟩ := ob hf
  refine r_get dX11_keep_83 fl_11_30 kw_4_85 (Or.inl rfl) (gR_sp e83) ?_
  refine r_iload_n 1 dX11_keep_86 rfl ?_
  refine r_iload_n 2 dX11_keep_87 rfl ?_
  refine r_iconst (x := (1 : Int32)) dX11_keep_88 (by decide) ?_
  refine r_icmp_ne (tgt := 97) dX11_keep_89 (by decide) (fun c89 => ?_) (fun c89 => ?_)
  · replace hf := (if_pos c89).symm.trans hf
    refine r_iload 3 dX11_keep_92 rfl ?_
    refine r_goto (tgt := 98) dX11_keep_94 (by decide) ?_
    obtain ⟨h98, e98, hf⟩ := ob hf
    refine r_iastore dX11_keep_98 e98 ?_
    refine r_iconst (x := (0 : Int32)) dX11_keep_99 (by decide) ?_
    have hf := Option.some.inj hf
    subst hf
    exact r_iret rfl dX11_keep_100
  · replace hf := (if_neg c89).symm.trans hf
    refine r_iconst (x := (0 : Int32)) dX11_keep_97 (by decide) ?_
    obtain ⟨h98, e98, hf⟩ := ob hf
    refine r_iastore dX11_keep_98 e98 ?_
    refine r_iconst (x := (0 : Int32)) dX11_keep_99 (by decide) ?_
    have hf := Option.some.inj hf
    subst hf
    exact r_iret rfl dX11_keep_100
def f_X11_keep_59 (this : Nat) (h : Hp) (x1 : Int32) (x2 : Int32) (x3 : Int32) (x4 : Int32) : Option (Int32 × Hp) :=
    (gR h (some this) [11] 28).bind fun v60 =>
    (wI h v60 x1 x2).bind fun h65 =>
    (gR h65 (some this) [11] 29).bind fun v67 =>
    if x2 = (1 : Int32) then
      f_X11_keep_81 this h65 x1 x2 x4 x3 x1 v67
    else
      f_X11_keep_81 this h65 x1 x2 x4 (0 : Int32) x1 v67
set_option maxRecDepth 100000 in
set_option maxHeartbeats 4000000 in
theorem t_X11_keep_59 (G : Gx) (l : Launch) (this : Nat)  (h : Hp) (x1 : Int32) (x2 : Int32) (x3 : Int32) (x4 : Int32) (r : (Int32 × Hp)) (hf : f_X11_keep_59 this h x1 x2 x3 x4 = some r) : RJ G l M_X11_keep (some (vI r.1)) r.2 59 [(0, vR (some this)), (1, vI x1), (2, vI x2), (3, vI x3), (4, vI x4)] [] h := by
  unfold f_X11_keep_59 at hf
  refine r_aload_n 0 dX11_keep_59 rfl ?_
  obtain ⟨v60, e60, hf⟩ := ob hf
  refine r_get dX11_keep_60 fl_11_28 kw_4_83 (Or.inl rfl) (gR_sp e60) ?_
  refine r_iload_n 1 dX11_keep_63 rfl ?_
  refine r_iload_n 2 dX11_keep_64 rfl ?_
  obtain ⟨h65, e65, hf⟩ := ob hf
  refine r_iastore dX11_keep_65 e65 ?_
  refine r_aload_n 0 dX11_keep_66 rfl ?_
  obtain ⟨v67, e67, hf⟩ := ob hf
  refine r_get dX11_keep_67 fl_11_29 kw_4_84 (Or.inl rfl) (gR_sp e67) ?_
  refine r_iload_n 1 dX11_keep_70 rfl ?_
  refine r_iload_n 2 dX11_keep_71 rfl ?_
  refine r_iconst (x := (1 : Int32)) dX11_keep_72 (by decide) ?_
  refine r_icmp_ne (tgt := 80) dX11_keep_73 (by decide) (fun c73 => ?_) (fun c73 => ?_)
  · replace hf := (if_pos c73).symm.trans hf
    refine r_iload_n 3 dX11_keep_76 rfl ?_
    refine r_goto (tgt := 81) dX11_keep_77 (by decide) ?_
    exact r_sub [0, 1, 2, 4] rfl (t_X11_keep_81 G l _ _ _ _ _ _ _ _ _ hf)
  · replace hf := (if_neg c73).symm.trans hf
    refine r_iconst (x := (0 : Int32)) dX11_keep_80 (by decide) ?_
    exact r_sub [0, 1, 2, 4] rfl (t_X11_keep_81 G l _ _ _ _ _ _ _ _ _ hf)
def f_X11_keep (h : Hp) (this : Nat) (x1 : Int32) (x2 : Int32) (x3 : Int32) (x4 : Int32) : Option (Int32 × Hp) :=
    (pF h (some this) [11] 6 (vI (0 : Int32))).bind fun h2 =>
    (f_X11_in h2 x1.toInt64 (0 : Int64) (7 : Int64)).bind fun v11 =>
    if v11 = 0 then
      some ((-1 : Int32), h2)
    else
      (f_X11_in h2 x2.toInt64 (0 : Int64) (1 : Int64)).bind fun v21 =>
      if v21 = 0 then
        some ((-1 : Int32), h2)
      else
        if x2 = (1 : Int32) then
          (f_X11_in h2 x3.toInt64 (0 : Int64) (7 : Int64)).bind fun v38 =>
          if v38 = 0 then
            some ((-1 : Int32), h2)
          else
            (f_X11_in h2 x4.toInt64 (0 : Int64) (9 : Int64)).bind fun v51 =>
            if v51 = 0 then
              some ((-1 : Int32), h2)
            else
              f_X11_keep_59 this h2 x1 x2 x3 x4
        else
          f_X11_keep_59 this h2 x1 x2 x3 x4
set_option maxRecDepth 100000 in
set_option maxHeartbeats 4000000 in
theorem k_X11_keep (G : Gx) (l : Launch) {h : Hp} {this : Nat} {x1 : Int32} {x2 : Int32} {x3 : Int32} {x4 : Int32} {r : (Int32 × Hp)} (hf : f_X11_keep h this x1 x2 x3 x4 = some r) : KM l yX11_keep (.code yX11_keep cX11_keep 5 (some .int) :: wsK) 1 25 G [vR (some this), vI x1, vI x2, vI x3, vI x4] h (some (vI r.1)) r.2 := by
  refine r_entry (ctor := false) (own := RX11) (by decide +kernel) rfl (fun q => by cases q) (Nat.le_of_ble_eq_true rfl) ?_
  show RJ G l M_X11_keep (some (vI r.1)) r.2 0 [(0, vR (some this)), (1, vI x1), (2, vI x2), (3, vI x3), (4, vI x4)] [] h
  unfold f_X11_keep at hf
  refine r_aload_n 0 dX11_keep_0 rfl ?_
  refine r_iconst (x := (0 : Int32)) dX11_keep_1 (by decide) ?_
  obtain ⟨h2, e2, hf⟩ := ob hf
  refine r_put dX11_keep_2 fl_11_6 kw_4_61 (Or.inl rfl) (by decide +kernel) (fit_int _) e2 ?_
  refine r_iload_n 1 dX11_keep_5 rfl ?_
  refine r_i2l dX11_keep_6 ?_
  refine r_lconst (x := (0 : Int64)) dX11_keep_7 (by decide) ?_
  refine r_ldc2 (x := (7 : Int64)) dX11_keep_8 kw_4_178 ?_
  obtain ⟨v11, e11, hf⟩ := ob hf
  refine r_callS (y := yX11_in) (avs := [vL x1.toInt64, vL (0 : Int64), vL (7 : Int64)]) dX11_keep_11 kw_4_179 kw_4_180 kw_1_5 kw_4_181 oky_X11_in ⟨Nat.le_of_ble_eq_true rfl, Nat.le_of_ble_eq_true rfl⟩ rfl (Nat.le_of_ble_eq_true rfl) (k_X11_in G l e11) ?_
  refine r_if_eq (tgt := 57) dX11_keep_14 (by decide) (fun c14 => ?_) (fun c14 => ?_)
  · replace hf := (if_pos c14).symm.trans hf
    refine r_iconst (x := (-1 : Int32)) dX11_keep_57 (by decide) ?_
    have hf := Option.some.inj hf
    subst hf
    exact r_iret rfl dX11_keep_58
  · replace hf := (if_neg c14).symm.trans hf
    refine r_iload_n 2 dX11_keep_17 rfl ?_
    refine r_i2l dX11_keep_18 ?_
    refine r_lconst (x := (0 : Int64)) dX11_keep_19 (by decide) ?_
    refine r_lconst (x := (1 : Int64)) dX11_keep_20 (by decide) ?_
    obtain ⟨v21, e21, hf⟩ := ob hf
    refine r_callS (y := yX11_in) (avs := [vL x2.toInt64, vL (0 : Int64), vL (1 : Int64)]) dX11_keep_21 kw_4_179 kw_4_180 kw_1_5 kw_4_181 oky_X11_in ⟨Nat.le_of_ble_eq_true rfl, Nat.le_of_ble_eq_true rfl⟩ rfl (Nat.le_of_ble_eq_true rfl) (k_X11_in G l e21) ?_
    refine r_if_eq (tgt := 57) dX11_keep_24 (by decide) (fun c24 => ?_) (fun c24 => ?_)
    · replace hf := (if_pos c24).symm.trans hf
      refine r_iconst (x := (-1 : Int32)) dX11_keep_57 (by decide) ?_
      have hf := Option.some.inj hf
      subst hf
      exact r_iret rfl dX11_keep_58
    · replace hf := (if_neg c24).symm.trans hf
      refine r_iload_n 2 dX11_keep_27 rfl ?_
      refine r_iconst (x := (1 : Int32)) dX11_keep_28 (by decide) ?_
      refine r_icmp_ne (tgt := 59) dX11_keep_29 (by decide) (fun c29 => ?_) (fun c29 => ?_)
      · replace hf := (if_pos c29).symm.trans hf
        refine r_iload_n 3 dX11_keep_32 rfl ?_
        refine r_i2l dX11_keep_33 ?_
        refine r_lconst (x := (0 : Int64)) dX11_keep_34 (by decide) ?_
        refine r_ldc2 (x := (7 : Int64)) dX11_keep_35 kw_4_178 ?_
        obtain ⟨v38, e38, hf⟩ := ob hf
        refine r_callS (y := yX11_in) (avs := [vL x3.toInt64, vL (0 : Int64), vL (7 : Int64)]) dX11_keep_38 kw_4_179 kw_4_180 kw_1_5 kw_4_181 oky_X11_in ⟨Nat.le_of_ble_eq_true rfl, Nat.le_of_ble_eq_true rfl⟩ rfl (Nat.le_of_ble_eq_true rfl) (k_X11_in G l e38) ?_
        refine r_if_eq (tgt := 57) dX11_keep_41 (by decide) (fun c41 => ?_) (fun c41 => ?_)
        · replace hf := (if_pos c41).symm.trans hf
          refine r_iconst (x := (-1 : Int32)) dX11_keep_57 (by decide) ?_
          have hf := Option.some.inj hf
          subst hf
          exact r_iret rfl dX11_keep_58
        · replace hf := (if_neg c41).symm.trans hf
          refine r_iload 4 dX11_keep_44 rfl ?_
          refine r_i2l dX11_keep_46 ?_
          refine r_lconst (x := (0 : Int64)) dX11_keep_47 (by decide) ?_
          refine r_ldc2 (x := (9 : Int64)) dX11_keep_48 kw_5_19 ?_
          obtain ⟨v51, e51, hf⟩ := ob hf
          refine r_callS (y := yX11_in) (avs := [vL x4.toInt64, vL (0 : Int64), vL (9 : Int64)]) dX11_keep_51 kw_4_179 kw_4_180 kw_1_5 kw_4_181 oky_X11_in ⟨Nat.le_of_ble_eq_true rfl, Nat.le_of_ble_eq_true rfl⟩ rfl (Nat.le_of_ble_eq_true rfl) (k_X11_in G l e51) ?_
          refine r_if_ne (tgt := 59) dX11_keep_54 (by decide) (fun c54 => ?_) (fun c54 => ?_)
          · replace hf := (if_pos c54).symm.trans hf
            refine r_iconst (x := (-1 : Int32)) dX11_keep_57 (by decide) ?_
            have hf := Option.some.inj hf
            subst hf
            exact r_iret rfl dX11_keep_58
          · replace hf := (if_neg c54).symm.trans hf
            exact r_sub [0, 1, 2, 3, 4] rfl (t_X11_keep_59 G l _ _ _ _ _ _ _ hf)
      · replace hf := (if_neg c29).symm.trans hf
        exact r_sub [0, 1, 2, 3, 4] rfl (t_X11_keep_59 G l _ _ _ _ _ _ _ hf)
/-! ===== NumberedByAgeModel.laws(I)I ===== -/
abbrev M_X11_laws : Mx := (cX11_laws, 4, RX11, (false, []), (some .int), 5, 117)
def f_X11_laws_50 (this : Nat) (k23 : Hp → Int32 → Int32 → Int32 → Option (Int32 × Hp)) (h : Hp) (x1 : Int32) (x3 : Int32) (s0 : Int32) (s1 : Int32) : Option (Int32 × Hp) :=
    k23 h x1 (s1 ||| s0) (x3 + 1)
set_option maxRecDepth 100000 in
set_option maxHeartbeats 4000000 in
theorem t_X11_laws_50 (G : Gx) (l : Launch) (this : Nat) (k23 : Hp → Int32 → Int32 → Int32 → Option (Int32 × Hp)) (hk23 : ∀ (h : Hp) (x1 : Int32) (x2 : Int32) (x3 : Int32) (r : (Int32 × Hp)), k23 h x1 x2 x3 = some r → RJ G l M_X11_laws (some (vI r.1)) r.2 23 [(0, vR (some this)), (1, vI x1), (2, vI x2), (3, vI x3)] [] h) (h : Hp) (x1 : Int32) (x3 : Int32) (s0 : Int32) (s1 : Int32) (r : (Int32 × Hp)) (hf : f_X11_laws_50 this k23 h x1 x3 s0 s1 = some r) : RJ G l M_X11_laws (some (vI r.1)) r.2 50 [(0, vR (some this)), (1, vI x1), (3, vI x3)] [vI s0, vI s1] h := by
  unfold f_X11_laws_50 at hf
  refine r_ior dX11_laws_50 ?_
  refine r_istore_n (lv' := [(2, vI (s1 ||| s0)), (0, vR (some this)), (1, vI x1), (3, vI x3)]) dX11_laws_51 (Nat.le_of_ble_eq_true rfl) rfl ?_
  refine r_iinc (y := (x3 + 1)) (lv' := [(3, vI (x3 + 1)), (2, vI (s1 ||| s0)), (0, vR (some this)), (1, vI x1)]) 3 dX11_laws_52 rfl rfl (Nat.le_of_ble_eq_true rfl) rfl ?_
  refine r_goto (tgt := 23) dX11_laws_55 (by decide) ?_
  exact r_sub [2, 3, 1, 0] rfl (hk23 _ _ _ _ _ hf)
def f_X11_laws_23 (this : Nat) : Nat → Hp → Int32 → Int32 → Int32 → Option (Int32 × Hp)
  | 0, _, _, _, _ => none
  | n + 1, h, x1, x2, x3 =>
    if (8 : Int32) ≤ x3 then
      some (x2, h)
    else
      (rcv h (some this) 11).bind fun a32 =>
      (f_X11_replay h a32 x3 x1).bind fun h32 =>
      (rcv h32 (some this) 11).bind fun a37 =>
      (f_X11_areAsNow h32 a37).bind fun v37 =>
      if v37 = 0 then
        f_X11_laws_50 this (f_X11_laws_23 this n) h32 x1 x3 (0 : Int32) x2
      else
        f_X11_laws_50 this (f_X11_laws_23 this n) h32 x1 x3 ((1 : Int32) <<< (x3 &&& 31)) x2
set_option maxRecDepth 100000 in
set_option maxHeartbeats 4000000 in
theorem t_X11_laws_23 (G : Gx) (l : Launch) (this : Nat)  : ∀ (n : Nat) (h : Hp) (x1 : Int32) (x2 : Int32) (x3 : Int32) (r : (Int32 × Hp)), f_X11_laws_23 this n h x1 x2 x3 = some r → RJ G l M_X11_laws (some (vI r.1)) r.2 23 [(0, vR (some this)), (1, vI x1), (2, vI x2), (3, vI x3)] [] h := by
  intro n
  induction n with
  | zero =>
    intro h x1 x2 x3 r hf
    rw [f_X11_laws_23] at hf
    cases hf
  | succ n ih =>
    intro h x1 x2 x3 r hf
    rw [f_X11_laws_23] at hf
    refine r_iload_n 3 dX11_laws_23 rfl ?_
    refine r_bipush (x := (8 : Int32)) dX11_laws_24 (by decide) ?_
    refine r_icmp_ge (tgt := 58) dX11_laws_26 (by decide) (fun c26 => ?_) (fun c26 => ?_)
    · replace hf := (if_pos c26).symm.trans hf
      refine r_iload_n 2 dX11_laws_58 rfl ?_
      have hf := Option.some.inj hf
      subst hf
      exact r_iret rfl dX11_laws_59
    · replace hf := (if_neg c26).symm.trans hf
      refine r_aload_n 0 dX11_laws_29 rfl ?_
      refine r_iload_n 3 dX11_laws_30 rfl ?_
      refine r_iload_n 1 dX11_laws_31 rfl ?_
      obtain ⟨a32, ea32, hf⟩ := ob hf
      obtain ⟨h32, e32, hf⟩ := ob hf
      refine r_callV (y := yX11_replay) (ci := 11) (avs := [vI x3, vI x1]) dX11_laws_32 rfl kw_5_98 kw_5_100 kw_0_36 kw_1_5 kw_5_101 oky_X11_replay ⟨Nat.le_of_ble_eq_true rfl, Nat.le_of_ble_eq_true rfl⟩ rfl (Nat.le_of_ble_eq_true rfl) ea32 (k_X11_replay G l e32) ?_
      refine r_iload_n 2 dX11_laws_35 rfl ?_
      refine r_aload_n 0 dX11_laws_36 rfl ?_
      obtain ⟨a37, ea37, hf⟩ := ob hf
      obtain ⟨v37, e37, hf⟩ := ob hf
      refine r_callV (y := yX11_areAsNow) (ci := 11) (avs := []) dX11_laws_37 rfl kw_5_110 kw_5_112 kw_0_38 kw_1_5 kw_5_113 oky_X11_areAsNow ⟨Nat.le_of_ble_eq_true rfl, Nat.le_of_ble_eq_true rfl⟩ rfl (Nat.le_of_ble_eq_true rfl) ea37 (k_X11_areAsNow G l e37) ?_
      refine r_if_eq (tgt := 49) dX11_laws_40 (by decide) (fun c40 => ?_) (fun c40 => ?_)
      · replace hf := (if_pos c40).symm.trans hf
        refine r_iconst (x := (0 : Int32)) dX11_laws_49 (by decide) ?_
        exact r_sub [0, 1, 3] rfl (t_X11_laws_50 G l _ (f_X11_laws_23 this n) ih _ _ _ _ _ _ hf)
      · replace hf := (if_neg c40).symm.trans hf
        refine r_iconst (x := (1 : Int32)) dX11_laws_43 (by decide) ?_
        refine r_iload_n 3 dX11_laws_44 rfl ?_
        refine r_ishl dX11_laws_45 ?_
        refine r_goto (tgt := 50) dX11_laws_46 (by decide) ?_
        exact r_sub [0, 1, 3] rfl (t_X11_laws_50 G l _ (f_X11_laws_23 this n) ih _ _ _ _ _ _ hf)
def f_X11_laws (h : Hp) (this : Nat) (x1 : Int32) : Option (Int32 × Hp) :=
    (pF h (some this) [11] 6 (vI (0 : Int32))).bind fun h2 =>
    (f_X11_in h2 x1.toInt64 (0 : Int64) (9 : Int64)).bind fun v11 =>
    if v11 = 0 then
      some ((-1 : Int32), h2)
    else
      f_X11_laws_23 this 10000 h2 x1 (0 : Int32) (0 : Int32)
set_option maxRecDepth 100000 in
set_option maxHeartbeats 4000000 in
theorem k_X11_laws (G : Gx) (l : Launch) {h : Hp} {this : Nat} {x1 : Int32} {r : (Int32 × Hp)} (hf : f_X11_laws h this x1 = some r) : KM l yX11_laws (.code yX11_laws cX11_laws 4 (some .int) :: wsK) 5 117 G [vR (some this), vI x1] h (some (vI r.1)) r.2 := by
  refine r_entry (ctor := false) (own := RX11) (by decide +kernel) rfl (fun q => by cases q) (Nat.le_of_ble_eq_true rfl) ?_
  show RJ G l M_X11_laws (some (vI r.1)) r.2 0 [(0, vR (some this)), (1, vI x1)] [] h
  unfold f_X11_laws at hf
  refine r_aload_n 0 dX11_laws_0 rfl ?_
  refine r_iconst (x := (0 : Int32)) dX11_laws_1 (by decide) ?_
  obtain ⟨h2, e2, hf⟩ := ob hf
  refine r_put dX11_laws_2 fl_11_6 kw_4_61 (Or.inl rfl) (by decide +kernel) (fit_int _) e2 ?_
  refine r_iload_n 1 dX11_laws_5 rfl ?_
  refine r_i2l dX11_laws_6 ?_
  refine r_lconst (x := (0 : Int64)) dX11_laws_7 (by decide) ?_
  refine r_ldc2 (x := (9 : Int64)) dX11_laws_8 kw_5_19 ?_
  obtain ⟨v11, e11, hf⟩ := ob hf
  refine r_callS (y := yX11_in) (avs := [vL x1.toInt64, vL (0 : Int64), vL (9 : Int64)]) dX11_laws_11 kw_4_179 kw_4_180 kw_1_5 kw_4_181 oky_X11_in ⟨Nat.le_of_ble_eq_true rfl, Nat.le_of_ble_eq_true rfl⟩ rfl (Nat.le_of_ble_eq_true rfl) (k_X11_in G l e11) ?_
  refine r_if_ne (tgt := 19) dX11_laws_14 (by decide) (fun c14 => ?_) (fun c14 => ?_)
  · replace hf := (if_pos c14).symm.trans hf
    refine r_iconst (x := (-1 : Int32)) dX11_laws_17 (by decide) ?_
    have hf := Option.some.inj hf
    subst hf
    exact r_iret rfl dX11_laws_18
  · replace hf := (if_neg c14).symm.trans hf
    refine r_iconst (x := (0 : Int32)) dX11_laws_19 (by decide) ?_
    refine r_istore_n (lv' := [(2, vI (0 : Int32)), (0, vR (some this)), (1, vI x1)]) dX11_laws_20 (Nat.le_of_ble_eq_true rfl) rfl ?_
    refine r_iconst (x := (0 : Int32)) dX11_laws_21 (by decide) ?_
    refine r_istore_n (lv' := [(3, vI (0 : Int32)), (2, vI (0 : Int32)), (0, vR (some this)), (1, vI x1)]) dX11_laws_22 (Nat.le_of_ble_eq_true rfl) rfl ?_
    exact r_sub [2, 3, 1, 0] rfl (t_X11_laws_23 G l _ _ _ _ _ _ _ hf)
/-! ===== NumberedByAgeModel.letter(I)I ===== -/
abbrev M_X11_letter : Mx := (cX11_letter, 5, RX11, (false, []), (some .int), 1, 25)
def f_X11_letter_65 (this : Nat) (k23 : Hp → Int32 → Int32 → Option (Int32 × Hp)) (h : Hp) (x3 : Int32) (x4 : Int32) (s0 : Int32) (s1 : Int32) : Option (Int32 × Hp) :=
    if (s1 - s0) = 0 then
      some (x4, h)
    else
      k23 h (s1 - s0) (x3 + 1)
set_option maxRecDepth 100000 in
set_option maxHeartbeats 4000000 in
theorem t_X11_letter_65 (G : Gx) (l : Launch) (this : Nat) (k23 : Hp → Int32 → Int32 → Option (Int32 × Hp)) (hk23 : ∀ (h : Hp) (x2 : Int32) (x3 : Int32) (r : (Int32 × Hp)), k23 h x2 x3 = some r → RJ G l M_X11_letter (some (vI r.1)) r.2 23 [(0, vR (some this)), (2, vI x2), (3, vI x3)] [] h) (h : Hp) (x3 : Int32) (x4 : Int32) (s0 : Int32) (s1 : Int32) (r : (Int32 × Hp)) (hf : f_X11_letter_65 this k23 h x3 x4 s0 s1 = some r) : RJ G l M_X11_letter (some (vI r.1)) r.2 65 [(0, vR (some this)), (3, vI x3), (4, vI x4)] [vI s0, vI s1] h := by
  unfold f_X11_letter_65 at hf
  refine r_isub dX11_letter_65 ?_
  refine r_istore_n (lv' := [(2, vI (s1 - s0)), (0, vR (some this)), (3, vI x3), (4, vI x4)]) dX11_letter_66 (Nat.le_of_ble_eq_true rfl) rfl ?_
  refine r_iload_n 0 dX11_letter_67 rfl ?_
  refine r_if_ne (tgt := 74) dX11_letter_68 (by decide) (fun c68 => ?_) (fun c68 => ?_)
  · replace hf := (if_pos c68).symm.trans hf
    refine r_iload 3 dX11_letter_71 rfl ?_
    have hf := Option.some.inj hf
    subst hf
    exact r_iret rfl dX11_letter_73
  · replace hf := (if_neg c68).symm.trans hf
    refine r_iinc (y := (x3 + 1)) (lv' := [(3, vI (x3 + 1)), (2, vI (s1 - s0)), (0, vR (some this)), (4, vI x4)]) 2 dX11_letter_74 rfl rfl (Nat.le_of_ble_eq_true rfl) rfl ?_
    refine r_goto (tgt := 23) dX11_letter_77 (by decide) ?_
    exact r_sub [2, 1, 0] rfl (hk23 _ _ _ _ hf)
def f_X11_letter_64 (this : Nat) (k23 : Hp → Int32 → Int32 → Option (Int32 × Hp)) (h : Hp) (x3 : Int32) (x4 : Int32) (s0 : Int32) : Option (Int32 × Hp) :=
    f_X11_letter_65 this k23 h x3 x4 (0 : Int32) s0
set_option maxRecDepth 100000 in
set_option maxHeartbeats 4000000 in
theorem t_X11_letter_64 (G : Gx) (l : Launch) (this : Nat) (k23 : Hp → Int32 → Int32 → Option (Int32 × Hp)) (hk23 : ∀ (h : Hp) (x2 : Int32) (x3 : Int32) (r : (Int32 × Hp)), k23 h x2 x3 = some r → RJ G l M_X11_letter (some (vI r.1)) r.2 23 [(0, vR (some this)), (2, vI x2), (3, vI x3)] [] h) (h : Hp) (x3 : Int32) (x4 : Int32) (s0 : Int32) (r : (Int32 × Hp)) (hf : f_X11_letter_64 this k23 h x3 x4 s0 = some r) : RJ G l M_X11_letter (some (vI r.1)) r.2 64 [(0, vR (some this)), (3, vI x3), (4, vI x4)] [vI s0] h := by
  unfold f_X11_letter_64 at hf
  refine r_iconst (x := (0 : Int32)) dX11_letter_64 (by decide) ?_
  exact r_sub [0, 1, 2] rfl (t_X11_letter_65 G l _ k23 hk23 _ _ _ _ _ _ hf)
def f_X11_letter_23 (this : Nat) : Nat → Hp → Int32 → Int32 → Option (Int32 × Hp)
  | 0, _, _, _ => none
  | n + 1, h, x2, x3 =>
    (gI h (some this) [11] 2).bind fun v25 =>
    if v25 ≤ x3 then
      some ((-4 : Int32), h)
    else
      (gR h (some this) [11] 3).bind fun v32 =>
      (aI h v32 x3).bind fun v36 =>
      (gR h (some this) [11] 5).bind fun v41 =>
      (aI h v41 v36).bind fun v46 =>
      if v46 ≤ 0 then
        f_X11_letter_64 this (f_X11_letter_23 this n) h x3 v36 x2
      else
        (rcv h (some this) 11).bind fun a53 =>
        (f_X11_builtAt h a53 v36).bind fun v53 =>
        if v53 = x3 then
          f_X11_letter_65 this (f_X11_letter_23 this n) h x3 v36 (1 : Int32) x2
        else
          f_X11_letter_64 this (f_X11_letter_23 this n) h x3 v36 x2
set_option maxRecDepth 100000 in
set_option maxHeartbeats 4000000 in
theorem t_X11_letter_23 (G : Gx) (l : Launch) (this : Nat)  : ∀ (n : Nat) (h : Hp) (x2 : Int32) (x3 : Int32) (r : (Int32 × Hp)), f_X11_letter_23 this n h x2 x3 = some r → RJ G l M_X11_letter (some (vI r.1)) r.2 23 [(0, vR (some this)), (2, vI x2), (3, vI x3)] [] h := by
  intro n
  induction n with
  | zero =>
    intro h x2 x3 r hf
    rw [f_X11_letter_23] at hf
    cases hf
  | succ n ih =>
    intro h x2 x3 r hf
    rw [f_X11_letter_23] at hf
    refine r_iload_n 2 dX11_letter_23 rfl ?_
    refine r_aload_n 0 dX11_letter_24 rfl ?_
    obtain ⟨v25, e25, hf⟩ := ob hf
    refine r_get dX11_letter_25 fl_11_2 kw_4_57 (Or.inl rfl) (gI_sp e25) ?_
    refine r_icmp_ge (tgt := 80) dX11_letter_28 (by decide) (fun c28 => ?_) (fun c28 => ?_)
    · replace hf := (if_pos c28).symm.trans hf
      refine r_bipush (x := (-4 : Int32)) dX11_letter_80 (by decide) ?_
      have hf := Option.some.inj hf
      subst hf
      exact r_iret rfl dX11_letter_82
    · replace hf := (if_neg c28).symm.trans hf
      refine r_aload_n 0 dX11_letter_31 rfl ?_
      obtain ⟨v32, e32, hf⟩ := ob hf
      refine r_get dX11_letter_32 fl_11_3 kw_4_58 (Or.inl rfl) (gR_sp e32) ?_
      refine r_iload_n 2 dX11_letter_35 rfl ?_
      obtain ⟨v36, e36, hf⟩ := ob hf
      refine r_iaload dX11_letter_36 e36 ?_
      refine r_istore (lv' := [(4, vI v36), (0, vR (some this)), (2, vI x2), (3, vI x3)]) dX11_letter_37 (Nat.le_of_ble_eq_true rfl) rfl ?_
      refine r_iload_n 2 dX11_letter_39 rfl ?_
      refine r_aload_n 1 dX11_letter_40 rfl ?_
      obtain ⟨v41, e41, hf⟩ := ob hf
      refine r_get dX11_letter_41 fl_11_5 kw_4_60 (Or.inl rfl) (gR_sp e41) ?_
      refine r_iload 0 dX11_letter_44 rfl ?_
      obtain ⟨v46, e46, hf⟩ := ob hf
      refine r_iaload dX11_letter_46 e46 ?_
      refine r_if_le (tgt := 64) dX11_letter_47 (by decide) (fun c47 => ?_) (fun c47 => ?_)
      · replace hf := (if_pos c47).symm.trans hf
        exact r_sub [1, 3, 0] rfl (t_X11_letter_64 G l _ (f_X11_letter_23 this n) ih _ _ _ _ _ hf)
      · replace hf := (if_neg c47).symm.trans hf
        refine r_aload_n 1 dX11_letter_50 rfl ?_
        refine r_iload 0 dX11_letter_51 rfl ?_
        obtain ⟨a53, ea53, hf⟩ := ob hf
        obtain ⟨v53, e53, hf⟩ := ob hf
        refine r_callV (y := yX11_builtAt) (ci := 11) (avs := [vI v36]) dX11_letter_53 rfl kw_5_37 kw_5_39 kw_0_31 kw_1_5 kw_5_40 oky_X11_builtAt ⟨Nat.le_of_ble_eq_true rfl, Nat.le_of_ble_eq_true rfl⟩ rfl (Nat.le_of_ble_eq_true rfl) ea53 (k_X11_builtAt G l e53) ?_
        refine r_iload_n 3 dX11_letter_56 rfl ?_
        refine r_icmp_ne (tgt := 64) dX11_letter_57 (by decide) (fun c57 => ?_) (fun c57 => ?_)
        · replace hf := (if_pos c57).symm.trans hf
          refine r_iconst (x := (1 : Int32)) dX11_letter_60 (by decide) ?_
          refine r_goto (tgt := 65) dX11_letter_61 (by decide) ?_
          exact r_sub [1, 3, 0] rfl (t_X11_letter_65 G l _ (f_X11_letter_23 this n) ih _ _ _ _ _ _ hf)
        · replace hf := (if_neg c57).symm.trans hf
          exact r_sub [1, 3, 0] rfl (t_X11_letter_64 G l _ (f_X11_letter_23 this n) ih _ _ _ _ _ hf)
def f_X11_letter (h : Hp) (this : Nat) (x1 : Int32) : Option (Int32 × Hp) :=
    (pF h (some this) [11] 6 (vI (0 : Int32))).bind fun h2 =>
    (f_X11_in h2 x1.toInt64 (1 : Int64) (12 : Int64)).bind fun v11 =>
    if v11 = 0 then
      some ((-1 : Int32), h2)
    else
      f_X11_letter_23 this 10000 h2 x1 (0 : Int32)
set_option maxRecDepth 100000 in
set_option maxHeartbeats 4000000 in
theorem k_X11_letter (G : Gx) (l : Launch) {h : Hp} {this : Nat} {x1 : Int32} {r : (Int32 × Hp)} (hf : f_X11_letter h this x1 = some r) : KM l yX11_letter (.code yX11_letter cX11_letter 5 (some .int) :: wsK) 1 25 G [vR (some this), vI x1] h (some (vI r.1)) r.2 := by
  refine r_entry (ctor := false) (own := RX11) (by decide +kernel) rfl (fun q => by cases q) (Nat.le_of_ble_eq_true rfl) ?_
  show RJ G l M_X11_letter (some (vI r.1)) r.2 0 [(0, vR (some this)), (1, vI x1)] [] h
  unfold f_X11_letter at hf
  refine r_aload_n 0 dX11_letter_0 rfl ?_
  refine r_iconst (x := (0 : Int32)) dX11_letter_1 (by decide) ?_
  obtain ⟨h2, e2, hf⟩ := ob hf
  refine r_put dX11_letter_2 fl_11_6 kw_4_61 (Or.inl rfl) (by decide +kernel) (fit_int _) e2 ?_
  refine r_iload_n 1 dX11_letter_5 rfl ?_
  refine r_i2l dX11_letter_6 ?_
  refine r_lconst (x := (1 : Int64)) dX11_letter_7 (by decide) ?_
  refine r_ldc2 (x := (12 : Int64)) dX11_letter_8 kw_5_57 ?_
  obtain ⟨v11, e11, hf⟩ := ob hf
  refine r_callS (y := yX11_in) (avs := [vL x1.toInt64, vL (1 : Int64), vL (12 : Int64)]) dX11_letter_11 kw_4_179 kw_4_180 kw_1_5 kw_4_181 oky_X11_in ⟨Nat.le_of_ble_eq_true rfl, Nat.le_of_ble_eq_true rfl⟩ rfl (Nat.le_of_ble_eq_true rfl) (k_X11_in G l e11) ?_
  refine r_if_ne (tgt := 19) dX11_letter_14 (by decide) (fun c14 => ?_) (fun c14 => ?_)
  · replace hf := (if_pos c14).symm.trans hf
    refine r_iconst (x := (-1 : Int32)) dX11_letter_17 (by decide) ?_
    have hf := Option.some.inj hf
    subst hf
    exact r_iret rfl dX11_letter_18
  · replace hf := (if_neg c14).symm.trans hf
    refine r_iload_n 1 dX11_letter_19 rfl ?_
    refine r_istore_n (lv' := [(2, vI x1), (0, vR (some this)), (1, vI x1)]) dX11_letter_20 (Nat.le_of_ble_eq_true rfl) rfl ?_
    refine r_iconst (x := (0 : Int32)) dX11_letter_21 (by decide) ?_
    refine r_istore_n (lv' := [(3, vI (0 : Int32)), (2, vI x1), (0, vR (some this)), (1, vI x1)]) dX11_letter_22 (Nat.le_of_ble_eq_true rfl) rfl ?_
    exact r_sub [2, 1, 0] rfl (t_X11_letter_23 G l _ _ _ _ _ _ hf)
/-! ===== NumberedByAgeModel.narrowed(II)J ===== -/
abbrev M_X11_narrowed : Mx := (cX11_narrowed, 2, RX11, (false, []), (some .long), 0, 0)
def f_X11_narrowed (h : Hp) (x0 : Int32) (x1 : Int32) : Option Int64 :=
    if x1 = 0 then
      some x0.toInt8.toInt32.toInt64
    else
      if x1 = (1 : Int32) then
        some x0.toInt16.toInt32.toInt64
      else
        some x0.toInt64
set_option maxRecDepth 100000 in
set_option maxHeartbeats 4000000 in
theorem k_X11_narrowed (G : Gx) (l : Launch) {h : Hp} {x0 : Int32} {x1 : Int32} {r : Int64} (hf : f_X11_narrowed h x0 x1 = some r) : KM l yX11_narrowed (.code yX11_narrowed cX11_narrowed 2 (some .long) :: wsK) 0 0 G [vI x0, vI x1] h (some (vL r)) h := by
  refine r_entry (ctor := false) (own := RX11) (by decide +kernel) rfl (fun q => by cases q) (Nat.le_of_ble_eq_true rfl) ?_
  show RJ G l M_X11_narrowed (some (vL r)) h 0 [(0, vI x0), (1, vI x1)] [] h
  unfold f_X11_narrowed at hf
  refine r_iload_n 1 dX11_narrowed_0 rfl ?_
  refine r_if_ne (tgt := 10) dX11_narrowed_1 (by decide) (fun c1 => ?_) (fun c1 => ?_)
  · replace hf := (if_pos c1).symm.trans hf
    refine r_iload_n 0 dX11_narrowed_4 rfl ?_
    refine r_i2b dX11_narrowed_5 ?_
    refine r_i2l dX11_narrowed_6 ?_
    refine r_goto (tgt := 23) dX11_narrowed_7 (by decide) ?_
    have hf := Option.some.inj hf
    subst hf
    exact r_lret rfl dX11_narrowed_23
  · replace hf := (if_neg c1).symm.trans hf
    refine r_iload_n 1 dX11_narrowed_10 rfl ?_
    refine r_iconst (x := (1 : Int32)) dX11_narrowed_11 (by decide) ?_
    refine r_icmp_ne (tgt := 21) dX11_narrowed_12 (by decide) (fun c12 => ?_) (fun c12 => ?_)
    · replace hf := (if_pos c12).symm.trans hf
      refine r_iload_n 0 dX11_narrowed_15 rfl ?_
      refine r_i2s dX11_narrowed_16 ?_
      refine r_i2l dX11_narrowed_17 ?_
      refine r_goto (tgt := 23) dX11_narrowed_18 (by decide) ?_
      have hf := Option.some.inj hf
      subst hf
      exact r_lret rfl dX11_narrowed_23
    · replace hf := (if_neg c12).symm.trans hf
      refine r_iload_n 0 dX11_narrowed_21 rfl ?_
      refine r_i2l dX11_narrowed_22 ?_
      have hf := Option.some.inj hf
      subst hf
      exact r_lret rfl dX11_narrowed_23
/-! ===== NumberedByAgeModel.nextOrder(I)Z ===== -/
abbrev M_X11_nextOrder : Mx := (cX11_nextOrder, 7, RX11, (false, []), (some .boolean), 0, 0)
def f_X11_nextOrder_100 (this : Nat) : Nat → Hp → Int32 → Int32 → Option (Int32 × Hp)
  | 0, _, _, _ => none
  | n + 1, h, x5, x6 =>
    if x6 ≤ x5 then
      (okZ (1 : Int32)).bind fun z149 => some (z149, h)
    else
      (gR h (some this) [11] 26).bind fun v108 =>
      (aI h v108 x5).bind fun v113 =>
      (gR h (some this) [11] 26).bind fun v117 =>
      (gR h (some this) [11] 26).bind fun v123 =>
      (aI h v123 x6).bind fun v128 =>
      (wI h v117 x5 v128).bind fun h129 =>
      (gR h129 (some this) [11] 26).bind fun v131 =>
      (wI h129 v131 x6 v113).bind fun h138 =>
      (f_X11_nextOrder_100 this n) h138 (x5 + 1) (x6 + (-1))
set_option maxRecDepth 100000 in
set_option maxHeartbeats 4000000 in
theorem t_X11_nextOrder_100 (G : Gx) (l : Launch) (this : Nat)  : ∀ (n : Nat) (h : Hp) (x5 : Int32) (x6 : Int32) (r : (Int32 × Hp)), f_X11_nextOrder_100 this n h x5 x6 = some r → RJ G l M_X11_nextOrder (some (vI r.1)) r.2 100 [(0, vR (some this)), (5, vI x5), (6, vI x6)] [] h := by
  intro n
  induction n with
  | zero =>
    intro h x5 x6 r hf
    rw [f_X11_nextOrder_100] at hf
    cases hf
  | succ n ih =>
    intro h x5 x6 r hf
    rw [f_X11_nextOrder_100] at hf
    refine r_iload 1 dX11_nextOrder_100 rfl ?_
    refine r_iload 2 dX11_nextOrder_102 rfl ?_
    refine r_icmp_ge (tgt := 148) dX11_nextOrder_104 (by decide) (fun c104 => ?_) (fun c104 => ?_)
    · replace hf := (if_pos c104).symm.trans hf
      refine r_iconst (x := (1 : Int32)) dX11_nextOrder_148 (by decide) ?_
      obtain ⟨z149, ez149, hf⟩ := ob hf
      have hf := Option.some.inj hf
      subst hf
      exact r_zret rfl dX11_nextOrder_149 ez149
    · replace hf := (if_neg c104).symm.trans hf
      refine r_aload_n 0 dX11_nextOrder_107 rfl ?_
      obtain ⟨v108, e108, hf⟩ := ob hf
      refine r_get dX11_nextOrder_108 fl_11_26 kw_4_81 (Or.inl rfl) (gR_sp e108) ?_
      refine r_iload 1 dX11_nextOrder_111 rfl ?_
      obtain ⟨v113, e113, hf⟩ := ob hf
      refine r_iaload dX11_nextOrder_113 e113 ?_
      refine r_istore (lv' := [(4, vI v113), (0, vR (some this)), (5, vI x5), (6, vI x6)]) dX11_nextOrder_114 (Nat.le_of_ble_eq_true rfl) rfl ?_
      refine r_aload_n 1 dX11_nextOrder_116 rfl ?_
      obtain ⟨v117, e117, hf⟩ := ob hf
      refine r_get dX11_nextOrder_117 fl_11_26 kw_4_81 (Or.inl rfl) (gR_sp e117) ?_
      refine r_iload 2 dX11_nextOrder_120 rfl ?_
      refine r_aload_n 1 dX11_nextOrder_122 rfl ?_
      obtain ⟨v123, e123, hf⟩ := ob hf
      refine r_get dX11_nextOrder_123 fl_11_26 kw_4_81 (Or.inl rfl) (gR_sp e123) ?_
      refine r_iload 3 dX11_nextOrder_126 rfl ?_
      obtain ⟨v128, e128, hf⟩ := ob hf
      refine r_iaload dX11_nextOrder_128 e128 ?_
      obtain ⟨h129, e129, hf⟩ := ob hf
      refine r_iastore dX11_nextOrder_129 e129 ?_
      refine r_pc (pc' := 130) rfl ?_
      refine r_aload_n 1 dX11_nextOrder_130 rfl ?_
      obtain ⟨v131, e131, hf⟩ := ob hf
      refine r_get dX11_nextOrder_131 fl_11_26 kw_4_81 (Or.inl rfl) (gR_sp e131) ?_
      refine r_iload 3 dX11_nextOrder_134 rfl ?_
      refine r_iload 0 dX11_nextOrder_136 rfl ?_
      obtain ⟨h138, e138, hf⟩ := ob hf
      refine r_iastore dX11_nextOrder_138 e138 ?_
      refine r_iinc (y := (x5 + 1)) (lv' := [(5, vI (x5 + 1)), (4, vI v113), (0, vR (some this)), (6, vI x6)]) 2 dX11_nextOrder_139 rfl rfl (Nat.le_of_ble_eq_true rfl) rfl ?_
      refine r_iinc (y := (x6 + (-1))) (lv' := [(6, vI (x6 + (-1))), (5, vI (x5 + 1)), (4, vI v113), (0, vR (some this))]) 3 dX11_nextOrder_142 rfl rfl (Nat.le_of_ble_eq_true rfl) rfl ?_
      refine r_goto (tgt := 100) dX11_nextOrder_145 (by decide) ?_
      exact r_sub [3, 1, 0] rfl (ih _ _ _ _ hf)
def f_X11_nextOrder_41 (this : Nat) : Nat → Hp → Int32 → Int32 → Int32 → Option (Int32 × Hp)
  | 0, _, _, _, _ => none
  | n + 1, h, x1, x2, x3 =>
    (gR h (some this) [11] 26).bind fun v42 =>
    (aI h v42 x3).bind fun v46 =>
    (gR h (some this) [11] 26).bind fun v48 =>
    (aI h v48 x2).bind fun v52 =>
    if v52 ≤ v46 then
      (gR h (some this) [11] 26).bind fun v63 =>
      (aI h v63 x2).bind fun v67 =>
      (gR h (some this) [11] 26).bind fun v71 =>
      (gR h (some this) [11] 26).bind fun v76 =>
      (aI h v76 x3).bind fun v80 =>
      (wI h v71 x2 v80).bind fun h81 =>
      (gR h81 (some this) [11] 26).bind fun v83 =>
      (wI h81 v83 x3 v67).bind fun h89 =>
      f_X11_nextOrder_100 this 10000 h89 (x2 + (1 : Int32)) (x1 - (1 : Int32))
    else
      (f_X11_nextOrder_41 this n) h x1 x2 (x3 + (-1))
set_option maxRecDepth 100000 in
set_option maxHeartbeats 4000000 in
theorem t_X11_nextOrder_41 (G : Gx) (l : Launch) (this : Nat)  : ∀ (n : Nat) (h : Hp) (x1 : Int32) (x2 : Int32) (x3 : Int32) (r : (Int32 × Hp)), f_X11_nextOrder_41 this n h x1 x2 x3 = some r → RJ G l M_X11_nextOrder (some (vI r.1)) r.2 41 [(0, vR (some this)), (1, vI x1), (2, vI x2), (3, vI x3)] [] h := by
  intro n
  induction n with
  | zero =>
    intro h x1 x2 x3 r hf
    rw [f_X11_nextOrder_41] at hf
    cases hf
  | succ n ih =>
    intro h x1 x2 x3 r hf
    rw [f_X11_nextOrder_41] at hf
    refine r_aload_n 0 dX11_nextOrder_41 rfl ?_
    obtain ⟨v42, e42, hf⟩ := ob hf
    refine r_get dX11_nextOrder_42 fl_11_26 kw_4_81 (Or.inl rfl) (gR_sp e42) ?_
    refine r_iload_n 3 dX11_nextOrder_45 rfl ?_
    obtain ⟨v46, e46, hf⟩ := ob hf
    refine r_iaload dX11_nextOrder_46 e46 ?_
    refine r_aload_n 0 dX11_nextOrder_47 rfl ?_
    obtain ⟨v48, e48, hf⟩ := ob hf
    refine r_get dX11_nextOrder_48 fl_11_26 kw_4_81 (Or.inl rfl) (gR_sp e48) ?_
    refine r_iload_n 2 dX11_nextOrder_51 rfl ?_
    obtain ⟨v52, e52, hf⟩ := ob hf
    refine r_iaload dX11_nextOrder_52 e52 ?_
    refine r_icmp_ge (tgt := 62) dX11_nextOrder_53 (by decide) (fun c53 => ?_) (fun c53 => ?_)
    · replace hf := (if_pos c53).symm.trans hf
      refine r_aload_n 0 dX11_nextOrder_62 rfl ?_
      obtain ⟨v63, e63, hf⟩ := ob hf
      refine r_get dX11_nextOrder_63 fl_11_26 kw_4_81 (Or.inl rfl) (gR_sp e63) ?_
      refine r_iload_n 2 dX11_nextOrder_66 rfl ?_
      obtain ⟨v67, e67, hf⟩ := ob hf
      refine r_iaload dX11_nextOrder_67 e67 ?_
      refine r_istore (lv' := [(4, vI v67), (0, vR (some this)), (1, vI x1), (2, vI x2), (3, vI x3)]) dX11_nextOrder_68 (Nat.le_of_ble_eq_true rfl) rfl ?_
      refine r_aload_n 1 dX11_nextOrder_70 rfl ?_
      obtain ⟨v71, e71, hf⟩ := ob hf
      refine r_get dX11_nextOrder_71 fl_11_26 kw_4_81 (Or.inl rfl) (gR_sp e71) ?_
      refine r_iload_n 3 dX11_nextOrder_74 rfl ?_
      refine r_aload_n 1 dX11_nextOrder_75 rfl ?_
      obtain ⟨v76, e76, hf⟩ := ob hf
      refine r_get dX11_nextOrder_76 fl_11_26 kw_4_81 (Or.inl rfl) (gR_sp e76) ?_
      refine r_iload_n 4 dX11_nextOrder_79 rfl ?_
      obtain ⟨v80, e80, hf⟩ := ob hf
      refine r_iaload dX11_nextOrder_80 e80 ?_
      obtain ⟨h81, e81, hf⟩ := ob hf
      refine r_iastore dX11_nextOrder_81 e81 ?_
      refine r_pc (pc' := 82) rfl ?_
      refine r_aload_n 1 dX11_nextOrder_82 rfl ?_
      obtain ⟨v83, e83, hf⟩ := ob hf
      refine r_get dX11_nextOrder_83 fl_11_26 kw_4_81 (Or.inl rfl) (gR_sp e83) ?_
      refine r_iload_n 4 dX11_nextOrder_86 rfl ?_
      refine r_iload 0 dX11_nextOrder_87 rfl ?_
      obtain ⟨h89, e89, hf⟩ := ob hf
      refine r_iastore dX11_nextOrder_89 e89 ?_
      refine r_iload_n 3 dX11_nextOrder_90 rfl ?_
      refine r_iconst (x := (1 : Int32)) dX11_nextOrder_91 (by decide) ?_
      refine r_iadd dX11_nextOrder_92 ?_
      refine r_istore (lv' := [(5, vI (x2 + (1 : Int32))), (4, vI v67), (0, vR (some this)), (1, vI x1), (2, vI x2), (3, vI x3)]) dX11_nextOrder_93 (Nat.le_of_ble_eq_true rfl) rfl ?_
      refine r_iload_n 3 dX11_nextOrder_95 rfl ?_
      refine r_iconst (x := (1 : Int32)) dX11_nextOrder_96 (by decide) ?_
      refine r_isub dX11_nextOrder_97 ?_
      refine r_istore (lv' := [(6, vI (x1 - (1 : Int32))), (5, vI (x2 + (1 : Int32))), (4, vI v67), (0, vR (some this)), (1, vI x1), (2, vI x2), (3, vI x3)]) dX11_nextOrder_98 (Nat.le_of_ble_eq_true rfl) rfl ?_
      exact r_sub [3, 1, 0] rfl (t_X11_nextOrder_100 G l _ _ _ _ _ _ hf)
    · replace hf := (if_neg c53).symm.trans hf
      refine r_iinc (y := (x3 + (-1))) (lv' := [(3, vI (x3 + (-1))), (0, vR (some this)), (1, vI x1), (2, vI x2)]) 3 dX11_nextOrder_56 rfl rfl (Nat.le_of_ble_eq_true rfl) rfl ?_
      refine r_goto (tgt := 41) dX11_nextOrder_59 (by decide) ?_
      exact r_sub [1, 2, 3, 0] rfl (ih _ _ _ _ _ hf)
def f_X11_nextOrder_31 (this : Nat) (h : Hp) (x1 : Int32) (x2 : Int32) : Option (Int32 × Hp) :=
    if 0 ≤ x2 then
      f_X11_nextOrder_41 this 10000 h x1 x2 (x1 - (1 : Int32))
    else
      (okZ (0 : Int32)).bind fun z36 => some (z36, h)
set_option maxRecDepth 100000 in
set_option maxHeartbeats 4000000 in
theorem t_X11_nextOrder_31 (G : Gx) (l : Launch) (this : Nat)  (h : Hp) (x1 : Int32) (x2 : Int32) (r : (Int32 × Hp)) (hf : f_X11_nextOrder_31 this h x1 x2 = some r) : RJ G l M_X11_nextOrder (some (vI r.1)) r.2 31 [(0, vR (some this)), (1, vI x1), (2, vI x2)] [] h := by
  unfold f_X11_nextOrder_31 at hf
  refine r_iload_n 2 dX11_nextOrder_31 rfl ?_
  refine r_if_ge (tgt := 37) dX11_nextOrder_32 (by decide) (fun c32 => ?_) (fun c32 => ?_)
  · replace hf := (if_pos c32).symm.trans hf
    refine r_iload_n 1 dX11_nextOrder_37 rfl ?_
    refine r_iconst (x := (1 : Int32)) dX11_nextOrder_38 (by decide) ?_
    refine r_isub dX11_nextOrder_39 ?_
    refine r_istore_n (lv' := [(3, vI (x1 - (1 : Int32))), (0, vR (some this)), (1, vI x1), (2, vI x2)]) dX11_nextOrder_40 (Nat.le_of_ble_eq_true rfl) rfl ?_
    exact r_sub [1, 2, 3, 0] rfl (t_X11_nextOrder_41 G l _ _ _ _ _ _ _ hf)
  · replace hf := (if_neg c32).symm.trans hf
    refine r_iconst (x := (0 : Int32)) dX11_nextOrder_35 (by decide) ?_
    obtain ⟨z36, ez36, hf⟩ := ob hf
    have hf := Option.some.inj hf
    subst hf
    exact r_zret rfl dX11_nextOrder_36 ez36
def f_X11_nextOrder_4 (this : Nat) : Nat → Hp → Int32 → Int32 → Option (Int32 × Hp)
  | 0, _, _, _ => none
  | n + 1, h, x1, x2 =>
    if x2 < 0 then
      f_X11_nextOrder_31 this h x1 x2
    else
      (gR h (some this) [11] 26).bind fun v9 =>
      (aI h v9 x2).bind fun v13 =>
      (gR h (some this) [11] 26).bind fun v15 =>
      (aI h v15 (x2 + (1 : Int32))).bind fun v21 =>
      if v13 ≤ v21 then
        f_X11_nextOrder_31 this h x1 x2
      else
        (f_X11_nextOrder_4 this n) h x1 (x2 + (-1))
set_option maxRecDepth 100000 in
set_option maxHeartbeats 4000000 in
theorem t_X11_nextOrder_4 (G : Gx) (l : Launch) (this : Nat)  : ∀ (n : Nat) (h : Hp) (x1 : Int32) (x2 : Int32) (r : (Int32 × Hp)), f_X11_nextOrder_4 this n h x1 x2 = some r → RJ G l M_X11_nextOrder (some (vI r.1)) r.2 4 [(0, vR (some this)), (1, vI x1), (2, vI x2)] [] h := by
  intro n
  induction n with
  | zero =>
    intro h x1 x2 r hf
    rw [f_X11_nextOrder_4] at hf
    cases hf
  | succ n ih =>
    intro h x1 x2 r hf
    rw [f_X11_nextOrder_4] at hf
    refine r_iload_n 2 dX11_nextOrder_4 rfl ?_
    refine r_if_lt (tgt := 31) dX11_nextOrder_5 (by decide) (fun c5 => ?_) (fun c5 => ?_)
    · replace hf := (if_pos c5).symm.trans hf
      exact r_sub [0, 1, 2] rfl (t_X11_nextOrder_31 G l _ _ _ _ _ hf)
    · replace hf := (if_neg c5).symm.trans hf
      refine r_aload_n 0 dX11_nextOrder_8 rfl ?_
      obtain ⟨v9, e9, hf⟩ := ob hf
      refine r_get dX11_nextOrder_9 fl_11_26 kw_4_81 (Or.inl rfl) (gR_sp e9) ?_
      refine r_iload_n 2 dX11_nextOrder_12 rfl ?_
      obtain ⟨v13, e13, hf⟩ := ob hf
      refine r_iaload dX11_nextOrder_13 e13 ?_
      refine r_aload_n 0 dX11_nextOrder_14 rfl ?_
      obtain ⟨v15, e15, hf⟩ := ob hf
      refine r_get dX11_nextOrder_15 fl_11_26 kw_4_81 (Or.inl rfl) (gR_sp e15) ?_
      refine r_iload_n 2 dX11_nextOrder_18 rfl ?_
      refine r_iconst (x := (1 : Int32)) dX11_nextOrder_19 (by decide) ?_
      refine r_iadd dX11_nextOrder_20 ?_
      obtain ⟨v21, e21, hf⟩ := ob hf
      refine r_iaload dX11_nextOrder_21 e21 ?_
      refine r_icmp_le (tgt := 31) dX11_nextOrder_22 (by decide) (fun c22 => ?_) (fun c22 => ?_)
      · replace hf := (if_pos c22).symm.trans hf
        exact r_sub [0, 1, 2] rfl (t_X11_nextOrder_31 G l _ _ _ _ _ hf)
      · replace hf := (if_neg c22).symm.trans hf
        refine r_iinc (y := (x2 + (-1))) (lv' := [(2, vI (x2 + (-1))), (0, vR (some this)), (1, vI x1)]) 2 dX11_nextOrder_25 rfl rfl (Nat.le_of_ble_eq_true rfl) rfl ?_
        refine r_goto (tgt := 4) dX11_nextOrder_28 (by decide) ?_
        exact r_sub [1, 2, 0] rfl (ih _ _ _ _ hf)
def f_X11_nextOrder (h : Hp) (this : Nat) (x1 : Int32) : Option (Int32 × Hp) :=
    f_X11_nextOrder_4 this 10000 h x1 (x1 - (2 : Int32))
set_option maxRecDepth 100000 in
set_option maxHeartbeats 4000000 in
theorem k_X11_nextOrder (G : Gx) (l : Launch) {h : Hp} {this : Nat} {x1 : Int32} {r : (Int32 × Hp)} (hf : f_X11_nextOrder h this x1 = some r) : KM l yX11_nextOrder (.code yX11_nextOrder cX11_nextOrder 7 (some .boolean) :: wsK) 0 0 G [vR (some this), vI x1] h (some (vI r.1)) r.2 := by
  refine r_entry (ctor := false) (own := RX11) (by decide +kernel) rfl (fun q => by cases q) (Nat.le_of_ble_eq_true rfl) ?_
  show RJ G l M_X11_nextOrder (some (vI r.1)) r.2 0 [(0, vR (some this)), (1, vI x1)] [] h
  unfold f_X11_nextOrder at hf
  refine r_iload_n 1 dX11_nextOrder_0 rfl ?_
  refine r_iconst (x := (2 : Int32)) dX11_nextOrder_1 (by decide) ?_
  refine r_isub dX11_nextOrder_2 ?_
  refine r_istore_n (lv' := [(2, vI (x1 - (2 : Int32))), (0, vR (some this)), (1, vI x1)]) dX11_nextOrder_3 (Nat.le_of_ble_eq_true rfl) rfl ?_
  exact r_sub [1, 2, 0] rfl (t_X11_nextOrder_4 G l _ _ _ _ _ _ hf)
