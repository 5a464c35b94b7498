/-! ===== NumberedByAgeModel.toss(I)I ===== -/
abbrev M_X11_toss : Mx := (cX11_toss, 4, RX11, (false, []), (some .int), 2, 46)
def f_X11_toss (h : Hp) (this : Nat) (x1 : Int32) : Option (Int32 × Hp) :=
    (pF h (some this) [11] 6 (vI (0 : Int32))).bind fun h2 =>
    (rcv h2 (some this) 11).bind fun a7 =>
    (f_X11_wrongLaw h2 a7 x1).bind fun v7 =>
    if 0 ≤ v7 then
      (gR h2 (some this) [11] 29).bind fun v20 =>
      (aI h2 v20 x1).bind fun v24 =>
      (gR h2 (some this) [11] 30).bind fun v27 =>
      (aI h2 v27 x1).bind fun v31 =>
      if v24 = (4 : Int32) then
        some ((-15 : Int32), h2)
      else
        if v31 = 0 then
          some ((-15 : Int32), h2)
        else
          if v24 = (7 : Int32) then
            some (((100 : Int32) + v31), h2)
          else
            if v24 = (6 : Int32) then
              (f_X11_taxOf h2 v24 v31).bind fun v69 =>
              some (((200 : Int32) + v69), h2)
            else
              some (v31, h2)
    else
      (rcv h2 (some this) 11).bind fun a15 =>
      (f_X11_wrongLaw h2 a15 x1).bind fun v15 =>
      some (v15, h2)
set_option maxRecDepth 100000 in
set_option maxHeartbeats 4000000 in
theorem k_X11_toss (G : Gx) (l : Launch) {h : Hp} {this : Nat} {x1 : Int32} {r : (Int32 × Hp)} (hf : f_X11_toss h this x1 = some r) : KM l yX11_toss (.code yX11_toss cX11_toss 4 (some .int) :: wsK) 2 46 G [vR (some this), vI x1] h (some (vI r.1)) r.2 := by
  refine r_entry (ctor := false) (own := RX11) (by decide +kernel) rfl (fun q => by cases q) (Nat.le_of_ble_eq_true rfl) ?_
  show RJ G l M_X11_toss (some (vI r.1)) r.2 0 [(0, vR (some this)), (1, vI x1)] [] h
  unfold f_X11_toss at hf
  refine r_aload_n 0 dX11_toss_0 rfl ?_
  refine r_iconst (x := (0 : Int32)) dX11_toss_1 (by decide) ?_
  obtain ⟨h2, e2, hf⟩ := ob hf
  refine r_put dX11_toss_2 fl_11_6 kw_4_61 (Or.inl rfl) (by decide +kernel) (fit_int _) e2 ?_
  refine r_aload_n 0 dX11_toss_5 rfl ?_
  refine r_iload_n 1 dX11_toss_6 rfl ?_
  obtain ⟨a7, ea7, hf⟩ := ob hf
  obtain ⟨v7, e7, hf⟩ := ob hf
  refine r_callV (y := yX11_wrongLaw) (ci := 11) (avs := [vI x1]) dX11_toss_7 rfl kw_5_28 kw_5_30 kw_0_30 kw_1_5 kw_5_31 oky_X11_wrongLaw ⟨Nat.le_of_ble_eq_true rfl, Nat.le_of_ble_eq_true rfl⟩ rfl (Nat.le_of_ble_eq_true rfl) ea7 (k_X11_wrongLaw G l e7) ?_
  refine r_if_ge (tgt := 19) dX11_toss_10 (by decide) (fun c10 => ?_) (fun c10 => ?_)
  · replace hf := (if_pos c10).symm.trans hf
    refine r_aload_n 0 dX11_toss_19 rfl ?_
    obtain ⟨v20, e20, hf⟩ := ob hf
    refine r_get dX11_toss_20 fl_11_29 kw_4_84 (Or.inl rfl) (gR_sp e20) ?_
    refine r_iload_n 1 dX11_toss_23 rfl ?_
    obtain ⟨v24, e24, hf⟩ := ob hf
    refine r_iaload dX11_toss_24 e24 ?_
    refine r_istore_n (lv' := [(2, vI v24), (0, vR (some this)), (1, vI x1)]) dX11_toss_25 (Nat.le_of_ble_eq_true rfl) rfl ?_
    refine r_aload_n 1 dX11_toss_26 rfl ?_
    obtain ⟨v27, e27, hf⟩ := ob hf
    refine r_get dX11_toss_27 fl_11_30 kw_4_85 (Or.inl rfl) (gR_sp e27) ?_
    refine r_iload_n 2 dX11_toss_30 rfl ?_
    obtain ⟨v31, e31, hf⟩ := ob hf
    refine r_iaload dX11_toss_31 e31 ?_
    refine r_istore_n (lv' := [(3, vI v31), (2, vI v24), (0, vR (some this)), (1, vI x1)]) dX11_toss_32 (Nat.le_of_ble_eq_true rfl) rfl ?_
    refine r_iload_n 1 dX11_toss_33 rfl ?_
    refine r_iconst (x := (4 : Int32)) dX11_toss_34 (by decide) ?_
    refine r_icmp_eq (tgt := 42) dX11_toss_35 (by decide) (fun c35 => ?_) (fun c35 => ?_)
    · replace hf := (if_pos c35).symm.trans hf
      refine r_bipush (x := (-15 : Int32)) dX11_toss_42 (by decide) ?_
      have hf := Option.some.inj hf
      subst hf
      exact r_iret rfl dX11_toss_44
    · replace hf := (if_neg c35).symm.trans hf
      refine r_iload_n 0 dX11_toss_38 rfl ?_
      refine r_if_ne (tgt := 45) dX11_toss_39 (by decide) (fun c39 => ?_) (fun c39 => ?_)
      · replace hf := (if_pos c39).symm.trans hf
        refine r_bipush (x := (-15 : Int32)) dX11_toss_42 (by decide) ?_
        have hf := Option.some.inj hf
        subst hf
        exact r_iret rfl dX11_toss_44
      · replace hf := (if_neg c39).symm.trans hf
        refine r_iload_n 1 dX11_toss_45 rfl ?_
        refine r_bipush (x := (7 : Int32)) dX11_toss_46 (by decide) ?_
        refine r_icmp_ne (tgt := 58) dX11_toss_48 (by decide) (fun c48 => ?_) (fun c48 => ?_)
        · replace hf := (if_pos c48).symm.trans hf
          refine r_bipush (x := (100 : Int32)) dX11_toss_51 (by decide) ?_
          refine r_iload_n 0 dX11_toss_53 rfl ?_
          refine r_iadd dX11_toss_54 ?_
          refine r_goto (tgt := 77) dX11_toss_55 (by decide) ?_
          have hf := Option.some.inj hf
          subst hf
          exact r_iret rfl dX11_toss_77
        · replace hf := (if_neg c48).symm.trans hf
          refine r_iload_n 1 dX11_toss_58 rfl ?_
          refine r_bipush (x := (6 : Int32)) dX11_toss_59 (by decide) ?_
          refine r_icmp_ne (tgt := 76) dX11_toss_61 (by decide) (fun c61 => ?_) (fun c61 => ?_)
          · replace hf := (if_pos c61).symm.trans hf
            refine r_sipush (x := (200 : Int32)) dX11_toss_64 (by decide) ?_
            refine r_iload_n 1 dX11_toss_67 rfl ?_
            refine r_iload_n 0 dX11_toss_68 rfl ?_
            obtain ⟨v69, e69, hf⟩ := ob hf
            refine r_callS (y := yX11_taxOf) (avs := [vI v24, vI v31]) dX11_toss_69 kw_5_189 kw_5_190 kw_1_5 kw_5_191 oky_X11_taxOf ⟨Nat.le_of_ble_eq_true rfl, Nat.le_of_ble_eq_true rfl⟩ rfl (Nat.le_of_ble_eq_true rfl) (k_X11_taxOf G l e69) ?_
            refine r_iadd dX11_toss_72 ?_
            refine r_goto (tgt := 77) dX11_toss_73 (by decide) ?_
            have hf := Option.some.inj hf
            subst hf
            exact r_iret rfl dX11_toss_77
          · replace hf := (if_neg c61).symm.trans hf
            refine r_iload_n 0 dX11_toss_76 rfl ?_
            have hf := Option.some.inj hf
            subst hf
            exact r_iret rfl dX11_toss_77
  · replace hf := (if_neg c10).symm.trans hf
    refine r_aload_n 0 dX11_toss_13 rfl ?_
    refine r_iload_n 1 dX11_toss_14 rfl ?_
    obtain ⟨a15, ea15, hf⟩ := ob hf
    obtain ⟨v15, e15, hf⟩ := ob hf
    refine r_callV (y := yX11_wrongLaw) (ci := 11) (avs := [vI x1]) dX11_toss_15 rfl kw_5_28 kw_5_30 kw_0_30 kw_1_5 kw_5_31 oky_X11_wrongLaw ⟨Nat.le_of_ble_eq_true rfl, Nat.le_of_ble_eq_true rfl⟩ rfl (Nat.le_of_ble_eq_true rfl) ea15 (k_X11_wrongLaw G l e15) ?_
    have hf := Option.some.inj hf
    subst hf
    exact r_iret rfl dX11_toss_18
/-! ===== NumberedByAgeModel.walk(II)I ===== -/
abbrev M_X11_walk : Mx := (cX11_walk, 9, RX11, (false, []), (some .int), 3, 68)
def f_X11_walk_117 (this : Nat) (k36 : Hp → Int32 → Int32 → Int32 → Int32 → Option (Int32 × Hp)) (k45 : Hp → Int32 → Int32 → Int32 → Int32 → Int32 → Option (Int32 × Hp)) (h : Hp) (x1 : Int32) (x2 : Int32) (x5 : Int32) (x6 : Int32) (s0 : Int32) : Option (Int32 × Hp) :=
    k45 h x1 x2 s0 x5 (x6 + 1)
set_option maxRecDepth 100000 in
set_option maxHeartbeats 4000000 in
theorem t_X11_walk_117 (G : Gx) (l : Launch) (this : Nat) (k36 : Hp → Int32 → Int32 → Int32 → Int32 → Option (Int32 × Hp)) (hk36 : ∀ (h : Hp) (x1 : Int32) (x2 : Int32) (x4 : Int32) (x5 : Int32) (r : (Int32 × Hp)), k36 h x1 x2 x4 x5 = some r → RJ G l M_X11_walk (some (vI r.1)) r.2 36 [(0, vR (some this)), (1, vI x1), (2, vI x2), (4, vI x4), (5, vI x5)] [] h) (k45 : Hp → Int32 → Int32 → Int32 → Int32 → Int32 → Option (Int32 × Hp)) (hk45 : ∀ (h : Hp) (x1 : Int32) (x2 : Int32) (x4 : Int32) (x5 : Int32) (x6 : Int32) (r : (Int32 × Hp)), k45 h x1 x2 x4 x5 x6 = some r → RJ G l M_X11_walk (some (vI r.1)) r.2 45 [(0, vR (some this)), (1, vI x1), (2, vI x2), (4, vI x4), (5, vI x5), (6, vI x6)] [] h) (h : Hp) (x1 : Int32) (x2 : Int32) (x5 : Int32) (x6 : Int32) (s0 : Int32) (r : (Int32 × Hp)) (hf : f_X11_walk_117 this k36 k45 h x1 x2 x5 x6 s0 = some r) : RJ G l M_X11_walk (some (vI r.1)) r.2 117 [(0, vR (some this)), (1, vI x1), (2, vI x2), (5, vI x5), (6, vI x6)] [vI s0] h := by
  unfold f_X11_walk_117 at hf
  refine r_istore (lv' := [(4, vI s0), (0, vR (some this)), (1, vI x1), (2, vI x2), (5, vI x5), (6, vI x6)]) dX11_walk_117 (Nat.le_of_ble_eq_true rfl) rfl ?_
  refine r_iinc (y := (x6 + 1)) (lv' := [(6, vI (x6 + 1)), (4, vI s0), (0, vR (some this)), (1, vI x1), (2, vI x2), (5, vI x5)]) 5 dX11_walk_119 rfl rfl (Nat.le_of_ble_eq_true rfl) rfl ?_
  refine r_goto (tgt := 45) dX11_walk_122 (by decide) ?_
  exact r_sub [2, 3, 4, 1, 5, 0] rfl (hk45 _ _ _ _ _ _ _ hf)
def f_X11_walk_110 (this : Nat) (k36 : Hp → Int32 → Int32 → Int32 → Int32 → Option (Int32 × Hp)) (k45 : Hp → Int32 → Int32 → Int32 → Int32 → Int32 → Option (Int32 × Hp)) (h : Hp) (x1 : Int32) (x2 : Int32) (x5 : Int32) (x6 : Int32) (x8 : Int32) : Option (Int32 × Hp) :=
    f_X11_walk_117 this k36 k45 h x1 x2 x5 x6 x8
set_option maxRecDepth 100000 in
set_option maxHeartbeats 4000000 in
theorem t_X11_walk_110 (G : Gx) (l : Launch) (this : Nat) (k36 : Hp → Int32 → Int32 → Int32 → Int32 → Option (Int32 × Hp)) (hk36 : ∀ (h : Hp) (x1 : Int32) (x2 : Int32) (x4 : Int32) (x5 : Int32) (r : (Int32 × Hp)), k36 h x1 x2 x4 x5 = some r → RJ G l M_X11_walk (some (vI r.1)) r.2 36 [(0, vR (some this)), (1, vI x1), (2, vI x2), (4, vI x4), (5, vI x5)] [] h) (k45 : Hp → Int32 → Int32 → Int32 → Int32 → Int32 → Option (Int32 × Hp)) (hk45 : ∀ (h : Hp) (x1 : Int32) (x2 : Int32) (x4 : Int32) (x5 : Int32) (x6 : Int32) (r : (Int32 × Hp)), k45 h x1 x2 x4 x5 x6 = some r → RJ G l M_X11_walk (some (vI r.1)) r.2 45 [(0, vR (some this)), (1, vI x1), (2, vI x2), (4, vI x4), (5, vI x5), (6, vI x6)] [] h) (h : Hp) (x1 : Int32) (x2 : Int32) (x5 : Int32) (x6 : Int32) (x8 : Int32) (r : (Int32 × Hp)) (hf : f_X11_walk_110 this k36 k45 h x1 x2 x5 x6 x8 = some r) : RJ G l M_X11_walk (some (vI r.1)) r.2 110 [(0, vR (some this)), (1, vI x1), (2, vI x2), (5, vI x5), (6, vI x6), (8, vI x8)] [] h := by
  unfold f_X11_walk_110 at hf
  refine r_iload 5 dX11_walk_110 rfl ?_
  refine r_goto (tgt := 117) dX11_walk_112 (by decide) ?_
  exact r_sub [0, 1, 2, 3, 4] rfl (t_X11_walk_117 G l _ k36 hk36 k45 hk45 _ _ _ _ _ _ _ hf)
def f_X11_walk_115 (this : Nat) (k36 : Hp → Int32 → Int32 → Int32 → Int32 → Option (Int32 × Hp)) (k45 : Hp → Int32 → Int32 → Int32 → Int32 → Int32 → Option (Int32 × Hp)) (h : Hp) (x1 : Int32) (x2 : Int32) (x4 : Int32) (x5 : Int32) (x6 : Int32) : Option (Int32 × Hp) :=
    f_X11_walk_117 this k36 k45 h x1 x2 x5 x6 x4
set_option maxRecDepth 100000 in
set_option maxHeartbeats 4000000 in
theorem t_X11_walk_115 (G : Gx) (l : Launch) (this : Nat) (k36 : Hp → Int32 → Int32 → Int32 → Int32 → Option (Int32 × Hp)) (hk36 : ∀ (h : Hp) (x1 : Int32) (x2 : Int32) (x4 : Int32) (x5 : Int32) (r : (Int32 × Hp)), k36 h x1 x2 x4 x5 = some r → RJ G l M_X11_walk (some (vI r.1)) r.2 36 [(0, vR (some this)), (1, vI x1), (2, vI x2), (4, vI x4), (5, vI x5)] [] h) (k45 : Hp → Int32 → Int32 → Int32 → Int32 → Int32 → Option (Int32 × Hp)) (hk45 : ∀ (h : Hp) (x1 : Int32) (x2 : Int32) (x4 : Int32) (x5 : Int32) (x6 : Int32) (r : (Int32 × Hp)), k45 h x1 x2 x4 x5 x6 = some r → RJ G l M_X11_walk (some (vI r.1)) r.2 45 [(0, vR (some this)), (1, vI x1), (2, vI x2), (4, vI x4), (5, vI x5), (6, vI x6)] [] h) (h : Hp) (x1 : Int32) (x2 : Int32) (x4 : Int32) (x5 : Int32) (x6 : Int32) (r : (Int32 × Hp)) (hf : f_X11_walk_115 this k36 k45 h x1 x2 x4 x5 x6 = some r) : RJ G l M_X11_walk (some (vI r.1)) r.2 115 [(0, vR (some this)), (1, vI x1), (2, vI x2), (4, vI x4), (5, vI x5), (6, vI x6)] [] h := by
  unfold f_X11_walk_115 at hf
  refine r_iload 3 dX11_walk_115 rfl ?_
  exact r_sub [0, 1, 2, 4, 5] rfl (t_X11_walk_117 G l _ k36 hk36 k45 hk45 _ _ _ _ _ _ _ hf)
def f_X11_walk_74 (this : Nat) (k36 : Hp → Int32 → Int32 → Int32 → Int32 → Option (Int32 × Hp)) (k45 : Hp → Int32 → Int32 → Int32 → Int32 → Int32 → Option (Int32 × Hp)) (h : Hp) (x1 : Int32) (x2 : Int32) (x4 : Int32) (x5 : Int32) (x6 : Int32) (s0 : Int32) : Option (Int32 × Hp) :=
    (rcv h (some this) 11).bind fun a92 =>
    (f_X11_areMet h a92 x1 x5 x6).bind fun v92 =>
    if v92 = 0 then
      f_X11_walk_115 this k36 k45 h x1 x2 x4 x5 x6
    else
      if x4 < 0 then
        f_X11_walk_110 this k36 k45 h x1 x2 x5 x6 ((x6 - x5) + s0)
      else
        if x4 ≤ ((x6 - x5) + s0) then
          f_X11_walk_115 this k36 k45 h x1 x2 x4 x5 x6
        else
          f_X11_walk_110 this k36 k45 h x1 x2 x5 x6 ((x6 - x5) + s0)
set_option maxRecDepth 100000 in
set_option maxHeartbeats 4000000 in
theorem t_X11_walk_74 (G : Gx) (l : Launch) (this : Nat) (k36 : Hp → Int32 → Int32 → Int32 → Int32 → Option (Int32 × Hp)) (hk36 : ∀ (h : Hp) (x1 : Int32) (x2 : Int32) (x4 : Int32) (x5 : Int32) (r : (Int32 × Hp)), k36 h x1 x2 x4 x5 = some r → RJ G l M_X11_walk (some (vI r.1)) r.2 36 [(0, vR (some this)), (1, vI x1), (2, vI x2), (4, vI x4), (5, vI x5)] [] h) (k45 : Hp → Int32 → Int32 → Int32 → Int32 → Int32 → Option (Int32 × Hp)) (hk45 : ∀ (h : Hp) (x1 : Int32) (x2 : Int32) (x4 : Int32) (x5 : Int32) (x6 : Int32) (r : (Int32 × Hp)), k45 h x1 x2 x4 x5 x6 = some r → RJ G l M_X11_walk (some (vI r.1)) r.2 45 [(0, vR (some this)), (1, vI x1), (2, vI x2), (4, vI x4), (5, vI x5), (6, vI x6)] [] h) (h : Hp) (x1 : Int32) (x2 : Int32) (x4 : Int32) (x5 : Int32) (x6 : Int32) (s0 : Int32) (r : (Int32 × Hp)) (hf : f_X11_walk_74 this k36 k45 h x1 x2 x4 x5 x6 s0 = some r) : RJ G l M_X11_walk (some (vI r.1)) r.2 74 [(0, vR (some this)), (1, vI x1), (2, vI x2), (4, vI x4), (5, vI x5), (6, vI x6)] [vI s0] h := by
  unfold f_X11_walk_74 at hf
  refine r_istore (lv' := [(7, vI s0), (0, vR (some this)), (1, vI x1), (2, vI x2), (4, vI x4), (5, vI x5), (6, vI x6)]) dX11_walk_74 (Nat.le_of_ble_eq_true rfl) rfl ?_
  refine r_iload 6 dX11_walk_76 rfl ?_
  refine r_iload 5 dX11_walk_78 rfl ?_
  refine r_isub dX11_walk_80 ?_
  refine r_iload 0 dX11_walk_81 rfl ?_
  refine r_iadd dX11_walk_83 ?_
  refine r_istore (lv' := [(8, vI ((x6 - x5) + s0)), (7, vI s0), (0, vR (some this)), (1, vI x1), (2, vI x2), (4, vI x4), (5, vI x5), (6, vI x6)]) dX11_walk_84 (Nat.le_of_ble_eq_true rfl) rfl ?_
  refine r_aload_n 2 dX11_walk_86 rfl ?_
  refine r_iload_n 3 dX11_walk_87 rfl ?_
  refine r_iload 6 dX11_walk_88 rfl ?_
  refine r_iload 7 dX11_walk_90 rfl ?_
  obtain ⟨a92, ea92, hf⟩ := ob hf
  obtain ⟨v92, e92, hf⟩ := ob hf
  refine r_callV (y := yX11_areMet) (ci := 11) (avs := [vI x1, vI x5, vI x6]) dX11_walk_92 rfl kw_5_70 kw_5_72 kw_0_33 kw_1_5 kw_5_73 oky_X11_areMet ⟨Nat.le_of_ble_eq_true rfl, Nat.le_of_ble_eq_true rfl⟩ rfl (Nat.le_of_ble_eq_true rfl) ea92 (k_X11_areMet G l e92) ?_
  refine r_if_eq (tgt := 115) dX11_walk_95 (by decide) (fun c95 => ?_) (fun c95 => ?_)
  · replace hf := (if_pos c95).symm.trans hf
    exact r_sub [2, 3, 4, 5, 6, 7] rfl (t_X11_walk_115 G l _ k36 hk36 k45 hk45 _ _ _ _ _ _ _ hf)
  · replace hf := (if_neg c95).symm.trans hf
    refine r_iload 5 dX11_walk_98 rfl ?_
    refine r_if_lt (tgt := 110) dX11_walk_100 (by decide) (fun c100 => ?_) (fun c100 => ?_)
    · replace hf := (if_pos c100).symm.trans hf
      exact r_sub [2, 3, 4, 6, 7, 0] rfl (t_X11_walk_110 G l _ k36 hk36 k45 hk45 _ _ _ _ _ _ _ hf)
    · replace hf := (if_neg c100).symm.trans hf
      refine r_iload 0 dX11_walk_103 rfl ?_
      refine r_iload 5 dX11_walk_105 rfl ?_
      refine r_icmp_ge (tgt := 115) dX11_walk_107 (by decide) (fun c107 => ?_) (fun c107 => ?_)
      · replace hf := (if_pos c107).symm.trans hf
        exact r_sub [2, 3, 4, 5, 6, 7] rfl (t_X11_walk_115 G l _ k36 hk36 k45 hk45 _ _ _ _ _ _ _ hf)
      · replace hf := (if_neg c107).symm.trans hf
        exact r_sub [2, 3, 4, 6, 7, 0] rfl (t_X11_walk_110 G l _ k36 hk36 k45 hk45 _ _ _ _ _ _ _ hf)
def f_X11_walk_45 (this : Nat) (k36 : Hp → Int32 → Int32 → Int32 → Int32 → Option (Int32 × Hp)) : Nat → Hp → Int32 → Int32 → Int32 → Int32 → Int32 → Option (Int32 × Hp)
  | 0, _, _, _, _, _, _ => none
  | n + 1, h, x1, x2, x4, x5, x6 =>
    if (12 : Int32) ≤ x6 then
      k36 h x1 x2 x4 (x5 + 1)
    else
      if (x6 - x2) ≤ (x2 - x5) then
        f_X11_walk_74 this k36 (f_X11_walk_45 this k36 n) h x1 x2 x4 x5 x6 (x6 - x2)
      else
        f_X11_walk_74 this k36 (f_X11_walk_45 this k36 n) h x1 x2 x4 x5 x6 (x2 - x5)
set_option maxRecDepth 100000 in
set_option maxHeartbeats 4000000 in
theorem t_X11_walk_45 (G : Gx) (l : Launch) (this : Nat) (k36 : Hp → Int32 → Int32 → Int32 → Int32 → Option (Int32 × Hp)) (hk36 : ∀ (h : Hp) (x1 : Int32) (x2 : Int32) (x4 : Int32) (x5 : Int32) (r : (Int32 × Hp)), k36 h x1 x2 x4 x5 = some r → RJ G l M_X11_walk (some (vI r.1)) r.2 36 [(0, vR (some this)), (1, vI x1), (2, vI x2), (4, vI x4), (5, vI x5)] [] h) : ∀ (n : Nat) (h : Hp) (x1 : Int32) (x2 : Int32) (x4 : Int32) (x5 : Int32) (x6 : Int32) (r : (Int32 × Hp)), f_X11_walk_45 this k36 n h x1 x2 x4 x5 x6 = some r → RJ G l M_X11_walk (some (vI r.1)) r.2 45 [(0, vR (some this)), (1, vI x1), (2, vI x2), (4, vI x4), (5, vI x5), (6, vI x6)] [] h := by
  intro n
  induction n with
  | zero =>
    intro h x1 x2 x4 x5 x6 r hf
    rw [f_X11_walk_45] at hf
    cases hf
  | succ n ih =>
    intro h x1 x2 x4 x5 x6 r hf
    rw [f_X11_walk_45] at hf
    refine r_iload 5 dX11_walk_45 rfl ?_
    refine r_bipush (x := (12 : Int32)) dX11_walk_47 (by decide) ?_
    refine r_icmp_ge (tgt := 125) dX11_walk_49 (by decide) (fun c49 => ?_) (fun c49 => ?_)
    · replace hf := (if_pos c49).symm.trans hf
      refine r_iinc (y := (x5 + 1)) (lv' := [(5, vI (x5 + 1)), (0, vR (some this)), (1, vI x1), (2, vI x2), (4, vI x4), (6, vI x6)]) 4 dX11_walk_125 rfl rfl (Nat.le_of_ble_eq_true rfl) rfl ?_
      refine r_goto (tgt := 36) dX11_walk_128 (by decide) ?_
      exact r_sub [1, 2, 3, 4, 0] rfl (hk36 _ _ _ _ _ _ hf)
    · replace hf := (if_neg c49).symm.trans hf
      refine r_iload_n 2 dX11_walk_52 rfl ?_
      refine r_iload 4 dX11_walk_53 rfl ?_
      refine r_isub dX11_walk_55 ?_
      refine r_iload 5 dX11_walk_56 rfl ?_
      refine r_iload_n 2 dX11_walk_58 rfl ?_
      refine r_isub dX11_walk_59 ?_
      refine r_icmp_ge (tgt := 70) dX11_walk_60 (by decide) (fun c60 => ?_) (fun c60 => ?_)
      · replace hf := (if_pos c60).symm.trans hf
        refine r_iload 5 dX11_walk_70 rfl ?_
        refine r_iload_n 2 dX11_walk_72 rfl ?_
        refine r_isub dX11_walk_73 ?_
        exact r_sub [0, 1, 2, 3, 4, 5] rfl (t_X11_walk_74 G l _ k36 hk36 (f_X11_walk_45 this k36 n) ih _ _ _ _ _ _ _ _ hf)
      · replace hf := (if_neg c60).symm.trans hf
        refine r_iload_n 2 dX11_walk_63 rfl ?_
        refine r_iload 4 dX11_walk_64 rfl ?_
        refine r_isub dX11_walk_66 ?_
        refine r_goto (tgt := 74) dX11_walk_67 (by decide) ?_
        exact r_sub [0, 1, 2, 3, 4, 5] rfl (t_X11_walk_74 G l _ k36 hk36 (f_X11_walk_45 this k36 n) ih _ _ _ _ _ _ _ _ hf)
def f_X11_walk_36 (this : Nat) : Nat → Hp → Int32 → Int32 → Int32 → Int32 → Option (Int32 × Hp)
  | 0, _, _, _, _, _ => none
  | n + 1, h, x1, x2, x4, x5 =>
    if x2 < x5 then
      some (x4, h)
    else
      f_X11_walk_45 this (f_X11_walk_36 this n) 10000 h x1 x2 x4 x5 x2
set_option maxRecDepth 100000 in
set_option maxHeartbeats 4000000 in
theorem t_X11_walk_36 (G : Gx) (l : Launch) (this : Nat)  : ∀ (n : Nat) (h : Hp) (x1 : Int32) (x2 : Int32) (x4 : Int32) (x5 : Int32) (r : (Int32 × Hp)), f_X11_walk_36 this n h x1 x2 x4 x5 = some r → RJ G l M_X11_walk (some (vI r.1)) r.2 36 [(0, vR (some this)), (1, vI x1), (2, vI x2), (4, vI x4), (5, vI x5)] [] h := by
  intro n
  induction n with
  | zero =>
    intro h x1 x2 x4 x5 r hf
    rw [f_X11_walk_36] at hf
    cases hf
  | succ n ih =>
    intro h x1 x2 x4 x5 r hf
    rw [f_X11_walk_36] at hf
    refine r_iload 4 dX11_walk_36 rfl ?_
    refine r_iload_n 2 dX11_walk_38 rfl ?_
    refine r_icmp_gt (tgt := 131) dX11_walk_39 (by decide) (fun c39 => ?_) (fun c39 => ?_)
    · replace hf := (if_pos c39).symm.trans hf
      refine r_iload 3 dX11_walk_131 rfl ?_
      have hf := Option.some.inj hf
      subst hf
      exact r_iret rfl dX11_walk_133
    · replace hf := (if_neg c39).symm.trans hf
      refine r_iload_n 2 dX11_walk_42 rfl ?_
      refine r_istore (lv' := [(6, vI x2), (0, vR (some this)), (1, vI x1), (2, vI x2), (4, vI x4), (5, vI x5)]) dX11_walk_43 (Nat.le_of_ble_eq_true rfl) rfl ?_
      exact r_sub [1, 2, 3, 4, 5, 0] rfl (t_X11_walk_45 G l _ (f_X11_walk_36 this n) ih _ _ _ _ _ _ _ _ hf)
def f_X11_walk_22 (this : Nat) (h : Hp) (x1 : Int32) (x2 : Int32) (s0 : Int32) : Option (Int32 × Hp) :=
    if 0 ≤ s0 then
      f_X11_walk_36 this 10000 h x1 x2 (-4 : Int32) (0 : Int32)
    else
      some (s0, h)
set_option maxRecDepth 100000 in
set_option maxHeartbeats 4000000 in
theorem t_X11_walk_22 (G : Gx) (l : Launch) (this : Nat)  (h : Hp) (x1 : Int32) (x2 : Int32) (s0 : Int32) (r : (Int32 × Hp)) (hf : f_X11_walk_22 this h x1 x2 s0 = some r) : RJ G l M_X11_walk (some (vI r.1)) r.2 22 [(0, vR (some this)), (1, vI x1), (2, vI x2)] [vI s0] h := by
  unfold f_X11_walk_22 at hf
  refine r_istore_n (lv' := [(3, vI s0), (0, vR (some this)), (1, vI x1), (2, vI x2)]) dX11_walk_22 (Nat.le_of_ble_eq_true rfl) rfl ?_
  refine r_iload_n 0 dX11_walk_23 rfl ?_
  refine r_if_ge (tgt := 29) dX11_walk_24 (by decide) (fun c24 => ?_) (fun c24 => ?_)
  · replace hf := (if_pos c24).symm.trans hf
    refine r_bipush (x := (-4 : Int32)) dX11_walk_29 (by decide) ?_
    refine r_istore (lv' := [(4, vI (-4 : Int32)), (3, vI s0), (0, vR (some this)), (1, vI x1), (2, vI x2)]) dX11_walk_31 (Nat.le_of_ble_eq_true rfl) rfl ?_
    refine r_iconst (x := (0 : Int32)) dX11_walk_33 (by decide) ?_
    refine r_istore (lv' := [(5, vI (0 : Int32)), (4, vI (-4 : Int32)), (3, vI s0), (0, vR (some this)), (1, vI x1), (2, vI x2)]) dX11_walk_34 (Nat.le_of_ble_eq_true rfl) rfl ?_
    exact r_sub [3, 4, 5, 1, 0] rfl (t_X11_walk_36 G l _ _ _ _ _ _ _ _ hf)
  · replace hf := (if_neg c24).symm.trans hf
    refine r_iload_n 0 dX11_walk_27 rfl ?_
    have hf := Option.some.inj hf
    subst hf
    exact r_iret rfl dX11_walk_28
def f_X11_walk (h : Hp) (this : Nat) (x1 : Int32) (x2 : Int32) : Option (Int32 × Hp) :=
    (pF h (some this) [11] 6 (vI (0 : Int32))).bind fun h2 =>
    (f_X11_isPlot h2 x2).bind fun v6 =>
    if v6 = 0 then
      f_X11_walk_22 this h2 x1 x2 (-1 : Int32)
    else
      (rcv h2 (some this) 11).bind fun a15 =>
      (f_X11_wrongSort h2 a15 x1 (1 : Int32)).bind fun v15 =>
      f_X11_walk_22 this h2 x1 x2 v15
set_option maxRecDepth 100000 in
set_option maxHeartbeats 4000000 in
theorem k_X11_walk (G : Gx) (l : Launch) {h : Hp} {this : Nat} {x1 : Int32} {x2 : Int32} {r : (Int32 × Hp)} (hf : f_X11_walk h this x1 x2 = some r) : KM l yX11_walk (.code yX11_walk cX11_walk 9 (some .int) :: wsK) 3 68 G [vR (some this), vI x1, vI x2] h (some (vI r.1)) r.2 := by
  refine r_entry (ctor := false) (own := RX11) (by decide +kernel) rfl (fun q => by cases q) (Nat.le_of_ble_eq_true rfl) ?_
  show RJ G l M_X11_walk (some (vI r.1)) r.2 0 [(0, vR (some this)), (1, vI x1), (2, vI x2)] [] h
  unfold f_X11_walk at hf
  refine r_aload_n 0 dX11_walk_0 rfl ?_
  refine r_iconst (x := (0 : Int32)) dX11_walk_1 (by decide) ?_
  obtain ⟨h2, e2, hf⟩ := ob hf
  refine r_put dX11_walk_2 fl_11_6 kw_4_61 (Or.inl rfl) (by decide +kernel) (fit_int _) e2 ?_
  refine r_iload_n 2 dX11_walk_5 rfl ?_
  obtain ⟨v6, e6, hf⟩ := ob hf
  refine r_callS (y := yX11_isPlot) (avs := [vI x2]) dX11_walk_6 kw_5_15 kw_5_16 kw_1_5 kw_5_17 oky_X11_isPlot ⟨Nat.le_of_ble_eq_true rfl, Nat.le_of_ble_eq_true rfl⟩ rfl (Nat.le_of_ble_eq_true rfl) (k_X11_isPlot G l e6) ?_
  refine r_if_eq (tgt := 21) dX11_walk_9 (by decide) (fun c9 => ?_) (fun c9 => ?_)
  · replace hf := (if_pos c9).symm.trans hf
    refine r_iconst (x := (-1 : Int32)) dX11_walk_21 (by decide) ?_
    exact r_sub [0, 1, 2] rfl (t_X11_walk_22 G l _ _ _ _ _ _ hf)
  · replace hf := (if_neg c9).symm.trans hf
    refine r_aload_n 0 dX11_walk_12 rfl ?_
    refine r_iload_n 1 dX11_walk_13 rfl ?_
    refine r_iconst (x := (1 : Int32)) dX11_walk_14 (by decide) ?_
    obtain ⟨a15, ea15, hf⟩ := ob hf
    obtain ⟨v15, e15, hf⟩ := ob hf
    refine r_callV (y := yX11_wrongSort) (ci := 11) (avs := [vI x1, vI (1 : Int32)]) dX11_walk_15 rfl kw_4_170 kw_4_172 kw_0_14 kw_1_5 kw_4_173 oky_X11_wrongSort ⟨Nat.le_of_ble_eq_true rfl, Nat.le_of_ble_eq_true rfl⟩ rfl (Nat.le_of_ble_eq_true rfl) ea15 (k_X11_wrongSort G l e15) ?_
    refine r_goto (tgt := 22) dX11_walk_18 (by decide) ?_
    exact r_sub [0, 1, 2] rfl (t_X11_walk_22 G l _ _ _ _ _ _ hf)
/-! ===== NumberedByAgeModel.where(II)I ===== -/
abbrev M_X11_where : Mx := (cX11_where, 5, RX11, (false, []), (some .int), 3, 70)
def f_X11_where_78 (this : Nat) (k33 : Hp → Int32 → Int32 → Int32 → Int32 → Option (Int32 × Hp)) (h : Hp) (x1 : Int32) (x2 : Int32) (x4 : Int32) (s0 : Int32) (s1 : Int32) : Option (Int32 × Hp) :=
    k33 h x1 x2 (s1 ||| s0) (x4 + 1)
set_option maxRecDepth 100000 in
set_option maxHeartbeats 4000000 in
theorem t_X11_where_78 (G : Gx) (l : Launch) (this : Nat) (k33 : Hp → Int32 → Int32 → Int32 → Int32 → Option (Int32 × Hp)) (hk33 : ∀ (h : Hp) (x1 : Int32) (x2 : Int32) (x3 : Int32) (x4 : Int32) (r : (Int32 × Hp)), k33 h x1 x2 x3 x4 = some r → RJ G l M_X11_where (some (vI r.1)) r.2 33 [(0, vR (some this)), (1, vI x1), (2, vI x2), (3, vI x3), (4, vI x4)] [] h) (h : Hp) (x1 : Int32) (x2 : Int32) (x4 : Int32) (s0 : Int32) (s1 : Int32) (r : (Int32 × Hp)) (hf : f_X11_where_78 this k33 h x1 x2 x4 s0 s1 = some r) : RJ G l M_X11_where (some (vI r.1)) r.2 78 [(0, vR (some this)), (1, vI x1), (2, vI x2), (4, vI x4)] [vI s0, vI s1] h := by
  unfold f_X11_where_78 at hf
  refine r_ior dX11_where_78 ?_
  refine r_istore_n (lv' := [(3, vI (s1 ||| s0)), (0, vR (some this)), (1, vI x1), (2, vI x2), (4, vI x4)]) dX11_where_79 (Nat.le_of_ble_eq_true rfl) rfl ?_
  refine r_iinc (y := (x4 + 1)) (lv' := [(4, vI (x4 + 1)), (3, vI (s1 ||| s0)), (0, vR (some this)), (1, vI x1), (2, vI x2)]) 4 dX11_where_80 rfl rfl (Nat.le_of_ble_eq_true rfl) rfl ?_
  refine r_goto (tgt := 33) dX11_where_83 (by decide) ?_
  exact r_sub [2, 3, 4, 1, 0] rfl (hk33 _ _ _ _ _ _ hf)
def f_X11_where_77 (this : Nat) (k33 : Hp → Int32 → Int32 → Int32 → Int32 → Option (Int32 × Hp)) (h : Hp) (x1 : Int32) (x2 : Int32) (x4 : Int32) (s0 : Int32) : Option (Int32 × Hp) :=
    f_X11_where_78 this k33 h x1 x2 x4 (0 : Int32) s0
set_option maxRecDepth 100000 in
set_option maxHeartbeats 4000000 in
theorem t_X11_where_77 (G : Gx) (l : Launch) (this : Nat) (k33 : Hp → Int32 → Int32 → Int32 → Int32 → Option (Int32 × Hp)) (hk33 : ∀ (h : Hp) (x1 : Int32) (x2 : Int32) (x3 : Int32) (x4 : Int32) (r : (Int32 × Hp)), k33 h x1 x2 x3 x4 = some r → RJ G l M_X11_where (some (vI r.1)) r.2 33 [(0, vR (some this)), (1, vI x1), (2, vI x2), (3, vI x3), (4, vI x4)] [] h) (h : Hp) (x1 : Int32) (x2 : Int32) (x4 : Int32) (s0 : Int32) (r : (Int32 × Hp)) (hf : f_X11_where_77 this k33 h x1 x2 x4 s0 = some r) : RJ G l M_X11_where (some (vI r.1)) r.2 77 [(0, vR (some this)), (1, vI x1), (2, vI x2), (4, vI x4)] [vI s0] h := by
  unfold f_X11_where_77 at hf
  refine r_iconst (x := (0 : Int32)) dX11_where_77 (by decide) ?_
  exact r_sub [0, 1, 2, 3] rfl (t_X11_where_78 G l _ k33 hk33 _ _ _ _ _ _ _ hf)
def f_X11_where_33 (this : Nat) : Nat → Hp → Int32 → Int32 → Int32 → Int32 → Option (Int32 × Hp)
  | 0, _, _, _, _, _ => none
  | n + 1, h, x1, x2, x3, x4 =>
    if (12 : Int32) ≤ x4 then
      some (x3, h)
    else
      (gR h (some this) [11] 5).bind fun v42 =>
      (aI h v42 x4).bind fun v47 =>
      if v47 = 0 then
        (gI h (some this) [11] 0).bind fun v53 =>
        (gI h (some this) [11] 1).bind fun v57 =>
        (rcv h (some this) 11).bind fun a63 =>
        (f_X11_numberBy h a63 v53 v57 x4 x2).bind fun v63 =>
        if v63 = x1 then
          f_X11_where_78 this (f_X11_where_33 this n) h x1 x2 x4 ((1 : Int32) <<< (x4 &&& 31)) x3
        else
          f_X11_where_77 this (f_X11_where_33 this n) h x1 x2 x4 x3
      else
        f_X11_where_77 this (f_X11_where_33 this n) h x1 x2 x4 x3
set_option maxRecDepth 100000 in
set_option maxHeartbeats 4000000 in
theorem t_X11_where_33 (G : Gx) (l : Launch) (this : Nat)  : ∀ (n : Nat) (h : Hp) (x1 : Int32) (x2 : Int32) (x3 : Int32) (x4 : Int32) (r : (Int32 × Hp)), f_X11_where_33 this n h x1 x2 x3 x4 = some r → RJ G l M_X11_where (some (vI r.1)) r.2 33 [(0, vR (some this)), (1, vI x1), (2, vI x2), (3, vI x3), (4, vI x4)] [] h := by
  intro n
  induction n with
  | zero =>
    intro h x1 x2 x3 x4 r hf
    rw [f_X11_where_33] at hf
    cases hf
  | succ n ih =>
    intro h x1 x2 x3 x4 r hf
    rw [f_X11_where_33] at hf
    refine r_iload 4 dX11_where_33 rfl ?_
    refine r_bipush (x := (12 : Int32)) dX11_where_35 (by decide) ?_
    refine r_icmp_ge (tgt := 86) dX11_where_37 (by decide) (fun c37 => ?_) (fun c37 => ?_)
    · replace hf := (if_pos c37).symm.trans hf
      refine r_iload_n 3 dX11_where_86 rfl ?_
      have hf := Option.some.inj hf
      subst hf
      exact r_iret rfl dX11_where_87
    · replace hf := (if_neg c37).symm.trans hf
      refine r_iload_n 3 dX11_where_40 rfl ?_
      refine r_aload_n 0 dX11_where_41 rfl ?_
      obtain ⟨v42, e42, hf⟩ := ob hf
      refine r_get dX11_where_42 fl_11_5 kw_4_60 (Or.inl rfl) (gR_sp e42) ?_
      refine r_iload 4 dX11_where_45 rfl ?_
      obtain ⟨v47, e47, hf⟩ := ob hf
      refine r_iaload dX11_where_47 e47 ?_
      refine r_if_ne (tgt := 77) dX11_where_48 (by decide) (fun c48 => ?_) (fun c48 => ?_)
      · replace hf := (if_pos c48).symm.trans hf
        refine r_aload_n 0 dX11_where_51 rfl ?_
        refine r_aload_n 0 dX11_where_52 rfl ?_
        obtain ⟨v53, e53, hf⟩ := ob hf
        refine r_get dX11_where_53 fl_11_0 kw_4_55 (Or.inl rfl) (gI_sp e53) ?_
        refine r_aload_n 0 dX11_where_56 rfl ?_
        obtain ⟨v57, e57, hf⟩ := ob hf
        refine r_get dX11_where_57 fl_11_1 kw_4_56 (Or.inl rfl) (gI_sp e57) ?_
        refine r_iload 4 dX11_where_60 rfl ?_
        refine r_iload_n 2 dX11_where_62 rfl ?_
        obtain ⟨a63, ea63, hf⟩ := ob hf
        obtain ⟨v63, e63, hf⟩ := ob hf
        refine r_callV (y := yX11_numberBy) (ci := 11) (avs := [vI v53, vI v57, vI x4, vI x2]) dX11_where_63 rfl kw_4_220 kw_4_222 kw_0_25 kw_1_5 kw_4_223 oky_X11_numberBy ⟨Nat.le_of_ble_eq_true rfl, Nat.le_of_ble_eq_true rfl⟩ rfl (Nat.le_of_ble_eq_true rfl) ea63 (k_X11_numberBy G l e63) ?_
        refine r_iload_n 1 dX11_where_66 rfl ?_
        refine r_icmp_ne (tgt := 77) dX11_where_67 (by decide) (fun c67 => ?_) (fun c67 => ?_)
        · replace hf := (if_pos c67).symm.trans hf
          refine r_iconst (x := (1 : Int32)) dX11_where_70 (by decide) ?_
          refine r_iload 4 dX11_where_71 rfl ?_
          refine r_ishl dX11_where_73 ?_
          refine r_goto (tgt := 78) dX11_where_74 (by decide) ?_
          exact r_sub [0, 1, 2, 4] rfl (t_X11_where_78 G l _ (f_X11_where_33 this n) ih _ _ _ _ _ _ _ hf)
        · replace hf := (if_neg c67).symm.trans hf
          exact r_sub [0, 1, 2, 4] rfl (t_X11_where_77 G l _ (f_X11_where_33 this n) ih _ _ _ _ _ _ hf)
      · replace hf := (if_neg c48).symm.trans hf
        exact r_sub [0, 1, 2, 4] rfl (t_X11_where_77 G l _ (f_X11_where_33 this n) ih _ _ _ _ _ _ hf)
def f_X11_where (h : Hp) (this : Nat) (x1 : Int32) (x2 : Int32) : Option (Int32 × Hp) :=
    (pF h (some this) [11] 6 (vI (0 : Int32))).bind fun h2 =>
    if x1 < (1 : Int32) then
      some ((-1 : Int32), h2)
    else
      (f_X11_in h2 x2.toInt64 (1 : Int64) (9 : Int64)).bind fun v16 =>
      if v16 = 0 then
        some ((-1 : Int32), h2)
      else
        (rcv h2 (some this) 11).bind fun a25 =>
        (f_X11_lookNow h2 a25).bind fun h25 =>
        f_X11_where_33 this 10000 h25 x1 x2 (0 : Int32) (0 : Int32)
set_option maxRecDepth 100000 in
set_option maxHeartbeats 4000000 in
theorem k_X11_where (G : Gx) (l : Launch) {h : Hp} {this : Nat} {x1 : Int32} {x2 : Int32} {r : (Int32 × Hp)} (hf : f_X11_where h this x1 x2 = some r) : KM l yX11_where (.code yX11_where cX11_where 5 (some .int) :: wsK) 3 70 G [vR (some this), vI x1, vI x2] h (some (vI r.1)) r.2 := by
  refine r_entry (ctor := false) (own := RX11) (by decide +kernel) rfl (fun q => by cases q) (Nat.le_of_ble_eq_true rfl) ?_
  show RJ G l M_X11_where (some (vI r.1)) r.2 0 [(0, vR (some this)), (1, vI x1), (2, vI x2)] [] h
  unfold f_X11_where at hf
  refine r_aload_n 0 dX11_where_0 rfl ?_
  refine r_iconst (x := (0 : Int32)) dX11_where_1 (by decide) ?_
  obtain ⟨h2, e2, hf⟩ := ob hf
  refine r_put dX11_where_2 fl_11_6 kw_4_61 (Or.inl rfl) (by decide +kernel) (fit_int _) e2 ?_
  refine r_iload_n 1 dX11_where_5 rfl ?_
  refine r_iconst (x := (1 : Int32)) dX11_where_6 (by decide) ?_
  refine r_icmp_lt (tgt := 22) dX11_where_7 (by decide) (fun c7 => ?_) (fun c7 => ?_)
  · replace hf := (if_pos c7).symm.trans hf
    refine r_iconst (x := (-1 : Int32)) dX11_where_22 (by decide) ?_
    have hf := Option.some.inj hf
    subst hf
    exact r_iret rfl dX11_where_23
  · replace hf := (if_neg c7).symm.trans hf
    refine r_iload_n 2 dX11_where_10 rfl ?_
    refine r_i2l dX11_where_11 ?_
    refine r_lconst (x := (1 : Int64)) dX11_where_12 (by decide) ?_
    refine r_ldc2 (x := (9 : Int64)) dX11_where_13 kw_5_19 ?_
    obtain ⟨v16, e16, hf⟩ := ob hf
    refine r_callS (y := yX11_in) (avs := [vL x2.toInt64, vL (1 : Int64), vL (9 : Int64)]) dX11_where_16 kw_4_179 kw_4_180 kw_1_5 kw_4_181 oky_X11_in ⟨Nat.le_of_ble_eq_true rfl, Nat.le_of_ble_eq_true rfl⟩ rfl (Nat.le_of_ble_eq_true rfl) (k_X11_in G l e16) ?_
    refine r_if_ne (tgt := 24) dX11_where_19 (by decide) (fun c19 => ?_) (fun c19 => ?_)
    · replace hf := (if_pos c19).symm.trans hf
      refine r_iconst (x := (-1 : Int32)) dX11_where_22 (by decide) ?_
      have hf := Option.some.inj hf
      subst hf
      exact r_iret rfl dX11_where_23
    · replace hf := (if_neg c19).symm.trans hf
      refine r_aload_n 0 dX11_where_24 rfl ?_
      obtain ⟨a25, ea25, hf⟩ := ob hf
      obtain ⟨h25, e25, hf⟩ := ob hf
      refine r_callV (y := yX11_lookNow) (ci := 11) (avs := []) dX11_where_25 rfl kw_4_212 kw_4_214 kw_0_23 kw_1_5 kw_4_215 oky_X11_lookNow ⟨Nat.le_of_ble_eq_true rfl, Nat.le_of_ble_eq_true rfl⟩ rfl (Nat.le_of_ble_eq_true rfl) ea25 (k_X11_lookNow G l e25) ?_
      refine r_iconst (x := (0 : Int32)) dX11_where_28 (by decide) ?_
      refine r_istore_n (lv' := [(3, vI (0 : Int32)), (0, vR (some this)), (1, vI x1), (2, vI x2)]) dX11_where_29 (Nat.le_of_ble_eq_true rfl) rfl ?_
      refine r_iconst (x := (0 : Int32)) dX11_where_30 (by decide) ?_
      refine r_istore (lv' := [(4, vI (0 : Int32)), (3, vI (0 : Int32)), (0, vR (some this)), (1, vI x1), (2, vI x2)]) dX11_where_31 (Nat.le_of_ble_eq_true rfl) rfl ?_
      exact r_sub [2, 3, 4, 1, 0] rfl (t_X11_where_33 G l _ _ _ _ _ _ _ _ hf)
/-! ===== NumberedByAgeModel.would(II)I ===== -/
abbrev M_X11_would : Mx := (cX11_would, 3, RX11, (false, []), (some .int), 3, 70)
def f_X11_would (h : Hp) (this : Nat) (x1 : Int32) (x2 : Int32) : Option (Int32 × Hp) :=
    (pF h (some this) [11] 6 (vI (0 : Int32))).bind fun h2 =>
    (f_X11_isPlot h2 x1).bind fun v6 =>
    if v6 = 0 then
      some ((-1 : Int32), h2)
    else
      (f_X11_in h2 x2.toInt64 (1 : Int64) (9 : Int64)).bind fun v18 =>
      if v18 = 0 then
        some ((-1 : Int32), h2)
      else
        (rcv h2 (some this) 11).bind fun a27 =>
        (f_X11_lookNow h2 a27).bind fun h27 =>
        (gI h27 (some this) [11] 0).bind fun v32 =>
        (gI h27 (some this) [11] 1).bind fun v36 =>
        (rcv h27 (some this) 11).bind fun a41 =>
        (f_X11_numberBy h27 a41 v32 v36 x1 x2).bind fun v41 =>
        some (v41, h27)
set_option maxRecDepth 100000 in
set_option maxHeartbeats 4000000 in
theorem k_X11_would (G : Gx) (l : Launch) {h : Hp} {this : Nat} {x1 : Int32} {x2 : Int32} {r : (Int32 × Hp)} (hf : f_X11_would h this x1 x2 = some r) : KM l yX11_would (.code yX11_would cX11_would 3 (some .int) :: wsK) 3 70 G [vR (some this), vI x1, vI x2] h (some (vI r.1)) r.2 := by
  refine r_entry (ctor := false) (own := RX11) (by decide +kernel) rfl (fun q => by cases q) (Nat.le_of_ble_eq_true rfl) ?_
  show RJ G l M_X11_would (some (vI r.1)) r.2 0 [(0, vR (some this)), (1, vI x1), (2, vI x2)] [] h
  unfold f_X11_would at hf
  refine r_aload_n 0 dX11_would_0 rfl ?_
  refine r_iconst (x := (0 : Int32)) dX11_would_1 (by decide) ?_
  obtain ⟨h2, e2, hf⟩ := ob hf
  refine r_put dX11_would_2 fl_11_6 kw_4_61 (Or.inl rfl) (by decide +kernel) (fit_int _) e2 ?_
  refine r_iload_n 1 dX11_would_5 rfl ?_
  obtain ⟨v6, e6, hf⟩ := ob hf
  refine r_callS (y := yX11_isPlot) (avs := [vI x1]) dX11_would_6 kw_5_15 kw_5_16 kw_1_5 kw_5_17 oky_X11_isPlot ⟨Nat.le_of_ble_eq_true rfl, Nat.le_of_ble_eq_true rfl⟩ rfl (Nat.le_of_ble_eq_true rfl) (k_X11_isPlot G l e6) ?_
  refine r_if_eq (tgt := 24) dX11_would_9 (by decide) (fun c9 => ?_) (fun c9 => ?_)
  · replace hf := (if_pos c9).symm.trans hf
    refine r_iconst (x := (-1 : Int32)) dX11_would_24 (by decide) ?_
    have hf := Option.some.inj hf
    subst hf
    exact r_iret rfl dX11_would_25
  · replace hf := (if_neg c9).symm.trans hf
    refine r_iload_n 2 dX11_would_12 rfl ?_
    refine r_i2l dX11_would_13 ?_
    refine r_lconst (x := (1 : Int64)) dX11_would_14 (by decide) ?_
    refine r_ldc2 (x := (9 : Int64)) dX11_would_15 kw_5_19 ?_
    obtain ⟨v18, e18, hf⟩ := ob hf
    refine r_callS (y := yX11_in) (avs := [vL x2.toInt64, vL (1 : Int64), vL (9 : Int64)]) dX11_would_18 kw_4_179 kw_4_180 kw_1_5 kw_4_181 oky_X11_in ⟨Nat.le_of_ble_eq_true rfl, Nat.le_of_ble_eq_true rfl⟩ rfl (Nat.le_of_ble_eq_true rfl) (k_X11_in G l e18) ?_
    refine r_if_ne (tgt := 26) dX11_would_21 (by decide) (fun c21 => ?_) (fun c21 => ?_)
    · replace hf := (if_pos c21).symm.trans hf
      refine r_iconst (x := (-1 : Int32)) dX11_would_24 (by decide) ?_
      have hf := Option.some.inj hf
      subst hf
      exact r_iret rfl dX11_would_25
    · replace hf := (if_neg c21).symm.trans hf
      refine r_aload_n 0 dX11_would_26 rfl ?_
      obtain ⟨a27, ea27, hf⟩ := ob hf
      obtain ⟨h27, e27, hf⟩ := ob hf
      refine r_callV (y := yX11_lookNow) (ci := 11) (avs := []) dX11_would_27 rfl kw_4_212 kw_4_214 kw_0_23 kw_1_5 kw_4_215 oky_X11_lookNow ⟨Nat.le_of_ble_eq_true rfl, Nat.le_of_ble_eq_true rfl⟩ rfl (Nat.le_of_ble_eq_true rfl) ea27 (k_X11_lookNow G l e27) ?_
      refine r_aload_n 0 dX11_would_30 rfl ?_
      refine r_aload_n 0 dX11_would_31 rfl ?_
      obtain ⟨v32, e32, hf⟩ := ob hf
      refine r_get dX11_would_32 fl_11_0 kw_4_55 (Or.inl rfl) (gI_sp e32) ?_
      refine r_aload_n 0 dX11_would_35 rfl ?_
      obtain ⟨v36, e36, hf⟩ := ob hf
      refine r_get dX11_would_36 fl_11_1 kw_4_56 (Or.inl rfl) (gI_sp e36) ?_
      refine r_iload_n 1 dX11_would_39 rfl ?_
      refine r_iload_n 2 dX11_would_40 rfl ?_
      obtain ⟨a41, ea41, hf⟩ := ob hf
      obtain ⟨v41, e41, hf⟩ := ob hf
      refine r_callV (y := yX11_numberBy) (ci := 11) (avs := [vI v32, vI v36, vI x1, vI x2]) dX11_would_41 rfl kw_4_220 kw_4_222 kw_0_25 kw_1_5 kw_4_223 oky_X11_numberBy ⟨Nat.le_of_ble_eq_true rfl, Nat.le_of_ble_eq_true rfl⟩ rfl (Nat.le_of_ble_eq_true rfl) ea41 (k_X11_numberBy G l e41) ?_
      have hf := Option.some.inj hf
      subst hf
      exact r_iret rfl dX11_would_44
