/-! ===== NumberedByAge$Street.numberAt(I)I ===== -/
abbrev M_X8_numberAt : Mx := (cX8_numberAt, 2, RX8, (false, []), (some .int), 1, 20)
def f_X8_numberAt (h : Hp) (this : Nat) (x1 : Int32) : Option Int32 :=
    (f_X10_isPlot h x1).bind fun v1 =>
    if v1 = 0 then
      some (0 : Int32)
    else
      (gR h (some this) [8] 0).bind fun v8 =>
      (aI h v8 x1).bind fun v12 =>
      some v12
set_option maxRecDepth 100000 in
set_option maxHeartbeats 4000000 in
theorem k_X8_numberAt (G : Gx) (l : Launch) {h : Hp} {this : Nat} {x1 : Int32} {r : Int32} (hf : f_X8_numberAt h this x1 = some r) : KM l yX8_numberAt (.code yX8_numberAt cX8_numberAt 2 (some .int) :: wsK) 1 20 G [vR (some this), vI x1] h (some (vI r)) h := by
  refine r_entry (ctor := false) (own := RX8) (by decide +kernel) rfl (fun q => by cases q) (Nat.le_of_ble_eq_true rfl) ?_
  show RJ G l M_X8_numberAt (some (vI r)) h 0 [(0, vR (some this)), (1, vI x1)] [] h
  unfold f_X8_numberAt at hf
  refine r_iload_n 1 dX8_numberAt_0 rfl ?_
  obtain ⟨v1, e1, hf⟩ := ob hf
  refine r_callSN (y := yX10_isPlot) (avs := [vI x1]) dX8_numberAt_1 (by decide) kw_1_193 kw_1_1 kw_1_194 oky_X10_isPlot ⟨Nat.le_of_ble_eq_true rfl, Nat.le_of_ble_eq_true rfl⟩ rfl (Nat.le_of_ble_eq_true rfl) (k_X10_isPlot G l e1) ?_
  refine r_if_eq (tgt := 16) dX8_numberAt_4 (by decide) (fun c4 => ?_) (fun c4 => ?_)
  · replace hf := (if_pos c4).symm.trans hf
    refine r_iconst (x := (0 : Int32)) dX8_numberAt_16 (by decide) ?_
    have hf := Option.some.inj hf
    subst hf
    exact r_iret rfl dX8_numberAt_17
  · replace hf := (if_neg c4).symm.trans hf
    refine r_aload_n 0 dX8_numberAt_7 rfl ?_
    obtain ⟨v8, e8, hf⟩ := ob hf
    refine r_get dX8_numberAt_8 fl_8_0 kw_1_62 (Or.inl rfl) (gR_sp e8) ?_
    refine r_iload_n 1 dX8_numberAt_11 rfl ?_
    obtain ⟨v12, e12, hf⟩ := ob hf
    refine r_iaload dX8_numberAt_12 e12 ?_
    refine r_goto (tgt := 17) dX8_numberAt_13 (by decide) ?_
    have hf := Option.some.inj hf
    subst hf
    exact r_iret rfl dX8_numberAt_17
/-! ===== NumberedByAge$Street.hasHouse(I)Z ===== -/
abbrev M_X8_hasHouse : Mx := (cX8_hasHouse, 2, RX8, (false, []), (some .boolean), 2, 41)
def f_X8_hasHouse (h : Hp) (this : Nat) (x1 : Int32) : Option Int32 :=
    (rcv h (some this) 8).bind fun a2 =>
    (f_X8_numberAt h a2 x1).bind fun v2 =>
    if v2 = 0 then
      okZ (0 : Int32)
    else
      okZ (1 : Int32)
set_option maxRecDepth 100000 in
set_option maxHeartbeats 4000000 in
theorem k_X8_hasHouse (G : Gx) (l : Launch) {h : Hp} {this : Nat} {x1 : Int32} {r : Int32} (hf : f_X8_hasHouse h this x1 = some r) : KM l yX8_hasHouse (.code yX8_hasHouse cX8_hasHouse 2 (some .boolean) :: wsK) 2 41 G [vR (some this), vI x1] h (some (vI r)) h := by
  refine r_entry (ctor := false) (own := RX8) (by decide +kernel) rfl (fun q => by cases q) (Nat.le_of_ble_eq_true rfl) ?_
  show RJ G l M_X8_hasHouse (some (vI r)) h 0 [(0, vR (some this)), (1, vI x1)] [] h
  unfold f_X8_hasHouse at hf
  refine r_aload_n 0 dX8_hasHouse_0 rfl ?_
  refine r_iload_n 1 dX8_hasHouse_1 rfl ?_
  obtain ⟨a2, ea2, hf⟩ := ob hf
  obtain ⟨v2, e2, hf⟩ := ob hf
  refine r_callV (y := yX8_numberAt) (ci := 8) (avs := [vI x1]) dX8_hasHouse_2 rfl kw_1_202 kw_1_203 kw_1_204 kw_1_2 kw_1_205 oky_X8_numberAt ⟨Nat.le_of_ble_eq_true rfl, Nat.le_of_ble_eq_true rfl⟩ rfl (Nat.le_of_ble_eq_true rfl) ea2 (k_X8_numberAt G l e2) ?_
  refine r_if_eq (tgt := 12) dX8_hasHouse_5 (by decide) (fun c5 => ?_) (fun c5 => ?_)
  · replace hf := (if_pos c5).symm.trans hf
    refine r_iconst (x := (0 : Int32)) dX8_hasHouse_12 (by decide) ?_
    exact r_zret rfl dX8_hasHouse_13 hf
  · replace hf := (if_neg c5).symm.trans hf
    refine r_iconst (x := (1 : Int32)) dX8_hasHouse_8 (by decide) ?_
    refine r_goto (tgt := 13) dX8_hasHouse_9 (by decide) ?_
    exact r_zret rfl dX8_hasHouse_13 hf
/-! ===== NumberedByAge$Street.addEvent(II)V ===== -/
abbrev M_X8_addEvent : Mx := (cX8_addEvent, 3, RX8, (false, []), none, 0, 0)
def f_X8_addEvent (h : Hp) (this : Nat) (x1 : Int32) (x2 : Int32) : Option Hp :=
    (gI h (some this) [8] 7).bind fun v1 =>
    if v1 < 0 then
      some h
    else
      (gI h (some this) [8] 7).bind fun v8 =>
      if (30 : Int32) ≤ v8 then
        some h
      else
        (gR h (some this) [8] 4).bind fun v17 =>
        (gI h (some this) [8] 7).bind fun v21 =>
        (wI h v17 v21 x1).bind fun h25 =>
        (gR h25 (some this) [8] 5).bind fun v27 =>
        (gI h25 (some this) [8] 7).bind fun v31 =>
        (wI h25 v27 v31 x2).bind fun h35 =>
        (gI h35 (some this) [8] 7).bind fun v38 =>
        (pF h35 (some this) [8] 7 (vI (v38 + (1 : Int32)))).bind fun h43 =>
        some h43
set_option maxRecDepth 100000 in
set_option maxHeartbeats 4000000 in
theorem k_X8_addEvent (G : Gx) (l : Launch) {h : Hp} {this : Nat} {x1 : Int32} {x2 : Int32} {r : Hp} (hf : f_X8_addEvent h this x1 x2 = some r) : KM l yX8_addEvent (.code yX8_addEvent cX8_addEvent 3 none :: wsK) 0 0 G [vR (some this), vI x1, vI x2] h none r := by
  refine r_entry (ctor := false) (own := RX8) (by decide +kernel) rfl (fun q => by cases q) (Nat.le_of_ble_eq_true rfl) ?_
  show RJ G l M_X8_addEvent none r 0 [(0, vR (some this)), (1, vI x1), (2, vI x2)] [] h
  unfold f_X8_addEvent at hf
  refine r_aload_n 0 dX8_addEvent_0 rfl ?_
  obtain ⟨v1, e1, hf⟩ := ob hf
  refine r_get dX8_addEvent_1 fl_8_7 kw_1_69 (Or.inl rfl) (gI_sp e1) ?_
  refine r_if_lt (tgt := 46) dX8_addEvent_4 (by decide) (fun c4 => ?_) (fun c4 => ?_)
  · replace hf := (if_pos c4).symm.trans hf
    have hf := Option.some.inj hf
    subst hf
    exact r_vret rfl dX8_addEvent_46
  · replace hf := (if_neg c4).symm.trans hf
    refine r_aload_n 0 dX8_addEvent_7 rfl ?_
    obtain ⟨v8, e8, hf⟩ := ob hf
    refine r_get dX8_addEvent_8 fl_8_7 kw_1_69 (Or.inl rfl) (gI_sp e8) ?_
    refine r_bipush (x := (30 : Int32)) dX8_addEvent_11 (by decide) ?_
    refine r_icmp_ge (tgt := 46) dX8_addEvent_13 (by decide) (fun c13 => ?_) (fun c13 => ?_)
    · replace hf := (if_pos c13).symm.trans hf
      have hf := Option.some.inj hf
      subst hf
      exact r_vret rfl dX8_addEvent_46
    · replace hf := (if_neg c13).symm.trans hf
      refine r_aload_n 0 dX8_addEvent_16 rfl ?_
      obtain ⟨v17, e17, hf⟩ := ob hf
      refine r_get dX8_addEvent_17 fl_8_4 kw_1_66 (Or.inl rfl) (gR_sp e17) ?_
      refine r_aload_n 0 dX8_addEvent_20 rfl ?_
      obtain ⟨v21, e21, hf⟩ := ob hf
      refine r_get dX8_addEvent_21 fl_8_7 kw_1_69 (Or.inl rfl) (gI_sp e21) ?_
      refine r_iload_n 1 dX8_addEvent_24 rfl ?_
      obtain ⟨h25, e25, hf⟩ := ob hf
      refine r_iastore dX8_addEvent_25 e25 ?_
      refine r_aload_n 0 dX8_addEvent_26 rfl ?_
      obtain ⟨v27, e27, hf⟩ := ob hf
      refine r_get dX8_addEvent_27 fl_8_5 kw_1_67 (Or.inl rfl) (gR_sp e27) ?_
      refine r_aload_n 0 dX8_addEvent_30 rfl ?_
      obtain ⟨v31, e31, hf⟩ := ob hf
      refine r_get dX8_addEvent_31 fl_8_7 kw_1_69 (Or.inl rfl) (gI_sp e31) ?_
      refine r_iload_n 2 dX8_addEvent_34 rfl ?_
      obtain ⟨h35, e35, hf⟩ := ob hf
      refine r_iastore dX8_addEvent_35 e35 ?_
      refine r_aload_n 0 dX8_addEvent_36 rfl ?_
      refine r_pc (pc' := 37) rfl ?_
      refine r_dup dX8_addEvent_37 rfl ?_
      obtain ⟨v38, e38, hf⟩ := ob hf
      refine r_get dX8_addEvent_38 fl_8_7 kw_1_69 (Or.inl rfl) (gI_sp e38) ?_
      refine r_iconst (x := (1 : Int32)) dX8_addEvent_41 (by decide) ?_
      refine r_iadd dX8_addEvent_42 ?_
      obtain ⟨h43, e43, hf⟩ := ob hf
      refine r_put dX8_addEvent_43 fl_8_7 kw_1_69 (Or.inl rfl) (by decide +kernel) (fit_int _) e43 ?_
      have hf := Option.some.inj hf
      subst hf
      exact r_vret rfl dX8_addEvent_46
/-! ===== NumberedByAge$Street.raise(II)I ===== -/
abbrev M_X8_raise : Mx := (cX8_raise, 4, RX8, (false, []), (some .int), 3, 69)
def f_X8_raise (h : Hp) (this : Nat) (x1 : Int32) (x2 : Int32) : Option (Int32 × Hp) :=
    (f_X10_isPlot h x1).bind fun v1 =>
    if v1 = 0 then
      some ((-1 : Int32), h)
    else
      (f_X10_isHeight h x2).bind fun v8 =>
      if v8 = 0 then
        some ((-1 : Int32), h)
      else
        (rcv h (some this) 8).bind fun a18 =>
        (f_X8_hasHouse h a18 x1).bind fun v18 =>
        if v18 = 0 then
          (gI h (some this) [8] 7).bind fun v28 =>
          if v28 < (30 : Int32) then
            (gR h (some this) [8] 9).bind fun v40 =>
            (f_V_numberFor h v40 (some this) x1 x2).bind fun v46 =>
            (gR h (some this) [8] 0).bind fun v51 =>
            (wI h v51 x1 v46).bind fun h56 =>
            (gR h56 (some this) [8] 1).bind fun v58 =>
            (wI h56 v58 x1 x2).bind fun h63 =>
            (gR h63 (some this) [8] 2).bind fun v65 =>
            (gI h63 (some this) [8] 7).bind fun v70 =>
            (wI h63 v65 x1 v70).bind fun h73 =>
            (gR h73 (some this) [8] 3).bind fun v75 =>
            (dvI x1 (4 : Int32)).bind fun v80 =>
            (aI h73 v75 v80).bind fun v82 =>
            (wI h73 v75 v80 (v82 + (1 : Int32))).bind fun h85 =>
            (gI h85 (some this) [8] 8).bind fun v88 =>
            (pF h85 (some this) [8] 8 (vI (v88 + (1 : Int32)))).bind fun h93 =>
            (rcv h93 (some this) 8).bind fun a99 =>
            (f_X8_addEvent h93 a99 x1 x2).bind fun h99 =>
            some (v46, h99)
          else
            some ((-2 : Int32), h)
        else
          some ((-3 : Int32), h)
set_option maxRecDepth 100000 in
set_option maxHeartbeats 4000000 in
theorem k_X8_raise (G : Gx) (l : Launch) {h : Hp} {this : Nat} {x1 : Int32} {x2 : Int32} {r : (Int32 × Hp)} (hf : f_X8_raise h this x1 x2 = some r) : KM l yX8_raise (.code yX8_raise cX8_raise 4 (some .int) :: wsK) 3 69 G [vR (some this), vI x1, vI x2] h (some (vI r.1)) r.2 := by
  refine r_entry (ctor := false) (own := RX8) (by decide +kernel) rfl (fun q => by cases q) (Nat.le_of_ble_eq_true rfl) ?_
  show RJ G l M_X8_raise (some (vI r.1)) r.2 0 [(0, vR (some this)), (1, vI x1), (2, vI x2)] [] h
  unfold f_X8_raise at hf
  refine r_iload_n 1 dX8_raise_0 rfl ?_
  obtain ⟨v1, e1, hf⟩ := ob hf
  refine r_callSN (y := yX10_isPlot) (avs := [vI x1]) dX8_raise_1 (by decide) kw_1_193 kw_1_1 kw_1_194 oky_X10_isPlot ⟨Nat.le_of_ble_eq_true rfl, Nat.le_of_ble_eq_true rfl⟩ rfl (Nat.le_of_ble_eq_true rfl) (k_X10_isPlot G l e1) ?_
  refine r_if_eq (tgt := 14) dX8_raise_4 (by decide) (fun c4 => ?_) (fun c4 => ?_)
  · replace hf := (if_pos c4).symm.trans hf
    refine r_iconst (x := (-1 : Int32)) dX8_raise_14 (by decide) ?_
    have hf := Option.some.inj hf
    subst hf
    exact r_iret rfl dX8_raise_15
  · replace hf := (if_neg c4).symm.trans hf
    refine r_iload_n 2 dX8_raise_7 rfl ?_
    obtain ⟨v8, e8, hf⟩ := ob hf
    refine r_callSN (y := yX10_isHeight) (avs := [vI x2]) dX8_raise_8 (by decide) kw_1_196 kw_1_1 kw_1_197 oky_X10_isHeight ⟨Nat.le_of_ble_eq_true rfl, Nat.le_of_ble_eq_true rfl⟩ rfl (Nat.le_of_ble_eq_true rfl) (k_X10_isHeight G l e8) ?_
    refine r_if_ne (tgt := 16) dX8_raise_11 (by decide) (fun c11 => ?_) (fun c11 => ?_)
    · replace hf := (if_pos c11).symm.trans hf
      refine r_iconst (x := (-1 : Int32)) dX8_raise_14 (by decide) ?_
      have hf := Option.some.inj hf
      subst hf
      exact r_iret rfl dX8_raise_15
    · replace hf := (if_neg c11).symm.trans hf
      refine r_aload_n 0 dX8_raise_16 rfl ?_
      refine r_iload_n 1 dX8_raise_17 rfl ?_
      obtain ⟨a18, ea18, hf⟩ := ob hf
      obtain ⟨v18, e18, hf⟩ := ob hf
      refine r_callV (y := yX8_hasHouse) (ci := 8) (avs := [vI x1]) dX8_raise_18 rfl kw_1_198 kw_1_199 kw_1_200 kw_1_2 kw_1_201 oky_X8_hasHouse ⟨Nat.le_of_ble_eq_true rfl, Nat.le_of_ble_eq_true rfl⟩ rfl (Nat.le_of_ble_eq_true rfl) ea18 (k_X8_hasHouse G l e18) ?_
      refine r_if_eq (tgt := 27) dX8_raise_21 (by decide) (fun c21 => ?_) (fun c21 => ?_)
      · replace hf := (if_pos c21).symm.trans hf
        refine r_aload_n 0 dX8_raise_27 rfl ?_
        obtain ⟨v28, e28, hf⟩ := ob hf
        refine r_get dX8_raise_28 fl_8_7 kw_1_69 (Or.inl rfl) (gI_sp e28) ?_
        refine r_bipush (x := (30 : Int32)) dX8_raise_31 (by decide) ?_
        refine r_icmp_lt (tgt := 39) dX8_raise_33 (by decide) (fun c33 => ?_) (fun c33 => ?_)
        · replace hf := (if_pos c33).symm.trans hf
          refine r_aload_n 0 dX8_raise_39 rfl ?_
          obtain ⟨v40, e40, hf⟩ := ob hf
          refine r_get dX8_raise_40 fl_8_9 kw_1_74 (Or.inl rfl) (gR_sp e40) ?_
          refine r_aload_n 0 dX8_raise_43 rfl ?_
          refine r_iload_n 1 dX8_raise_44 rfl ?_
          refine r_iload_n 2 dX8_raise_45 rfl ?_
          obtain ⟨v46, e46, hf⟩ := ob hf
          refine rv_numberFor dX8_raise_46 kw_1_206 ⟨Nat.le_of_ble_eq_true rfl, Nat.le_of_ble_eq_true rfl⟩ rfl (Nat.le_of_ble_eq_true rfl) e46 ?_
          refine r_istore_n (lv' := [(3, vI v46), (0, vR (some this)), (1, vI x1), (2, vI x2)]) dX8_raise_49 (Nat.le_of_ble_eq_true rfl) rfl ?_
          refine r_aload_n 1 dX8_raise_50 rfl ?_
          obtain ⟨v51, e51, hf⟩ := ob hf
          refine r_get dX8_raise_51 fl_8_0 kw_1_62 (Or.inl rfl) (gR_sp e51) ?_
          refine r_iload_n 2 dX8_raise_54 rfl ?_
          refine r_iload_n 0 dX8_raise_55 rfl ?_
          obtain ⟨h56, e56, hf⟩ := ob hf
          refine r_iastore dX8_raise_56 e56 ?_
          refine r_aload_n 1 dX8_raise_57 rfl ?_
          refine r_pc (pc' := 58) rfl ?_
          obtain ⟨v58, e58, hf⟩ := ob hf
          refine r_get dX8_raise_58 fl_8_1 kw_1_63 (Or.inl rfl) (gR_sp e58) ?_
          refine r_iload_n 2 dX8_raise_61 rfl ?_
          refine r_iload_n 3 dX8_raise_62 rfl ?_
          obtain ⟨h63, e63, hf⟩ := ob hf
          refine r_iastore dX8_raise_63 e63 ?_
          refine r_aload_n 1 dX8_raise_64 rfl ?_
          obtain ⟨v65, e65, hf⟩ := ob hf
          refine r_get dX8_raise_65 fl_8_2 kw_1_64 (Or.inl rfl) (gR_sp e65) ?_
          refine r_iload_n 2 dX8_raise_68 rfl ?_
          refine r_aload_n 1 dX8_raise_69 rfl ?_
          obtain ⟨v70, e70, hf⟩ := ob hf
          refine r_get dX8_raise_70 fl_8_7 kw_1_69 (Or.inl rfl) (gI_sp e70) ?_
          obtain ⟨h73, e73, hf⟩ := ob hf
          refine r_iastore dX8_raise_73 e73 ?_
          refine r_aload_n 1 dX8_raise_74 rfl ?_
          obtain ⟨v75, e75, hf⟩ := ob hf
          refine r_get dX8_raise_75 fl_8_3 kw_1_65 (Or.inl rfl) (gR_sp e75) ?_
          refine r_iload_n 2 dX8_raise_78 rfl ?_
          refine r_iconst (x := (4 : Int32)) dX8_raise_79 (by decide) ?_
          refine r_pc (pc' := 80) rfl ?_
          obtain ⟨v80, e80, hf⟩ := ob hf
          refine r_idiv dX8_raise_80 e80 ?_
          refine r_dup2 dX8_raise_81 rfl rfl ?_
          obtain ⟨v82, e82, hf⟩ := ob hf
          refine r_iaload dX8_raise_82 e82 ?_
          refine r_iconst (x := (1 : Int32)) dX8_raise_83 (by decide) ?_
          refine r_iadd dX8_raise_84 ?_
          obtain ⟨h85, e85, hf⟩ := ob hf
          refine r_iastore dX8_raise_85 e85 ?_
          refine r_aload_n 1 dX8_raise_86 rfl ?_
          refine r_dup dX8_raise_87 rfl ?_
          obtain ⟨v88, e88, hf⟩ := ob hf
          refine r_get dX8_raise_88 fl_8_8 kw_1_72 (Or.inl rfl) (gI_sp e88) ?_
          refine r_iconst (x := (1 : Int32)) dX8_raise_91 (by decide) ?_
          refine r_iadd dX8_raise_92 ?_
          obtain ⟨h93, e93, hf⟩ := ob hf
          refine r_put dX8_raise_93 fl_8_8 kw_1_72 (Or.inl rfl) (by decide +kernel) (fit_int _) e93 ?_
          refine r_aload_n 1 dX8_raise_96 rfl ?_
          refine r_iload_n 2 dX8_raise_97 rfl ?_
          refine r_pc (pc' := 98) rfl ?_
          refine r_iload_n 3 dX8_raise_98 rfl ?_
          obtain ⟨a99, ea99, hf⟩ := ob hf
          obtain ⟨h99, e99, hf⟩ := ob hf
          refine r_callV (y := yX8_addEvent) (ci := 8) (avs := [vI x1, vI x2]) dX8_raise_99 rfl kw_2_17 kw_2_19 kw_0_3 kw_1_2 kw_2_20 oky_X8_addEvent ⟨Nat.le_of_ble_eq_true rfl, Nat.le_of_ble_eq_true rfl⟩ rfl (Nat.le_of_ble_eq_true rfl) ea99 (k_X8_addEvent G l e99) ?_
          refine r_iload_n 0 dX8_raise_102 rfl ?_
          have hf := Option.some.inj hf
          subst hf
          exact r_iret rfl dX8_raise_103
        · replace hf := (if_neg c33).symm.trans hf
          refine r_bipush (x := (-2 : Int32)) dX8_raise_36 (by decide) ?_
          have hf := Option.some.inj hf
          subst hf
          exact r_iret rfl dX8_raise_38
      · replace hf := (if_neg c21).symm.trans hf
        refine r_bipush (x := (-3 : Int32)) dX8_raise_24 (by decide) ?_
        have hf := Option.some.inj hf
        subst hf
        exact r_iret rfl dX8_raise_26
/-! ===== NumberedByAge$Street.raze(I)I ===== -/
abbrev M_X8_raze : Mx := (cX8_raze, 3, RX8, (false, []), (some .int), 3, 62)
def f_X8_raze (h : Hp) (this : Nat) (x1 : Int32) : Option (Int32 × Hp) :=
    (f_X10_isPlot h x1).bind fun v1 =>
    if v1 = 0 then
      some ((-1 : Int32), h)
    else
      (rcv h (some this) 8).bind fun a11 =>
      (f_X8_hasHouse h a11 x1).bind fun v11 =>
      if v11 = 0 then
        some ((-3 : Int32), h)
      else
        (gI h (some this) [8] 7).bind fun v21 =>
        if v21 < (30 : Int32) then
          (gR h (some this) [8] 0).bind fun v33 =>
          (aI h v33 x1).bind fun v37 =>
          (gR h (some this) [8] 0).bind fun v40 =>
          (wI h v40 x1 (0 : Int32)).bind fun h45 =>
          (rcv h45 (some this) 8).bind fun a49 =>
          (f_X8_addEvent h45 a49 x1 (0 : Int32)).bind fun h49 =>
          some (v37, h49)
        else
          some ((-2 : Int32), h)
set_option maxRecDepth 100000 in
set_option maxHeartbeats 4000000 in
theorem k_X8_raze (G : Gx) (l : Launch) {h : Hp} {this : Nat} {x1 : Int32} {r : (Int32 × Hp)} (hf : f_X8_raze h this x1 = some r) : KM l yX8_raze (.code yX8_raze cX8_raze 3 (some .int) :: wsK) 3 62 G [vR (some this), vI x1] h (some (vI r.1)) r.2 := by
  refine r_entry (ctor := false) (own := RX8) (by decide +kernel) rfl (fun q => by cases q) (Nat.le_of_ble_eq_true rfl) ?_
  show RJ G l M_X8_raze (some (vI r.1)) r.2 0 [(0, vR (some this)), (1, vI x1)] [] h
  unfold f_X8_raze at hf
  refine r_iload_n 1 dX8_raze_0 rfl ?_
  obtain ⟨v1, e1, hf⟩ := ob hf
  refine r_callSN (y := yX10_isPlot) (avs := [vI x1]) dX8_raze_1 (by decide) kw_1_193 kw_1_1 kw_1_194 oky_X10_isPlot ⟨Nat.le_of_ble_eq_true rfl, Nat.le_of_ble_eq_true rfl⟩ rfl (Nat.le_of_ble_eq_true rfl) (k_X10_isPlot G l e1) ?_
  refine r_if_ne (tgt := 9) dX8_raze_4 (by decide) (fun c4 => ?_) (fun c4 => ?_)
  · replace hf := (if_pos c4).symm.trans hf
    refine r_iconst (x := (-1 : Int32)) dX8_raze_7 (by decide) ?_
    have hf := Option.some.inj hf
    subst hf
    exact r_iret rfl dX8_raze_8
  · replace hf := (if_neg c4).symm.trans hf
    refine r_aload_n 0 dX8_raze_9 rfl ?_
    refine r_iload_n 1 dX8_raze_10 rfl ?_
    obtain ⟨a11, ea11, hf⟩ := ob hf
    obtain ⟨v11, e11, hf⟩ := ob hf
    refine r_callV (y := yX8_hasHouse) (ci := 8) (avs := [vI x1]) dX8_raze_11 rfl kw_1_198 kw_1_199 kw_1_200 kw_1_2 kw_1_201 oky_X8_hasHouse ⟨Nat.le_of_ble_eq_true rfl, Nat.le_of_ble_eq_true rfl⟩ rfl (Nat.le_of_ble_eq_true rfl) ea11 (k_X8_hasHouse G l e11) ?_
    refine r_if_ne (tgt := 20) dX8_raze_14 (by decide) (fun c14 => ?_) (fun c14 => ?_)
    · replace hf := (if_pos c14).symm.trans hf
      refine r_bipush (x := (-3 : Int32)) dX8_raze_17 (by decide) ?_
      have hf := Option.some.inj hf
      subst hf
      exact r_iret rfl dX8_raze_19
    · replace hf := (if_neg c14).symm.trans hf
      refine r_aload_n 0 dX8_raze_20 rfl ?_
      obtain ⟨v21, e21, hf⟩ := ob hf
      refine r_get dX8_raze_21 fl_8_7 kw_1_69 (Or.inl rfl) (gI_sp e21) ?_
      refine r_bipush (x := (30 : Int32)) dX8_raze_24 (by decide) ?_
      refine r_icmp_lt (tgt := 32) dX8_raze_26 (by decide) (fun c26 => ?_) (fun c26 => ?_)
      · replace hf := (if_pos c26).symm.trans hf
        refine r_aload_n 0 dX8_raze_32 rfl ?_
        obtain ⟨v33, e33, hf⟩ := ob hf
        refine r_get dX8_raze_33 fl_8_0 kw_1_62 (Or.inl rfl) (gR_sp e33) ?_
        refine r_iload_n 1 dX8_raze_36 rfl ?_
        obtain ⟨v37, e37, hf⟩ := ob hf
        refine r_iaload dX8_raze_37 e37 ?_
        refine r_istore_n (lv' := [(2, vI v37), (0, vR (some this)), (1, vI x1)]) dX8_raze_38 (Nat.le_of_ble_eq_true rfl) rfl ?_
        refine r_aload_n 1 dX8_raze_39 rfl ?_
        obtain ⟨v40, e40, hf⟩ := ob hf
        refine r_get dX8_raze_40 fl_8_0 kw_1_62 (Or.inl rfl) (gR_sp e40) ?_
        refine r_iload_n 2 dX8_raze_43 rfl ?_
        refine r_iconst (x := (0 : Int32)) dX8_raze_44 (by decide) ?_
        obtain ⟨h45, e45, hf⟩ := ob hf
        refine r_iastore dX8_raze_45 e45 ?_
        refine r_aload_n 1 dX8_raze_46 rfl ?_
        refine r_iload_n 2 dX8_raze_47 rfl ?_
        refine r_iconst (x := (0 : Int32)) dX8_raze_48 (by decide) ?_
        refine r_pc (pc' := 49) rfl ?_
        obtain ⟨a49, ea49, hf⟩ := ob hf
        obtain ⟨h49, e49, hf⟩ := ob hf
        refine r_callV (y := yX8_addEvent) (ci := 8) (avs := [vI x1, vI (0 : Int32)]) dX8_raze_49 rfl kw_2_17 kw_2_19 kw_0_3 kw_1_2 kw_2_20 oky_X8_addEvent ⟨Nat.le_of_ble_eq_true rfl, Nat.le_of_ble_eq_true rfl⟩ rfl (Nat.le_of_ble_eq_true rfl) ea49 (k_X8_addEvent G l e49) ?_
        refine r_iload_n 0 dX8_raze_52 rfl ?_
        have hf := Option.some.inj hf
        subst hf
        exact r_iret rfl dX8_raze_53
      · replace hf := (if_neg c26).symm.trans hf
        refine r_bipush (x := (-2 : Int32)) dX8_raze_29 (by decide) ?_
        have hf := Option.some.inj hf
        subst hf
        exact r_iret rfl dX8_raze_31
/-! ===== NumberedByAge$Street.clear(LNumberedByAge$Law;)V ===== -/
abbrev M_X8_clear : Mx := (cX8_clear, 2, RX8, (false, []), none, 1, 23)
def f_X8_clear (h : Hp) (this : Nat) (x1 : Option Nat) : Option Hp :=
    (gR h (some this) [8] 0).bind fun v1 =>
    (f_J7_fill_53178 h v1 (0 : Int32)).bind fun h5 =>
    (gR h5 (some this) [8] 3).bind fun v9 =>
    (f_J7_fill_53178 h5 v9 (0 : Int32)).bind fun h13 =>
    (pF h13 (some this) [8] 7 (vI (0 : Int32))).bind fun h18 =>
    (pF h18 (some this) [8] 8 (vI (0 : Int32))).bind fun h23 =>
    (pF h23 (some this) [8] 9 (vR x1)).bind fun h28 =>
    some h28
set_option maxRecDepth 100000 in
set_option maxHeartbeats 4000000 in
theorem k_X8_clear (G : Gx) (l : Launch) {h : Hp} {this : Nat} {x1 : Option Nat} {r : Hp} (hf : f_X8_clear h this x1 = some r) : KM l yX8_clear (.code yX8_clear cX8_clear 2 none :: wsK) 1 23 G [vR (some this), vR x1] h none r := by
  refine r_entry (ctor := false) (own := RX8) (by decide +kernel) rfl (fun q => by cases q) (Nat.le_of_ble_eq_true rfl) ?_
  show RJ G l M_X8_clear none r 0 [(0, vR (some this)), (1, vR x1)] [] h
  unfold f_X8_clear at hf
  refine r_aload_n 0 dX8_clear_0 rfl ?_
  obtain ⟨v1, e1, hf⟩ := ob hf
  refine r_get dX8_clear_1 fl_8_0 kw_1_62 (Or.inl rfl) (gR_sp e1) ?_
  refine r_iconst (x := (0 : Int32)) dX8_clear_4 (by decide) ?_
  obtain ⟨h5, e5, hf⟩ := ob hf
  refine r_callS (y := yJ7_fill_53178) (avs := [vR v1, vI (0 : Int32)]) dX8_clear_5 kw_2_218 kw_2_219 kw_1_15 kw_2_220 oky_J7_fill_53178 ⟨Nat.le_of_ble_eq_true rfl, Nat.le_of_ble_eq_true rfl⟩ rfl (Nat.le_of_ble_eq_true rfl) (k_J7_fill_53178 G l e5) ?_
  refine r_aload_n 0 dX8_clear_8 rfl ?_
  obtain ⟨v9, e9, hf⟩ := ob hf
  refine r_get dX8_clear_9 fl_8_3 kw_1_65 (Or.inl rfl) (gR_sp e9) ?_
  refine r_iconst (x := (0 : Int32)) dX8_clear_12 (by decide) ?_
  obtain ⟨h13, e13, hf⟩ := ob hf
  refine r_callS (y := yJ7_fill_53178) (avs := [vR v9, vI (0 : Int32)]) dX8_clear_13 kw_2_218 kw_2_219 kw_1_15 kw_2_220 oky_J7_fill_53178 ⟨Nat.le_of_ble_eq_true rfl, Nat.le_of_ble_eq_true rfl⟩ rfl (Nat.le_of_ble_eq_true rfl) (k_J7_fill_53178 G l e13) ?_
  refine r_aload_n 0 dX8_clear_16 rfl ?_
  refine r_iconst (x := (0 : Int32)) dX8_clear_17 (by decide) ?_
  obtain ⟨h18, e18, hf⟩ := ob hf
  refine r_put dX8_clear_18 fl_8_7 kw_1_69 (Or.inl rfl) (by decide +kernel) (fit_int _) e18 ?_
  refine r_aload_n 0 dX8_clear_21 rfl ?_
  refine r_iconst (x := (0 : Int32)) dX8_clear_22 (by decide) ?_
  refine r_pc (pc' := 23) rfl ?_
  obtain ⟨h23, e23, hf⟩ := ob hf
  refine r_put dX8_clear_23 fl_8_8 kw_1_72 (Or.inl rfl) (by decide +kernel) (fit_int _) e23 ?_
  refine r_aload_n 0 dX8_clear_26 rfl ?_
  refine r_aload_n 1 dX8_clear_27 rfl ?_
  obtain ⟨h28, e28, hf⟩ := ob hf
  refine r_put dX8_clear_28 fl_8_9 kw_1_74 (Or.inl rfl) (by decide +kernel) (fit_ref "NumberedByAge$Law" _) e28 ?_
  have hf := Option.some.inj hf
  subst hf
  exact r_vret rfl dX8_clear_31
/-! ===== NumberedByAge$Street.goThrough(LNumberedByAge$Street;LNumberedByAge$Law;)V ===== -/
abbrev M_X8_goThrough : Mx := (cX8_goThrough, 4, RX8, (false, []), none, 4, 92)
def f_X8_goThrough_61 (this : Nat) (k7 : Hp → (Option Nat) → Int32 → Option Hp) (h : Hp) (x1 : Option Nat) (x3 : Int32) : Option Hp :=
    k7 h x1 (x3 + 1)
set_option maxRecDepth 100000 in
set_option maxHeartbeats 4000000 in
theorem t_X8_goThrough_61 (G : Gx) (l : Launch) (this : Nat) (k7 : Hp → (Option Nat) → Int32 → Option Hp) (hk7 : ∀ (h : Hp) (x1 : Option Nat) (x3 : Int32) (r : Hp), k7 h x1 x3 = some r → RJ G l M_X8_goThrough none r 7 [(0, vR (some this)), (1, vR x1), (3, vI x3)] [] h) (h : Hp) (x1 : Option Nat) (x3 : Int32) (r : Hp) (hf : f_X8_goThrough_61 this k7 h x1 x3 = some r) : RJ G l M_X8_goThrough none r 61 [(0, vR (some this)), (1, vR x1), (3, vI x3)] [] h := by
  unfold f_X8_goThrough_61 at hf
  refine r_iinc (y := (x3 + 1)) (lv' := [(3, vI (x3 + 1)), (0, vR (some this)), (1, vR x1)]) 2 dX8_goThrough_61 rfl rfl (Nat.le_of_ble_eq_true rfl) rfl ?_
  refine r_goto (tgt := 7) dX8_goThrough_64 (by decide) ?_
  exact r_sub [1, 2, 0] rfl (hk7 _ _ _ _ hf)
def f_X8_goThrough_7 (this : Nat) : Nat → Hp → (Option Nat) → Int32 → Option Hp
  | 0, _, _, _ => none
  | n + 1, h, x1, x3 =>
    if (30 : Int32) ≤ x3 then
      some h
    else
      (gI h x1 [8] 7).bind fun v15 =>
      if v15 ≤ x3 then
        some h
      else
        (gR h x1 [8] 5).bind fun v22 =>
        (aI h v22 x3).bind fun v26 =>
        if v26 = 0 then
          (gR h x1 [8] 4).bind fun v32 =>
          (aI h v32 x3).bind fun v36 =>
          (rcv h (some this) 8).bind fun a37 =>
          (f_X8_raze h a37 v36).bind fun q37 =>
          f_X8_goThrough_61 this (f_X8_goThrough_7 this n) q37.2 x1 x3
        else
          (gR h x1 [8] 4).bind fun v46 =>
          (aI h v46 x3).bind fun v50 =>
          (gR h x1 [8] 5).bind fun v52 =>
          (aI h v52 x3).bind fun v56 =>
          (rcv h (some this) 8).bind fun a57 =>
          (f_X8_raise h a57 v50 v56).bind fun q57 =>
          f_X8_goThrough_61 this (f_X8_goThrough_7 this n) q57.2 x1 x3
set_option maxRecDepth 100000 in
set_option maxHeartbeats 4000000 in
theorem t_X8_goThrough_7 (G : Gx) (l : Launch) (this : Nat)  : ∀ (n : Nat) (h : Hp) (x1 : Option Nat) (x3 : Int32) (r : Hp), f_X8_goThrough_7 this n h x1 x3 = some r → RJ G l M_X8_goThrough none r 7 [(0, vR (some this)), (1, vR x1), (3, vI x3)] [] h := by
  intro n
  induction n with
  | zero =>
    intro h x1 x3 r hf
    rw [f_X8_goThrough_7] at hf
    cases hf
  | succ n ih =>
    intro h x1 x3 r hf
    rw [f_X8_goThrough_7] at hf
    refine r_iload_n 2 dX8_goThrough_7 rfl ?_
    refine r_bipush (x := (30 : Int32)) dX8_goThrough_8 (by decide) ?_
    refine r_icmp_ge (tgt := 67) dX8_goThrough_10 (by decide) (fun c10 => ?_) (fun c10 => ?_)
    · replace hf := (if_pos c10).symm.trans hf
      have hf := Option.some.inj hf
      subst hf
      exact r_vret rfl dX8_goThrough_67
    · replace hf := (if_neg c10).symm.trans hf
      refine r_iload_n 2 dX8_goThrough_13 rfl ?_
      refine r_aload_n 1 dX8_goThrough_14 rfl ?_
      obtain ⟨v15, e15, hf⟩ := ob hf
      refine r_get dX8_goThrough_15 fl_8_7 kw_1_69 (Or.inl rfl) (gI_sp e15) ?_
      refine r_icmp_ge (tgt := 67) dX8_goThrough_18 (by decide) (fun c18 => ?_) (fun c18 => ?_)
      · replace hf := (if_pos c18).symm.trans hf
        have hf := Option.some.inj hf
        subst hf
        exact r_vret rfl dX8_goThrough_67
      · replace hf := (if_neg c18).symm.trans hf
        refine r_aload_n 1 dX8_goThrough_21 rfl ?_
        obtain ⟨v22, e22, hf⟩ := ob hf
        refine r_get dX8_goThrough_22 fl_8_5 kw_1_67 (Or.inl rfl) (gR_sp e22) ?_
        refine r_iload_n 2 dX8_goThrough_25 rfl ?_
        obtain ⟨v26, e26, hf⟩ := ob hf
        refine r_iaload dX8_goThrough_26 e26 ?_
        refine r_if_ne (tgt := 44) dX8_goThrough_27 (by decide) (fun c27 => ?_) (fun c27 => ?_)
        · replace hf := (if_pos c27).symm.trans hf
          refine r_aload_n 0 dX8_goThrough_30 rfl ?_
          refine r_aload_n 1 dX8_goThrough_31 rfl ?_
          obtain ⟨v32, e32, hf⟩ := ob hf
          refine r_get dX8_goThrough_32 fl_8_4 kw_1_66 (Or.inl rfl) (gR_sp e32) ?_
          refine r_iload_n 2 dX8_goThrough_35 rfl ?_
          obtain ⟨v36, e36, hf⟩ := ob hf
          refine r_iaload dX8_goThrough_36 e36 ?_
          obtain ⟨a37, ea37, hf⟩ := ob hf
          obtain ⟨q37, e37, hf⟩ := ob hf
          refine r_callV (y := yX8_raze) (ci := 8) (avs := [vI v36]) dX8_goThrough_37 rfl kw_2_221 kw_2_22 kw_2_23 kw_1_2 kw_2_24 oky_X8_raze ⟨Nat.le_of_ble_eq_true rfl, Nat.le_of_ble_eq_true rfl⟩ rfl (Nat.le_of_ble_eq_true rfl) ea37 (k_X8_raze G l e37) ?_
          refine r_pop dX8_goThrough_40 rfl ?_
          refine r_goto (tgt := 61) dX8_goThrough_41 (by decide) ?_
          exact r_sub [0, 1, 2] rfl (t_X8_goThrough_61 G l _ (f_X8_goThrough_7 this n) ih _ _ _ _ hf)
        · replace hf := (if_neg c27).symm.trans hf
          refine r_aload_n 0 dX8_goThrough_44 rfl ?_
          refine r_aload_n 1 dX8_goThrough_45 rfl ?_
          obtain ⟨v46, e46, hf⟩ := ob hf
          refine r_get dX8_goThrough_46 fl_8_4 kw_1_66 (Or.inl rfl) (gR_sp e46) ?_
          refine r_iload_n 2 dX8_goThrough_49 rfl ?_
          obtain ⟨v50, e50, hf⟩ := ob hf
          refine r_iaload dX8_goThrough_50 e50 ?_
          refine r_aload_n 1 dX8_goThrough_51 rfl ?_
          obtain ⟨v52, e52, hf⟩ := ob hf
          refine r_get dX8_goThrough_52 fl_8_5 kw_1_67 (Or.inl rfl) (gR_sp e52) ?_
          refine r_iload_n 2 dX8_goThrough_55 rfl ?_
          obtain ⟨v56, e56, hf⟩ := ob hf
          refine r_iaload dX8_goThrough_56 e56 ?_
          obtain ⟨a57, ea57, hf⟩ := ob hf
          obtain ⟨q57, e57, hf⟩ := ob hf
          refine r_callV (y := yX8_raise) (ci := 8) (avs := [vI v50, vI v56]) dX8_goThrough_57 rfl kw_2_222 kw_1_189 kw_1_190 kw_1_2 kw_1_191 oky_X8_raise ⟨Nat.le_of_ble_eq_true rfl, Nat.le_of_ble_eq_true rfl⟩ rfl (Nat.le_of_ble_eq_true rfl) ea57 (k_X8_raise G l e57) ?_
          refine r_pop dX8_goThrough_60 rfl ?_
          exact r_sub [0, 1, 2] rfl (t_X8_goThrough_61 G l _ (f_X8_goThrough_7 this n) ih _ _ _ _ hf)
def f_X8_goThrough (h : Hp) (this : Nat) (x1 : Option Nat) (x2 : Option Nat) : Option Hp :=
    (rcv h (some this) 8).bind fun a2 =>
    (f_X8_clear h a2 x2).bind fun h2 =>
    f_X8_goThrough_7 this 10000 h2 x1 (0 : Int32)
set_option maxRecDepth 100000 in
set_option maxHeartbeats 4000000 in
theorem k_X8_goThrough (G : Gx) (l : Launch) {h : Hp} {this : Nat} {x1 : Option Nat} {x2 : Option Nat} {r : Hp} (hf : f_X8_goThrough h this x1 x2 = some r) : KM l yX8_goThrough (.code yX8_goThrough cX8_goThrough 4 none :: wsK) 4 92 G [vR (some this), vR x1, vR x2] h none r := by
  refine r_entry (ctor := false) (own := RX8) (by decide +kernel) rfl (fun q => by cases q) (Nat.le_of_ble_eq_true rfl) ?_
  show RJ G l M_X8_goThrough none r 0 [(0, vR (some this)), (1, vR x1), (2, vR x2)] [] h
  unfold f_X8_goThrough at hf
  refine r_aload_n 0 dX8_goThrough_0 rfl ?_
  refine r_aload_n 2 dX8_goThrough_1 rfl ?_
  obtain ⟨a2, ea2, hf⟩ := ob hf
  obtain ⟨h2, e2, hf⟩ := ob hf
  refine r_callV (y := yX8_clear) (ci := 8) (avs := [vR x2]) dX8_goThrough_2 rfl kw_2_214 kw_2_215 kw_2_216 kw_1_2 kw_2_217 oky_X8_clear ⟨Nat.le_of_ble_eq_true rfl, Nat.le_of_ble_eq_true rfl⟩ rfl (Nat.le_of_ble_eq_true rfl) ea2 (k_X8_clear G l e2) ?_
  refine r_iconst (x := (0 : Int32)) dX8_goThrough_5 (by decide) ?_
  refine r_istore_n (lv' := [(3, vI (0 : Int32)), (0, vR (some this)), (1, vR x1), (2, vR x2)]) dX8_goThrough_6 (Nat.le_of_ble_eq_true rfl) rfl ?_
  exact r_sub [1, 2, 0] rfl (t_X8_goThrough_7 G l _ _ _ _ _ _ hf)
/-! ===== NumberedByAge$Street.become(LNumberedByAge$Street;)V ===== -/
abbrev M_X8_become : Mx := (cX8_become, 2, RX8, (false, []), none, 1, 40)
def f_X8_become (h : Hp) (this : Nat) (x1 : Option Nat) : Option Hp :=
    (gR h x1 [8] 0).bind fun v1 =>
    (gR h (some this) [8] 0).bind fun v6 =>
    (cpI h v1 (0 : Int32) v6 (0 : Int32) (12 : Int32)).bind fun h12 =>
    (gR h12 x1 [8] 1).bind fun v16 =>
    (gR h12 (some this) [8] 1).bind fun v21 =>
    (cpI h12 v16 (0 : Int32) v21 (0 : Int32) (12 : Int32)).bind fun h27 =>
    (gR h27 x1 [8] 2).bind fun v31 =>
    (gR h27 (some this) [8] 2).bind fun v36 =>
    (cpI h27 v31 (0 : Int32) v36 (0 : Int32) (12 : Int32)).bind fun h42 =>
    (gR h42 x1 [8] 3).bind fun v46 =>
    (gR h42 (some this) [8] 3).bind fun v51 =>
    (cpI h42 v46 (0 : Int32) v51 (0 : Int32) (3 : Int32)).bind fun h56 =>
    (gR h56 x1 [8] 4).bind fun v60 =>
    (gR h56 (some this) [8] 4).bind fun v65 =>
    (cpI h56 v60 (0 : Int32) v65 (0 : Int32) (30 : Int32)).bind fun h71 =>
    (gR h71 x1 [8] 5).bind fun v75 =>
    (gR h71 (some this) [8] 5).bind fun v80 =>
    (cpI h71 v75 (0 : Int32) v80 (0 : Int32) (30 : Int32)).bind fun h86 =>
    (gI h86 x1 [8] 7).bind fun v91 =>
    (pF h86 (some this) [8] 7 (vI v91)).bind fun h94 =>
    (gI h94 x1 [8] 8).bind fun v99 =>
    (pF h94 (some this) [8] 8 (vI v99)).bind fun h102 =>
    (gR h102 x1 [8] 9).bind fun v107 =>
    (pF h102 (some this) [8] 9 (vR v107)).bind fun h110 =>
    some h110
set_option maxRecDepth 100000 in
set_option maxHeartbeats 4000000 in
theorem k_X8_become (G : Gx) (l : Launch) {h : Hp} {this : Nat} {x1 : Option Nat} {r : Hp} (hf : f_X8_become h this x1 = some r) : KM l yX8_become (.code yX8_become cX8_become 2 none :: wsK) 1 40 G [vR (some this), vR x1] h none r := by
  refine r_entry (ctor := false) (own := RX8) (by decide +kernel) rfl (fun q => by cases q) (Nat.le_of_ble_eq_true rfl) ?_
  show RJ G l M_X8_become none r 0 [(0, vR (some this)), (1, vR x1)] [] h
  unfold f_X8_become at hf
  refine r_aload_n 1 dX8_become_0 rfl ?_
  obtain ⟨v1, e1, hf⟩ := ob hf
  refine r_get dX8_become_1 fl_8_0 kw_1_62 (Or.inl rfl) (gR_sp e1) ?_
  refine r_iconst (x := (0 : Int32)) dX8_become_4 (by decide) ?_
  refine r_aload_n 0 dX8_become_5 rfl ?_
  obtain ⟨v6, e6, hf⟩ := ob hf
  refine r_get dX8_become_6 fl_8_0 kw_1_62 (Or.inl rfl) (gR_sp e6) ?_
  refine r_iconst (x := (0 : Int32)) dX8_become_9 (by decide) ?_
  refine r_bipush (x := (12 : Int32)) dX8_become_10 (by decide) ?_
  obtain ⟨h12, e12, hf⟩ := ob hf
  refine r_copy dX8_become_12 kw_1_181 kw_1_183 kw_1_182 kw_1_6 (Nat.le_of_ble_eq_true rfl) (Nat.le_of_ble_eq_true rfl) (Nat.le_of_ble_eq_true rfl) e12 ?_
  refine r_aload_n 1 dX8_become_15 rfl ?_
  obtain ⟨v16, e16, hf⟩ := ob hf
  refine r_get dX8_become_16 fl_8_1 kw_1_63 (Or.inl rfl) (gR_sp e16) ?_
  refine r_iconst (x := (0 : Int32)) dX8_become_19 (by decide) ?_
  refine r_aload_n 0 dX8_become_20 rfl ?_
  obtain ⟨v21, e21, hf⟩ := ob hf
  refine r_get dX8_become_21 fl_8_1 kw_1_63 (Or.inl rfl) (gR_sp e21) ?_
  refine r_pc (pc' := 24) rfl ?_
  refine r_iconst (x := (0 : Int32)) dX8_become_24 (by decide) ?_
  refine r_bipush (x := (12 : Int32)) dX8_become_25 (by decide) ?_
  obtain ⟨h27, e27, hf⟩ := ob hf
  refine r_copy dX8_become_27 kw_1_181 kw_1_183 kw_1_182 kw_1_6 (Nat.le_of_ble_eq_true rfl) (Nat.le_of_ble_eq_true rfl) (Nat.le_of_ble_eq_true rfl) e27 ?_
  refine r_aload_n 1 dX8_become_30 rfl ?_
  obtain ⟨v31, e31, hf⟩ := ob hf
  refine r_get dX8_become_31 fl_8_2 kw_1_64 (Or.inl rfl) (gR_sp e31) ?_
  refine r_iconst (x := (0 : Int32)) dX8_become_34 (by decide) ?_
  refine r_aload_n 0 dX8_become_35 rfl ?_
  obtain ⟨v36, e36, hf⟩ := ob hf
  refine r_get dX8_become_36 fl_8_2 kw_1_64 (Or.inl rfl) (gR_sp e36) ?_
  refine r_iconst (x := (0 : Int32)) dX8_become_39 (by decide) ?_
  refine r_bipush (x := (12 : Int32)) dX8_become_40 (by decide) ?_
  obtain ⟨h42, e42, hf⟩ := ob hf
  refine r_copy dX8_become_42 kw_1_181 kw_1_183 kw_1_182 kw_1_6 (Nat.le_of_ble_eq_true rfl) (Nat.le_of_ble_eq_true rfl) (Nat.le_of_ble_eq_true rfl) e42 ?_
  refine r_aload_n 1 dX8_become_45 rfl ?_
  obtain ⟨v46, e46, hf⟩ := ob hf
  refine r_get dX8_become_46 fl_8_3 kw_1_65 (Or.inl rfl) (gR_sp e46) ?_
  refine r_iconst (x := (0 : Int32)) dX8_become_49 (by decide) ?_
  refine r_pc (pc' := 50) rfl ?_
  refine r_aload_n 0 dX8_become_50 rfl ?_
  obtain ⟨v51, e51, hf⟩ := ob hf
  refine r_get dX8_become_51 fl_8_3 kw_1_65 (Or.inl rfl) (gR_sp e51) ?_
  refine r_iconst (x := (0 : Int32)) dX8_become_54 (by decide) ?_
  refine r_iconst (x := (3 : Int32)) dX8_become_55 (by decide) ?_
  obtain ⟨h56, e56, hf⟩ := ob hf
  refine r_copy dX8_become_56 kw_1_181 kw_1_183 kw_1_182 kw_1_6 (Nat.le_of_ble_eq_true rfl) (Nat.le_of_ble_eq_true rfl) (Nat.le_of_ble_eq_true rfl) e56 ?_
  refine r_aload_n 1 dX8_become_59 rfl ?_
  obtain ⟨v60, e60, hf⟩ := ob hf
  refine r_get dX8_become_60 fl_8_4 kw_1_66 (Or.inl rfl) (gR_sp e60) ?_
  refine r_iconst (x := (0 : Int32)) dX8_become_63 (by decide) ?_
  refine r_aload_n 0 dX8_become_64 rfl ?_
  obtain ⟨v65, e65, hf⟩ := ob hf
  refine r_get dX8_become_65 fl_8_4 kw_1_66 (Or.inl rfl) (gR_sp e65) ?_
  refine r_iconst (x := (0 : Int32)) dX8_become_68 (by decide) ?_
  refine r_bipush (x := (30 : Int32)) dX8_become_69 (by decide) ?_
  obtain ⟨h71, e71, hf⟩ := ob hf
  refine r_copy dX8_become_71 kw_1_181 kw_1_183 kw_1_182 kw_1_6 (Nat.le_of_ble_eq_true rfl) (Nat.le_of_ble_eq_true rfl) (Nat.le_of_ble_eq_true rfl) e71 ?_
  refine r_aload_n 1 dX8_become_74 rfl ?_
  refine r_pc (pc' := 75) rfl ?_
  obtain ⟨v75, e75, hf⟩ := ob hf
  refine r_get dX8_become_75 fl_8_5 kw_1_67 (Or.inl rfl) (gR_sp e75) ?_
  refine r_iconst (x := (0 : Int32)) dX8_become_78 (by decide) ?_
  refine r_aload_n 0 dX8_become_79 rfl ?_
  obtain ⟨v80, e80, hf⟩ := ob hf
  refine r_get dX8_become_80 fl_8_5 kw_1_67 (Or.inl rfl) (gR_sp e80) ?_
  refine r_iconst (x := (0 : Int32)) dX8_become_83 (by decide) ?_
  refine r_bipush (x := (30 : Int32)) dX8_become_84 (by decide) ?_
  obtain ⟨h86, e86, hf⟩ := ob hf
  refine r_copy dX8_become_86 kw_1_181 kw_1_183 kw_1_182 kw_1_6 (Nat.le_of_ble_eq_true rfl) (Nat.le_of_ble_eq_true rfl) (Nat.le_of_ble_eq_true rfl) e86 ?_
  refine r_aload_n 0 dX8_become_89 rfl ?_
  refine r_aload_n 1 dX8_become_90 rfl ?_
  obtain ⟨v91, e91, hf⟩ := ob hf
  refine r_get dX8_become_91 fl_8_7 kw_1_69 (Or.inl rfl) (gI_sp e91) ?_
  obtain ⟨h94, e94, hf⟩ := ob hf
  refine r_put dX8_become_94 fl_8_7 kw_1_69 (Or.inl rfl) (by decide +kernel) (fit_int _) e94 ?_
  refine r_aload_n 0 dX8_become_97 rfl ?_
  refine r_aload_n 1 dX8_become_98 rfl ?_
  obtain ⟨v99, e99, hf⟩ := ob hf
  refine r_get dX8_become_99 fl_8_8 kw_1_72 (Or.inl rfl) (gI_sp e99) ?_
  refine r_pc (pc' := 102) rfl ?_
  obtain ⟨h102, e102, hf⟩ := ob hf
  refine r_put dX8_become_102 fl_8_8 kw_1_72 (Or.inl rfl) (by decide +kernel) (fit_int _) e102 ?_
  refine r_aload_n 0 dX8_become_105 rfl ?_
  refine r_aload_n 1 dX8_become_106 rfl ?_
  obtain ⟨v107, e107, hf⟩ := ob hf
  refine r_get dX8_become_107 fl_8_9 kw_1_74 (Or.inl rfl) (gR_sp e107) ?_
  obtain ⟨h110, e110, hf⟩ := ob hf
  refine r_put dX8_become_110 fl_8_9 kw_1_74 (Or.inl rfl) (by decide +kernel) (fit_ref "NumberedByAge$Law" _) e110 ?_
  have hf := Option.some.inj hf
  subst hf
  exact r_vret rfl dX8_become_113
/-! ===== NumberedByAge$Street.plotsWith(I)I ===== -/
abbrev M_X8_plotsWith : Mx := (cX8_plotsWith, 4, RX8, (false, []), (some .int), 0, 0)
def f_X8_plotsWith_35 (h : Hp) (this : Nat) (k4 : Int32 → Int32 → Int32 → Option Int32) (x1 : Int32) (x2 : Int32) (x3 : Int32) : Option Int32 :=
    k4 x1 x2 (x3 + 1)
set_option maxRecDepth 100000 in
set_option maxHeartbeats 4000000 in
theorem t_X8_plotsWith_35 (G : Gx) (l : Launch) (h : Hp) (this : Nat) (k4 : Int32 → Int32 → Int32 → Option Int32) (hk4 : ∀ (x1 : Int32) (x2 : Int32) (x3 : Int32) (r : Int32), k4 x1 x2 x3 = some r → RJ G l M_X8_plotsWith (some (vI r)) h 4 [(0, vR (some this)), (1, vI x1), (2, vI x2), (3, vI x3)] [] h) (x1 : Int32) (x2 : Int32) (x3 : Int32) (r : Int32) (hf : f_X8_plotsWith_35 h this k4 x1 x2 x3 = some r) : RJ G l M_X8_plotsWith (some (vI r)) h 35 [(0, vR (some this)), (1, vI x1), (2, vI x2), (3, vI x3)] [] h := by
  unfold f_X8_plotsWith_35 at hf
  refine r_iinc (y := (x3 + 1)) (lv' := [(3, vI (x3 + 1)), (0, vR (some this)), (1, vI x1), (2, vI x2)]) 3 dX8_plotsWith_35 rfl rfl (Nat.le_of_ble_eq_true rfl) rfl ?_
  refine r_goto (tgt := 4) dX8_plotsWith_38 (by decide) ?_
  exact r_sub [1, 2, 3, 0] rfl (hk4 _ _ _ _ hf)
def f_X8_plotsWith_4 (h : Hp) (this : Nat) : Nat → Int32 → Int32 → Int32 → Option Int32
  | 0, _, _, _ => none
  | n + 1, x1, x2, x3 =>
    if (12 : Int32) ≤ x3 then
      some x2
    else
      (gR h (some this) [8] 0).bind fun v11 =>
      (aI h v11 x3).bind fun v15 =>
      if v15 = 0 then
        f_X8_plotsWith_35 h this (f_X8_plotsWith_4 h this n) x1 x2 x3
      else
        (gR h (some this) [8] 0).bind fun v20 =>
        (aI h v20 x3).bind fun v24 =>
        if v24 = x1 then
          f_X8_plotsWith_35 h this (f_X8_plotsWith_4 h this n) x1 (x2 ||| ((1 : Int32) <<< (x3 &&& 31))) x3
        else
          f_X8_plotsWith_35 h this (f_X8_plotsWith_4 h this n) x1 x2 x3
set_option maxRecDepth 100000 in
set_option maxHeartbeats 4000000 in
theorem t_X8_plotsWith_4 (G : Gx) (l : Launch) (h : Hp) (this : Nat)  : ∀ (n : Nat) (x1 : Int32) (x2 : Int32) (x3 : Int32) (r : Int32), f_X8_plotsWith_4 h this n x1 x2 x3 = some r → RJ G l M_X8_plotsWith (some (vI r)) h 4 [(0, vR (some this)), (1, vI x1), (2, vI x2), (3, vI x3)] [] h := by
  intro n
  induction n with
  | zero =>
    intro x1 x2 x3 r hf
    rw [f_X8_plotsWith_4] at hf
    cases hf
  | succ n ih =>
    intro x1 x2 x3 r hf
    rw [f_X8_plotsWith_4] at hf
    refine r_iload_n 3 dX8_plotsWith_4 rfl ?_
    refine r_bipush (x := (12 : Int32)) dX8_plotsWith_5 (by decide) ?_
    refine r_icmp_ge (tgt := 41) dX8_plotsWith_7 (by decide) (fun c7 => ?_) (fun c7 => ?_)
    · replace hf := (if_pos c7).symm.trans hf
      refine r_iload_n 2 dX8_plotsWith_41 rfl ?_
      have hf := Option.some.inj hf
      subst hf
      exact r_iret rfl dX8_plotsWith_42
    · replace hf := (if_neg c7).symm.trans hf
      refine r_aload_n 0 dX8_plotsWith_10 rfl ?_
      obtain ⟨v11, e11, hf⟩ := ob hf
      refine r_get dX8_plotsWith_11 fl_8_0 kw_1_62 (Or.inl rfl) (gR_sp e11) ?_
      refine r_iload_n 3 dX8_plotsWith_14 rfl ?_
      obtain ⟨v15, e15, hf⟩ := ob hf
      refine r_iaload dX8_plotsWith_15 e15 ?_
      refine r_if_eq (tgt := 35) dX8_plotsWith_16 (by decide) (fun c16 => ?_) (fun c16 => ?_)
      · replace hf := (if_pos c16).symm.trans hf
        exact r_sub [0, 1, 2, 3] rfl (t_X8_plotsWith_35 G l _ _ (f_X8_plotsWith_4 h this n) ih _ _ _ _ hf)
      · replace hf := (if_neg c16).symm.trans hf
        refine r_aload_n 0 dX8_plotsWith_19 rfl ?_
        obtain ⟨v20, e20, hf⟩ := ob hf
        refine r_get dX8_plotsWith_20 fl_8_0 kw_1_62 (Or.inl rfl) (gR_sp e20) ?_
        refine r_iload_n 3 dX8_plotsWith_23 rfl ?_
        obtain ⟨v24, e24, hf⟩ := ob hf
        refine r_iaload dX8_plotsWith_24 e24 ?_
        refine r_iload_n 1 dX8_plotsWith_25 rfl ?_
        refine r_icmp_ne (tgt := 35) dX8_plotsWith_26 (by decide) (fun c26 => ?_) (fun c26 => ?_)
        · replace hf := (if_pos c26).symm.trans hf
          refine r_iload_n 2 dX8_plotsWith_29 rfl ?_
          refine r_iconst (x := (1 : Int32)) dX8_plotsWith_30 (by decide) ?_
          refine r_iload_n 3 dX8_plotsWith_31 rfl ?_
          refine r_ishl dX8_plotsWith_32 ?_
          refine r_ior dX8_plotsWith_33 ?_
          refine r_istore_n (lv' := [(2, vI (x2 ||| ((1 : Int32) <<< (x3 &&& 31)))), (0, vR (some this)), (1, vI x1), (3, vI x3)]) dX8_plotsWith_34 (Nat.le_of_ble_eq_true rfl) rfl ?_
          exact r_sub [1, 2, 0, 3] rfl (t_X8_plotsWith_35 G l _ _ (f_X8_plotsWith_4 h this n) ih _ _ _ _ hf)
        · replace hf := (if_neg c26).symm.trans hf
          exact r_sub [0, 1, 2, 3] rfl (t_X8_plotsWith_35 G l _ _ (f_X8_plotsWith_4 h this n) ih _ _ _ _ hf)
def f_X8_plotsWith (h : Hp) (this : Nat) (x1 : Int32) : Option Int32 :=
    f_X8_plotsWith_4 h this 10000 x1 (0 : Int32) (0 : Int32)
set_option maxRecDepth 100000 in
set_option maxHeartbeats 4000000 in
theorem k_X8_plotsWith (G : Gx) (l : Launch) {h : Hp} {this : Nat} {x1 : Int32} {r : Int32} (hf : f_X8_plotsWith h this x1 = some r) : KM l yX8_plotsWith (.code yX8_plotsWith cX8_plotsWith 4 (some .int) :: wsK) 0 0 G [vR (some this), vI x1] h (some (vI r)) h := by
  refine r_entry (ctor := false) (own := RX8) (by decide +kernel) rfl (fun q => by cases q) (Nat.le_of_ble_eq_true rfl) ?_
  show RJ G l M_X8_plotsWith (some (vI r)) h 0 [(0, vR (some this)), (1, vI x1)] [] h
  unfold f_X8_plotsWith at hf
  refine r_iconst (x := (0 : Int32)) dX8_plotsWith_0 (by decide) ?_
  refine r_istore_n (lv' := [(2, vI (0 : Int32)), (0, vR (some this)), (1, vI x1)]) dX8_plotsWith_1 (Nat.le_of_ble_eq_true rfl) rfl ?_
  refine r_iconst (x := (0 : Int32)) dX8_plotsWith_2 (by decide) ?_
  refine r_istore_n (lv' := [(3, vI (0 : Int32)), (2, vI (0 : Int32)), (0, vR (some this)), (1, vI x1)]) dX8_plotsWith_3 (Nat.le_of_ble_eq_true rfl) rfl ?_
  exact r_sub [2, 3, 1, 0] rfl (t_X8_plotsWith_4 G l _ _ _ _ _ _ _ hf)
/-! ===== NumberedByAge$Street.houses()I ===== -/
abbrev M_X8_houses : Mx := (cX8_houses, 3, RX8, (false, []), (some .int), 0, 0)
def f_X8_houses_22 (h : Hp) (this : Nat) (k4 : Int32 → Int32 → Option Int32) (x1 : Int32) (x2 : Int32) : Option Int32 :=
    k4 x1 (x2 + 1)
set_option maxRecDepth 100000 in
set_option maxHeartbeats 4000000 in
theorem t_X8_houses_22 (G : Gx) (l : Launch) (h : Hp) (this : Nat) (k4 : Int32 → Int32 → Option Int32) (hk4 : ∀ (x1 : Int32) (x2 : Int32) (r : Int32), k4 x1 x2 = some r → RJ G l M_X8_houses (some (vI r)) h 4 [(0, vR (some this)), (1, vI x1), (2, vI x2)] [] h) (x1 : Int32) (x2 : Int32) (r : Int32) (hf : f_X8_houses_22 h this k4 x1 x2 = some r) : RJ G l M_X8_houses (some (vI r)) h 22 [(0, vR (some this)), (1, vI x1), (2, vI x2)] [] h := by
  unfold f_X8_houses_22 at hf
  refine r_iinc (y := (x2 + 1)) (lv' := [(2, vI (x2 + 1)), (0, vR (some this)), (1, vI x1)]) 2 dX8_houses_22 rfl rfl (Nat.le_of_ble_eq_true rfl) rfl ?_
  refine r_goto (tgt := 4) dX8_houses_25 (by decide) ?_
  exact r_sub [1, 2, 0] rfl (hk4 _ _ _ hf)
def f_X8_houses_4 (h : Hp) (this : Nat) : Nat → Int32 → Int32 → Option Int32
  | 0, _, _ => none
  | n + 1, x1, x2 =>
    if (12 : Int32) ≤ x2 then
      some x1
    else
      (gR h (some this) [8] 0).bind fun v11 =>
      (aI h v11 x2).bind fun v15 =>
      if v15 = 0 then
        f_X8_houses_22 h this (f_X8_houses_4 h this n) x1 x2
      else
        f_X8_houses_22 h this (f_X8_houses_4 h this n) (x1 + 1) x2
set_option maxRecDepth 100000 in
set_option maxHeartbeats 4000000 in
theorem t_X8_houses_4 (G : Gx) (l : Launch) (h : Hp) (this : Nat)  : ∀ (n : Nat) (x1 : Int32) (x2 : Int32) (r : Int32), f_X8_houses_4 h this n x1 x2 = some r → RJ G l M_X8_houses (some (vI r)) h 4 [(0, vR (some this)), (1, vI x1), (2, vI x2)] [] h := by
  intro n
  induction n with
  | zero =>
    intro x1 x2 r hf
    rw [f_X8_houses_4] at hf
    cases hf
  | succ n ih =>
    intro x1 x2 r hf
    rw [f_X8_houses_4] at hf
    refine r_iload_n 2 dX8_houses_4 rfl ?_
    refine r_bipush (x := (12 : Int32)) dX8_houses_5 (by decide) ?_
    refine r_icmp_ge (tgt := 28) dX8_houses_7 (by decide) (fun c7 => ?_) (fun c7 => ?_)
    · replace hf := (if_pos c7).symm.trans hf
      refine r_iload_n 1 dX8_houses_28 rfl ?_
      have hf := Option.some.inj hf
      subst hf
      exact r_iret rfl dX8_houses_29
    · replace hf := (if_neg c7).symm.trans hf
      refine r_aload_n 0 dX8_houses_10 rfl ?_
      obtain ⟨v11, e11, hf⟩ := ob hf
      refine r_get dX8_houses_11 fl_8_0 kw_1_62 (Or.inl rfl) (gR_sp e11) ?_
      refine r_iload_n 2 dX8_houses_14 rfl ?_
      obtain ⟨v15, e15, hf⟩ := ob hf
      refine r_iaload dX8_houses_15 e15 ?_
      refine r_if_eq (tgt := 22) dX8_houses_16 (by decide) (fun c16 => ?_) (fun c16 => ?_)
      · replace hf := (if_pos c16).symm.trans hf
        exact r_sub [0, 1, 2] rfl (t_X8_houses_22 G l _ _ (f_X8_houses_4 h this n) ih _ _ _ hf)
      · replace hf := (if_neg c16).symm.trans hf
        refine r_iinc (y := (x1 + 1)) (lv' := [(1, vI (x1 + 1)), (0, vR (some this)), (2, vI x2)]) 1 dX8_houses_19 rfl rfl (Nat.le_of_ble_eq_true rfl) rfl ?_
        exact r_sub [1, 0, 2] rfl (t_X8_houses_22 G l _ _ (f_X8_houses_4 h this n) ih _ _ _ hf)
def f_X8_houses (h : Hp) (this : Nat) : Option Int32 :=
    f_X8_houses_4 h this 10000 (0 : Int32) (0 : Int32)
set_option maxRecDepth 100000 in
set_option maxHeartbeats 4000000 in
theorem k_X8_houses (G : Gx) (l : Launch) {h : Hp} {this : Nat} {r : Int32} (hf : f_X8_houses h this = some r) : KM l yX8_houses (.code yX8_houses cX8_houses 3 (some .int) :: wsK) 0 0 G [vR (some this)] h (some (vI r)) h := by
  refine r_entry (ctor := false) (own := RX8) (by decide +kernel) rfl (fun q => by cases q) (Nat.le_of_ble_eq_true rfl) ?_
  show RJ G l M_X8_houses (some (vI r)) h 0 [(0, vR (some this))] [] h
  unfold f_X8_houses at hf
  refine r_iconst (x := (0 : Int32)) dX8_houses_0 (by decide) ?_
  refine r_istore_n (lv' := [(1, vI (0 : Int32)), (0, vR (some this))]) dX8_houses_1 (Nat.le_of_ble_eq_true rfl) rfl ?_
  refine r_iconst (x := (0 : Int32)) dX8_houses_2 (by decide) ?_
  refine r_istore_n (lv' := [(2, vI (0 : Int32)), (1, vI (0 : Int32)), (0, vR (some this))]) dX8_houses_3 (Nat.le_of_ble_eq_true rfl) rfl ?_
  exact r_sub [2, 1, 0] rfl (t_X8_houses_4 G l _ _ _ _ _ _ hf)
/-! ===== NumberedByAge$Street.pairsNotRising()I ===== -/
abbrev M_X8_pairsNotRising : Mx := (cX8_pairsNotRising, 4, RX8, (false, []), (some .int), 0, 0)
def f_X8_pairsNotRising_41 (h : Hp) (this : Nat) (k6 : Int32 → Int32 → Int32 → Option Int32) (x1 : Int32) (x2 : Int32) (x3 : Int32) : Option Int32 :=
    k6 x1 x2 (x3 + 1)
set_option maxRecDepth 100000 in
set_option maxHeartbeats 4000000 in
theorem t_X8_pairsNotRising_41 (G : Gx) (l : Launch) (h : Hp) (this : Nat) (k6 : Int32 → Int32 → Int32 → Option Int32) (hk6 : ∀ (x1 : Int32) (x2 : Int32) (x3 : Int32) (r : Int32), k6 x1 x2 x3 = some r → RJ G l M_X8_pairsNotRising (some (vI r)) h 6 [(0, vR (some this)), (1, vI x1), (2, vI x2), (3, vI x3)] [] h) (x1 : Int32) (x2 : Int32) (x3 : Int32) (r : Int32) (hf : f_X8_pairsNotRising_41 h this k6 x1 x2 x3 = some r) : RJ G l M_X8_pairsNotRising (some (vI r)) h 41 [(0, vR (some this)), (1, vI x1), (2, vI x2), (3, vI x3)] [] h := by
  unfold f_X8_pairsNotRising_41 at hf
  refine r_iinc (y := (x3 + 1)) (lv' := [(3, vI (x3 + 1)), (0, vR (some this)), (1, vI x1), (2, vI x2)]) 3 dX8_pairsNotRising_41 rfl rfl (Nat.le_of_ble_eq_true rfl) rfl ?_
  refine r_goto (tgt := 6) dX8_pairsNotRising_44 (by decide) ?_
  exact r_sub [1, 2, 3, 0] rfl (hk6 _ _ _ _ hf)
def f_X8_pairsNotRising_34 (h : Hp) (this : Nat) (k6 : Int32 → Int32 → Int32 → Option Int32) (x1 : Int32) (x3 : Int32) : Option Int32 :=
    (gR h (some this) [8] 0).bind fun v35 =>
    (aI h v35 x3).bind fun v39 =>
    f_X8_pairsNotRising_41 h this k6 x1 v39 x3
set_option maxRecDepth 100000 in
set_option maxHeartbeats 4000000 in
theorem t_X8_pairsNotRising_34 (G : Gx) (l : Launch) (h : Hp) (this : Nat) (k6 : Int32 → Int32 → Int32 → Option Int32) (hk6 : ∀ (x1 : Int32) (x2 : Int32) (x3 : Int32) (r : Int32), k6 x1 x2 x3 = some r → RJ G l M_X8_pairsNotRising (some (vI r)) h 6 [(0, vR (some this)), (1, vI x1), (2, vI x2), (3, vI x3)] [] h) (x1 : Int32) (x3 : Int32) (r : Int32) (hf : f_X8_pairsNotRising_34 h this k6 x1 x3 = some r) : RJ G l M_X8_pairsNotRising (some (vI r)) h 34 [(0, vR (some this)), (1, vI x1), (3, vI x3)] [] h := by
  unfold f_X8_pairsNotRising_34 at hf
  refine r_aload_n 0 dX8_pairsNotRising_34 rfl ?_
  obtain ⟨v35, e35, hf⟩ := ob hf
  refine r_get dX8_pairsNotRising_35 fl_8_0 kw_1_62 (Or.inl rfl) (gR_sp e35) ?_
  refine r_iload_n 2 dX8_pairsNotRising_38 rfl ?_
  obtain ⟨v39, e39, hf⟩ := ob hf
  refine r_iaload dX8_pairsNotRising_39 e39 ?_
  refine r_istore_n (lv' := [(2, vI v39), (0, vR (some this)), (1, vI x1), (3, vI x3)]) dX8_pairsNotRising_40 (Nat.le_of_ble_eq_true rfl) rfl ?_
  exact r_sub [1, 2, 0, 3] rfl (t_X8_pairsNotRising_41 G l _ _ k6 hk6 _ _ _ _ hf)
def f_X8_pairsNotRising_6 (h : Hp) (this : Nat) : Nat → Int32 → Int32 → Int32 → Option Int32
  | 0, _, _, _ => none
  | n + 1, x1, x2, x3 =>
    if (12 : Int32) ≤ x3 then
      some x1
    else
      (gR h (some this) [8] 0).bind fun v13 =>
      (aI h v13 x3).bind fun v17 =>
      if v17 = 0 then
        f_X8_pairsNotRising_41 h this (f_X8_pairsNotRising_6 h this n) x1 x2 x3
      else
        (gR h (some this) [8] 0).bind fun v22 =>
        (aI h v22 x3).bind fun v26 =>
        if x2 < v26 then
          f_X8_pairsNotRising_34 h this (f_X8_pairsNotRising_6 h this n) x1 x3
        else
          f_X8_pairsNotRising_34 h this (f_X8_pairsNotRising_6 h this n) (x1 + 1) x3
set_option maxRecDepth 100000 in
set_option maxHeartbeats 4000000 in
theorem t_X8_pairsNotRising_6 (G : Gx) (l : Launch) (h : Hp) (this : Nat)  : ∀ (n : Nat) (x1 : Int32) (x2 : Int32) (x3 : Int32) (r : Int32), f_X8_pairsNotRising_6 h this n x1 x2 x3 = some r → RJ G l M_X8_pairsNotRising (some (vI r)) h 6 [(0, vR (some this)), (1, vI x1), (2, vI x2), (3, vI x3)] [] h := by
  intro n
  induction n with
  | zero =>
    intro x1 x2 x3 r hf
    rw [f_X8_pairsNotRising_6] at hf
    cases hf
  | succ n ih =>
    intro x1 x2 x3 r hf
    rw [f_X8_pairsNotRising_6] at hf
    refine r_iload_n 3 dX8_pairsNotRising_6 rfl ?_
    refine r_bipush (x := (12 : Int32)) dX8_pairsNotRising_7 (by decide) ?_
    refine r_icmp_ge (tgt := 47) dX8_pairsNotRising_9 (by decide) (fun c9 => ?_) (fun c9 => ?_)
    · replace hf := (if_pos c9).symm.trans hf
      refine r_iload_n 1 dX8_pairsNotRising_47 rfl ?_
      have hf := Option.some.inj hf
      subst hf
      exact r_iret rfl dX8_pairsNotRising_48
    · replace hf := (if_neg c9).symm.trans hf
      refine r_aload_n 0 dX8_pairsNotRising_12 rfl ?_
      obtain ⟨v13, e13, hf⟩ := ob hf
      refine r_get dX8_pairsNotRising_13 fl_8_0 kw_1_62 (Or.inl rfl) (gR_sp e13) ?_
      refine r_iload_n 3 dX8_pairsNotRising_16 rfl ?_
      obtain ⟨v17, e17, hf⟩ := ob hf
      refine r_iaload dX8_pairsNotRising_17 e17 ?_
      refine r_if_eq (tgt := 41) dX8_pairsNotRising_18 (by decide) (fun c18 => ?_) (fun c18 => ?_)
      · replace hf := (if_pos c18).symm.trans hf
        exact r_sub [0, 1, 2, 3] rfl (t_X8_pairsNotRising_41 G l _ _ (f_X8_pairsNotRising_6 h this n) ih _ _ _ _ hf)
      · replace hf := (if_neg c18).symm.trans hf
        refine r_aload_n 0 dX8_pairsNotRising_21 rfl ?_
        obtain ⟨v22, e22, hf⟩ := ob hf
        refine r_get dX8_pairsNotRising_22 fl_8_0 kw_1_62 (Or.inl rfl) (gR_sp e22) ?_
        refine r_iload_n 3 dX8_pairsNotRising_25 rfl ?_
        obtain ⟨v26, e26, hf⟩ := ob hf
        refine r_iaload dX8_pairsNotRising_26 e26 ?_
        refine r_iload_n 2 dX8_pairsNotRising_27 rfl ?_
        refine r_icmp_gt (tgt := 34) dX8_pairsNotRising_28 (by decide) (fun c28 => ?_) (fun c28 => ?_)
        · replace hf := (if_pos c28).symm.trans hf
          exact r_sub [0, 1, 3] rfl (t_X8_pairsNotRising_34 G l _ _ (f_X8_pairsNotRising_6 h this n) ih _ _ _ hf)
        · replace hf := (if_neg c28).symm.trans hf
          refine r_iinc (y := (x1 + 1)) (lv' := [(1, vI (x1 + 1)), (0, vR (some this)), (2, vI x2), (3, vI x3)]) 1 dX8_pairsNotRising_31 rfl rfl (Nat.le_of_ble_eq_true rfl) rfl ?_
          exact r_sub [1, 0, 3] rfl (t_X8_pairsNotRising_34 G l _ _ (f_X8_pairsNotRising_6 h this n) ih _ _ _ hf)
def f_X8_pairsNotRising (h : Hp) (this : Nat) : Option Int32 :=
    f_X8_pairsNotRising_6 h this 10000 (0 : Int32) (0 : Int32) (0 : Int32)
set_option maxRecDepth 100000 in
set_option maxHeartbeats 4000000 in
theorem k_X8_pairsNotRising (G : Gx) (l : Launch) {h : Hp} {this : Nat} {r : Int32} (hf : f_X8_pairsNotRising h this = some r) : KM l yX8_pairsNotRising (.code yX8_pairsNotRising cX8_pairsNotRising 4 (some .int) :: wsK) 0 0 G [vR (some this)] h (some (vI r)) h := by
  refine r_entry (ctor := false) (own := RX8) (by decide +kernel) rfl (fun q => by cases q) (Nat.le_of_ble_eq_true rfl) ?_
  show RJ G l M_X8_pairsNotRising (some (vI r)) h 0 [(0, vR (some this))] [] h
  unfold f_X8_pairsNotRising at hf
  refine r_iconst (x := (0 : Int32)) dX8_pairsNotRising_0 (by decide) ?_
  refine r_istore_n (lv' := [(1, vI (0 : Int32)), (0, vR (some this))]) dX8_pairsNotRising_1 (Nat.le_of_ble_eq_true rfl) rfl ?_
  refine r_iconst (x := (0 : Int32)) dX8_pairsNotRising_2 (by decide) ?_
  refine r_istore_n (lv' := [(2, vI (0 : Int32)), (1, vI (0 : Int32)), (0, vR (some this))]) dX8_pairsNotRising_3 (Nat.le_of_ble_eq_true rfl) rfl ?_
  refine r_iconst (x := (0 : Int32)) dX8_pairsNotRising_4 (by decide) ?_
  refine r_istore_n (lv' := [(3, vI (0 : Int32)), (2, vI (0 : Int32)), (1, vI (0 : Int32)), (0, vR (some this))]) dX8_pairsNotRising_5 (Nat.le_of_ble_eq_true rfl) rfl ?_
  exact r_sub [3, 2, 1, 0] rfl (t_X8_pairsNotRising_6 G l _ _ _ _ _ _ _ hf)
/-! ===== NumberedByAge$Street.heightAt(I)I ===== -/
abbrev M_X8_heightAt : Mx := (cX8_heightAt, 2, RX8, (false, []), (some .int), 1, 20)
def f_X8_heightAt (h : Hp) (this : Nat) (x1 : Int32) : Option Int32 :=
    (f_X10_isPlot h x1).bind fun v1 =>
    if v1 = 0 then
      some (0 : Int32)
    else
      (gR h (some this) [8] 1).bind fun v8 =>
      (aI h v8 x1).bind fun v12 =>
      some v12
set_option maxRecDepth 100000 in
set_option maxHeartbeats 4000000 in
theorem k_X8_heightAt (G : Gx) (l : Launch) {h : Hp} {this : Nat} {x1 : Int32} {r : Int32} (hf : f_X8_heightAt h this x1 = some r) : KM l yX8_heightAt (.code yX8_heightAt cX8_heightAt 2 (some .int) :: wsK) 1 20 G [vR (some this), vI x1] h (some (vI r)) h := by
  refine r_entry (ctor := false) (own := RX8) (by decide +kernel) rfl (fun q => by cases q) (Nat.le_of_ble_eq_true rfl) ?_
  show RJ G l M_X8_heightAt (some (vI r)) h 0 [(0, vR (some this)), (1, vI x1)] [] h
  unfold f_X8_heightAt at hf
  refine r_iload_n 1 dX8_heightAt_0 rfl ?_
  obtain ⟨v1, e1, hf⟩ := ob hf
  refine r_callSN (y := yX10_isPlot) (avs := [vI x1]) dX8_heightAt_1 (by decide) kw_1_193 kw_1_1 kw_1_194 oky_X10_isPlot ⟨Nat.le_of_ble_eq_true rfl, Nat.le_of_ble_eq_true rfl⟩ rfl (Nat.le_of_ble_eq_true rfl) (k_X10_isPlot G l e1) ?_
  refine r_if_eq (tgt := 16) dX8_heightAt_4 (by decide) (fun c4 => ?_) (fun c4 => ?_)
  · replace hf := (if_pos c4).symm.trans hf
    refine r_iconst (x := (0 : Int32)) dX8_heightAt_16 (by decide) ?_
    have hf := Option.some.inj hf
    subst hf
    exact r_iret rfl dX8_heightAt_17
  · replace hf := (if_neg c4).symm.trans hf
    refine r_aload_n 0 dX8_heightAt_7 rfl ?_
    obtain ⟨v8, e8, hf⟩ := ob hf
    refine r_get dX8_heightAt_8 fl_8_1 kw_1_63 (Or.inl rfl) (gR_sp e8) ?_
    refine r_iload_n 1 dX8_heightAt_11 rfl ?_
    obtain ⟨v12, e12, hf⟩ := ob hf
    refine r_iaload dX8_heightAt_12 e12 ?_
    refine r_goto (tgt := 17) dX8_heightAt_13 (by decide) ?_
    have hf := Option.some.inj hf
    subst hf
    exact r_iret rfl dX8_heightAt_17
