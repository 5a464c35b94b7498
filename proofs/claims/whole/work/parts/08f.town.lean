/-! ===== NumberedByAge.would(II)I ===== -/
abbrev M_X10_would : Mx := (cX10_would, 3, RX10, (false, []), (some .int), 3, 69)
def f_X10_would_33 (h : Hp) (this : Nat)  : Option Int32 :=
    some (-1 : Int32)
set_option maxRecDepth 100000 in
set_option maxHeartbeats 4000000 in
theorem t_X10_would_33 (G : Gx) (l : Launch) (h : Hp) (this : Nat)   (r : Int32) (hf : f_X10_would_33 h this = some r) : RJ G l M_X10_would (some (vI r)) h 33 [(0, vR (some this))] [] h := by
  unfold f_X10_would_33 at hf
  refine r_iconst (x := (-1 : Int32)) dX10_would_33 (by decide) ?_
  have hf := Option.some.inj hf
  subst hf
  exact r_iret rfl dX10_would_34
def f_X10_would (h : Hp) (this : Nat) (x1 : Int32) (x2 : Int32) : Option Int32 :=
    (f_X10_isPlot h x1).bind fun v1 =>
    if v1 = 0 then
      f_X10_would_33 h this 
    else
      (f_X10_isHeight h x2).bind fun v8 =>
      if v8 = 0 then
        f_X10_would_33 h this 
      else
        (gR h (some this) [10] 0).bind fun v15 =>
        (gR h v15 [8] 9).bind fun v18 =>
        (gR h (some this) [10] 0).bind fun v22 =>
        (f_V_numberFor h v18 v22 x1 x2).bind fun v27 =>
        some v27
set_option maxRecDepth 100000 in
set_option maxHeartbeats 4000000 in
theorem k_X10_would (G : Gx) (l : Launch) {h : Hp} {this : Nat} {x1 : Int32} {x2 : Int32} {r : Int32} (hf : f_X10_would h this x1 x2 = some r) : KM l yX10_would (.code yX10_would cX10_would 3 (some .int) :: wsK) 3 69 G [vR (some this), vI x1, vI x2] h (some (vI r)) h := by
  refine r_entry (ctor := false) (own := RX10) (by decide +kernel) rfl (fun q => by cases q) (Nat.le_of_ble_eq_true rfl) ?_
  show RJ G l M_X10_would (some (vI r)) h 0 [(0, vR (some this)), (1, vI x1), (2, vI x2)] [] h
  unfold f_X10_would at hf
  refine r_iload_n 1 dX10_would_0 rfl ?_
  obtain ⟨v1, e1, hf⟩ := ob hf
  refine r_callS (y := yX10_isPlot) (avs := [vI x1]) dX10_would_1 kw_2_108 kw_1_193 kw_1_1 kw_1_194 oky_X10_isPlot ⟨Nat.le_of_ble_eq_true rfl, Nat.le_of_ble_eq_true rfl⟩ rfl (Nat.le_of_ble_eq_true rfl) (k_X10_isPlot G l e1) ?_
  refine r_if_eq (tgt := 33) dX10_would_4 (by decide) (fun c4 => ?_) (fun c4 => ?_)
  · replace hf := (if_pos c4).symm.trans hf
    exact r_sub [0] rfl (t_X10_would_33 G l _ _  _ hf)
  · replace hf := (if_neg c4).symm.trans hf
    refine r_iload_n 2 dX10_would_7 rfl ?_
    obtain ⟨v8, e8, hf⟩ := ob hf
    refine r_callS (y := yX10_isHeight) (avs := [vI x2]) dX10_would_8 kw_2_131 kw_1_196 kw_1_1 kw_1_197 oky_X10_isHeight ⟨Nat.le_of_ble_eq_true rfl, Nat.le_of_ble_eq_true rfl⟩ rfl (Nat.le_of_ble_eq_true rfl) (k_X10_isHeight G l e8) ?_
    refine r_if_eq (tgt := 33) dX10_would_11 (by decide) (fun c11 => ?_) (fun c11 => ?_)
    · replace hf := (if_pos c11).symm.trans hf
      exact r_sub [0] rfl (t_X10_would_33 G l _ _  _ hf)
    · replace hf := (if_neg c11).symm.trans hf
      refine r_aload_n 0 dX10_would_14 rfl ?_
      obtain ⟨v15, e15, hf⟩ := ob hf
      refine r_get dX10_would_15 fl_10_0 kw_1_121 (Or.inl rfl) (gR_sp e15) ?_
      obtain ⟨v18, e18, hf⟩ := ob hf
      refine r_getN dX10_would_18 fl_8_9 (by decide) (gR_sp e18) ?_
      refine r_aload_n 0 dX10_would_21 rfl ?_
      obtain ⟨v22, e22, hf⟩ := ob hf
      refine r_get dX10_would_22 fl_10_0 kw_1_121 (Or.inl rfl) (gR_sp e22) ?_
      refine r_iload_n 1 dX10_would_25 rfl ?_
      refine r_iload_n 2 dX10_would_26 rfl ?_
      obtain ⟨v27, e27, hf⟩ := ob hf
      refine rv_numberFor dX10_would_27 kw_2_132 ⟨Nat.le_of_ble_eq_true rfl, Nat.le_of_ble_eq_true rfl⟩ rfl (Nat.le_of_ble_eq_true rfl) e27 ?_
      refine r_goto (tgt := 34) dX10_would_30 (by decide) ?_
      have hf := Option.some.inj hf
      subst hf
      exact r_iret rfl dX10_would_34
