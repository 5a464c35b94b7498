/-! ===== NumberedByAgeModel.areAsNow()Z ===== -/
abbrev M_X11_areAsNow : Mx := (cX11_areAsNow, 3, RX11, (false, []), (some .boolean), 0, 0)
def f_X11_areAsNow_34 (h : Hp) (this : Nat) (k4 : Int32 → Int32 → Option Int32) (x2 : Int32) (s0 : Int32) : Option Int32 :=
    k4 s0 (x2 + 1)
set_option maxRecDepth 100000 in
set_option maxHeartbeats 4000000 in
theorem t_X11_areAsNow_34 (G : Gx) (l : Launch) (h : Hp) (this : Nat) (k4 : Int32 → Int32 → Option Int32) (hk4 : ∀ (x1 : Int32) (x2 : Int32) (r : Int32), k4 x1 x2 = some r → RJ G l M_X11_areAsNow (some (vI r)) h 4 [(0, vR (some this)), (1, vI x1), (2, vI x2)] [] h) (x2 : Int32) (s0 : Int32) (r : Int32) (hf : f_X11_areAsNow_34 h this k4 x2 s0 = some r) : RJ G l M_X11_areAsNow (some (vI r)) h 34 [(0, vR (some this)), (2, vI x2)] [vI s0] h := by
  unfold f_X11_areAsNow_34 at hf
  refine r_istore_n (lv' := [(1, vI s0), (0, vR (some this)), (2, vI x2)]) dX11_areAsNow_34 (Nat.le_of_ble_eq_true rfl) rfl ?_
  refine r_iinc (y := (x2 + 1)) (lv' := [(2, vI (x2 + 1)), (1, vI s0), (0, vR (some this))]) 2 dX11_areAsNow_35 rfl rfl (Nat.le_of_ble_eq_true rfl) rfl ?_
  refine r_goto (tgt := 4) dX11_areAsNow_38 (by decide) ?_
  exact r_sub [2, 1, 0] rfl (hk4 _ _ _ hf)
def f_X11_areAsNow_33 (h : Hp) (this : Nat) (k4 : Int32 → Int32 → Option Int32) (x2 : Int32) : Option Int32 :=
    f_X11_areAsNow_34 h this k4 x2 (0 : Int32)
set_option maxRecDepth 100000 in
set_option maxHeartbeats 4000000 in
theorem t_X11_areAsNow_33 (G : Gx) (l : Launch) (h : Hp) (this : Nat) (k4 : Int32 → Int32 → Option Int32) (hk4 : ∀ (x1 : Int32) (x2 : Int32) (r : Int32), k4 x1 x2 = some r → RJ G l M_X11_areAsNow (some (vI r)) h 4 [(0, vR (some this)), (1, vI x1), (2, vI x2)] [] h) (x2 : Int32) (r : Int32) (hf : f_X11_areAsNow_33 h this k4 x2 = some r) : RJ G l M_X11_areAsNow (some (vI r)) h 33 [(0, vR (some this)), (2, vI x2)] [] h := by
  unfold f_X11_areAsNow_33 at hf
  refine r_iconst (x := (0 : Int32)) dX11_areAsNow_33 (by decide) ?_
  exact r_sub [0, 1] rfl (t_X11_areAsNow_34 G l _ _ k4 hk4 _ _ _ hf)
def f_X11_areAsNow_4 (h : Hp) (this : Nat) : Nat → Int32 → Int32 → Option Int32
  | 0, _, _ => none
  | n + 1, x1, x2 =>
    if (12 : Int32) ≤ x2 then
      okZ x1
    else
      if x1 = 0 then
        f_X11_areAsNow_33 h this (f_X11_areAsNow_4 h this n) x2
      else
        (gR h (some this) [11] 7).bind fun v15 =>
        (aI h v15 x2).bind fun v19 =>
        (gR h (some this) [11] 5).bind fun v21 =>
        (aI h v21 x2).bind fun v25 =>
        if v19 = v25 then
          f_X11_areAsNow_34 h this (f_X11_areAsNow_4 h this n) x2 (1 : Int32)
        else
          f_X11_areAsNow_33 h this (f_X11_areAsNow_4 h this n) x2
set_option maxRecDepth 100000 in
set_option maxHeartbeats 4000000 in
theorem t_X11_areAsNow_4 (G : Gx) (l : Launch) (h : Hp) (this : Nat)  : ∀ (n : Nat) (x1 : Int32) (x2 : Int32) (r : Int32), f_X11_areAsNow_4 h this n x1 x2 = some r → RJ G l M_X11_areAsNow (some (vI r)) h 4 [(0, vR (some this)), (1, vI x1), (2, vI x2)] [] h := by
  intro n
  induction n with
  | zero =>
    intro x1 x2 r hf
    rw [f_X11_areAsNow_4] at hf
    cases hf
  | succ n ih =>
    intro x1 x2 r hf
    rw [f_X11_areAsNow_4] at hf
    refine r_iload_n 2 dX11_areAsNow_4 rfl ?_
    refine r_bipush (x := (12 : Int32)) dX11_areAsNow_5 (by decide) ?_
    refine r_icmp_ge (tgt := 41) dX11_areAsNow_7 (by decide) (fun c7 => ?_) (fun c7 => ?_)
    · replace hf := (if_pos c7).symm.trans hf
      refine r_iload_n 1 dX11_areAsNow_41 rfl ?_
      exact r_zret rfl dX11_areAsNow_42 hf
    · replace hf := (if_neg c7).symm.trans hf
      refine r_iload_n 1 dX11_areAsNow_10 rfl ?_
      refine r_if_eq (tgt := 33) dX11_areAsNow_11 (by decide) (fun c11 => ?_) (fun c11 => ?_)
      · replace hf := (if_pos c11).symm.trans hf
        exact r_sub [0, 2] rfl (t_X11_areAsNow_33 G l _ _ (f_X11_areAsNow_4 h this n) ih _ _ hf)
      · replace hf := (if_neg c11).symm.trans hf
        refine r_aload_n 0 dX11_areAsNow_14 rfl ?_
        obtain ⟨v15, e15, hf⟩ := ob hf
        refine r_get dX11_areAsNow_15 fl_11_7 kw_4_62 (Or.inl rfl) (gR_sp e15) ?_
        refine r_iload_n 2 dX11_areAsNow_18 rfl ?_
        obtain ⟨v19, e19, hf⟩ := ob hf
        refine r_iaload dX11_areAsNow_19 e19 ?_
        refine r_aload_n 0 dX11_areAsNow_20 rfl ?_
        obtain ⟨v21, e21, hf⟩ := ob hf
        refine r_get dX11_areAsNow_21 fl_11_5 kw_4_60 (Or.inl rfl) (gR_sp e21) ?_
        refine r_iload_n 2 dX11_areAsNow_24 rfl ?_
        obtain ⟨v25, e25, hf⟩ := ob hf
        refine r_iaload dX11_areAsNow_25 e25 ?_
        refine r_icmp_ne (tgt := 33) dX11_areAsNow_26 (by decide) (fun c26 => ?_) (fun c26 => ?_)
        · replace hf := (if_pos c26).symm.trans hf
          refine r_iconst (x := (1 : Int32)) dX11_areAsNow_29 (by decide) ?_
          refine r_goto (tgt := 34) dX11_areAsNow_30 (by decide) ?_
          exact r_sub [0, 2] rfl (t_X11_areAsNow_34 G l _ _ (f_X11_areAsNow_4 h this n) ih _ _ _ hf)
        · replace hf := (if_neg c26).symm.trans hf
          exact r_sub [0, 2] rfl (t_X11_areAsNow_33 G l _ _ (f_X11_areAsNow_4 h this n) ih _ _ hf)
def f_X11_areAsNow (h : Hp) (this : Nat) : Option Int32 :=
    f_X11_areAsNow_4 h this 10000 (1 : Int32) (0 : Int32)
set_option maxRecDepth 100000 in
set_option maxHeartbeats 4000000 in
theorem k_X11_areAsNow (G : Gx) (l : Launch) {h : Hp} {this : Nat} {r : Int32} (hf : f_X11_areAsNow h this = some r) : KM l yX11_areAsNow (.code yX11_areAsNow cX11_areAsNow 3 (some .boolean) :: wsK) 0 0 G [vR (some this)] h (some (vI r)) h := by
  refine r_entry (ctor := false) (own := RX11) (by decide +kernel) rfl (fun q => by cases q) (Nat.le_of_ble_eq_true rfl) ?_
  show RJ G l M_X11_areAsNow (some (vI r)) h 0 [(0, vR (some this))] [] h
  unfold f_X11_areAsNow at hf
  refine r_iconst (x := (1 : Int32)) dX11_areAsNow_0 (by decide) ?_
  refine r_istore_n (lv' := [(1, vI (1 : Int32)), (0, vR (some this))]) dX11_areAsNow_1 (Nat.le_of_ble_eq_true rfl) rfl ?_
  refine r_iconst (x := (0 : Int32)) dX11_areAsNow_2 (by decide) ?_
  refine r_istore_n (lv' := [(2, vI (0 : Int32)), (1, vI (1 : Int32)), (0, vR (some this))]) dX11_areAsNow_3 (Nat.le_of_ble_eq_true rfl) rfl ?_
  exact r_sub [2, 1, 0] rfl (t_X11_areAsNow_4 G l _ _ _ _ _ _ hf)
/-! ===== NumberedByAgeModel.isIn(JII)Z ===== -/
abbrev M_X11_isIn : Mx := (cX11_isIn, 7, RX11, (false, []), (some .boolean), 0, 0)
def f_X11_isIn_46 (h : Hp) (this : Nat) (k6 : Int64 → Int32 → Int32 → Int32 → Option Int32) (x1 : Int64) (x4 : Int32) (x6 : Int32) (s0 : Int32) : Option Int32 :=
    k6 x1 x4 s0 (x6 + 1)
set_option maxRecDepth 100000 in
set_option maxHeartbeats 4000000 in
theorem t_X11_isIn_46 (G : Gx) (l : Launch) (h : Hp) (this : Nat) (k6 : Int64 → Int32 → Int32 → Int32 → Option Int32) (hk6 : ∀ (x1 : Int64) (x4 : Int32) (x5 : Int32) (x6 : Int32) (r : Int32), k6 x1 x4 x5 x6 = some r → RJ G l M_X11_isIn (some (vI r)) h 6 [(0, vR (some this)), (1, vL x1), (4, vI x4), (5, vI x5), (6, vI x6)] [] h) (x1 : Int64) (x4 : Int32) (x6 : Int32) (s0 : Int32) (r : Int32) (hf : f_X11_isIn_46 h this k6 x1 x4 x6 s0 = some r) : RJ G l M_X11_isIn (some (vI r)) h 46 [(0, vR (some this)), (1, vL x1), (4, vI x4), (6, vI x6)] [vI s0] h := by
  unfold f_X11_isIn_46 at hf
  refine r_istore (lv' := [(5, vI s0), (0, vR (some this)), (1, vL x1), (4, vI x4), (6, vI x6)]) dX11_isIn_46 (Nat.le_of_ble_eq_true rfl) rfl ?_
  refine r_iinc (y := (x6 + 1)) (lv' := [(6, vI (x6 + 1)), (5, vI s0), (0, vR (some this)), (1, vL x1), (4, vI x4)]) 4 dX11_isIn_48 rfl rfl (Nat.le_of_ble_eq_true rfl) rfl ?_
  refine r_goto (tgt := 6) dX11_isIn_51 (by decide) ?_
  exact r_sub [2, 3, 4, 1, 0] rfl (hk6 _ _ _ _ _ hf)
def f_X11_isIn_41 (h : Hp) (this : Nat) (k6 : Int64 → Int32 → Int32 → Int32 → Option Int32) (x1 : Int64) (x4 : Int32) (x6 : Int32) : Option Int32 :=
    f_X11_isIn_46 h this k6 x1 x4 x6 (1 : Int32)
set_option maxRecDepth 100000 in
set_option maxHeartbeats 4000000 in
theorem t_X11_isIn_41 (G : Gx) (l : Launch) (h : Hp) (this : Nat) (k6 : Int64 → Int32 → Int32 → Int32 → Option Int32) (hk6 : ∀ (x1 : Int64) (x4 : Int32) (x5 : Int32) (x6 : Int32) (r : Int32), k6 x1 x4 x5 x6 = some r → RJ G l M_X11_isIn (some (vI r)) h 6 [(0, vR (some this)), (1, vL x1), (4, vI x4), (5, vI x5), (6, vI x6)] [] h) (x1 : Int64) (x4 : Int32) (x6 : Int32) (r : Int32) (hf : f_X11_isIn_41 h this k6 x1 x4 x6 = some r) : RJ G l M_X11_isIn (some (vI r)) h 41 [(0, vR (some this)), (1, vL x1), (4, vI x4), (6, vI x6)] [] h := by
  unfold f_X11_isIn_41 at hf
  refine r_iconst (x := (1 : Int32)) dX11_isIn_41 (by decide) ?_
  refine r_goto (tgt := 46) dX11_isIn_42 (by decide) ?_
  exact r_sub [0, 1, 2, 3] rfl (t_X11_isIn_46 G l _ _ k6 hk6 _ _ _ _ _ hf)
def f_X11_isIn_45 (h : Hp) (this : Nat) (k6 : Int64 → Int32 → Int32 → Int32 → Option Int32) (x1 : Int64) (x4 : Int32) (x6 : Int32) : Option Int32 :=
    f_X11_isIn_46 h this k6 x1 x4 x6 (0 : Int32)
set_option maxRecDepth 100000 in
set_option maxHeartbeats 4000000 in
theorem t_X11_isIn_45 (G : Gx) (l : Launch) (h : Hp) (this : Nat) (k6 : Int64 → Int32 → Int32 → Int32 → Option Int32) (hk6 : ∀ (x1 : Int64) (x4 : Int32) (x5 : Int32) (x6 : Int32) (r : Int32), k6 x1 x4 x5 x6 = some r → RJ G l M_X11_isIn (some (vI r)) h 6 [(0, vR (some this)), (1, vL x1), (4, vI x4), (5, vI x5), (6, vI x6)] [] h) (x1 : Int64) (x4 : Int32) (x6 : Int32) (r : Int32) (hf : f_X11_isIn_45 h this k6 x1 x4 x6 = some r) : RJ G l M_X11_isIn (some (vI r)) h 45 [(0, vR (some this)), (1, vL x1), (4, vI x4), (6, vI x6)] [] h := by
  unfold f_X11_isIn_45 at hf
  refine r_iconst (x := (0 : Int32)) dX11_isIn_45 (by decide) ?_
  exact r_sub [0, 1, 2, 3] rfl (t_X11_isIn_46 G l _ _ k6 hk6 _ _ _ _ _ hf)
def f_X11_isIn_6 (h : Hp) (this : Nat) : Nat → Int64 → Int32 → Int32 → Int32 → Option Int32
  | 0, _, _, _, _ => none
  | n + 1, x1, x4, x5, x6 =>
    if x4 < x6 then
      okZ x5
    else
      if x5 = 0 then
        (gR h (some this) [11] 5).bind fun v19 =>
        (aI h v19 x6).bind fun v24 =>
        if v24 ≤ 0 then
          f_X11_isIn_45 h this (f_X11_isIn_6 h this n) x1 x4 x6
        else
          (gR h (some this) [11] 5).bind fun v29 =>
          (aI h v29 x6).bind fun v34 =>
          if (lg_cmp v34.toInt64 x1) = 0 then
            f_X11_isIn_41 h this (f_X11_isIn_6 h this n) x1 x4 x6
          else
            f_X11_isIn_45 h this (f_X11_isIn_6 h this n) x1 x4 x6
      else
        f_X11_isIn_41 h this (f_X11_isIn_6 h this n) x1 x4 x6
set_option maxRecDepth 100000 in
set_option maxHeartbeats 4000000 in
theorem t_X11_isIn_6 (G : Gx) (l : Launch) (h : Hp) (this : Nat)  : ∀ (n : Nat) (x1 : Int64) (x4 : Int32) (x5 : Int32) (x6 : Int32) (r : Int32), f_X11_isIn_6 h this n x1 x4 x5 x6 = some r → RJ G l M_X11_isIn (some (vI r)) h 6 [(0, vR (some this)), (1, vL x1), (4, vI x4), (5, vI x5), (6, vI x6)] [] h := by
  intro n
  induction n with
  | zero =>
    intro x1 x4 x5 x6 r hf
    rw [f_X11_isIn_6] at hf
    cases hf
  | succ n ih =>
    intro x1 x4 x5 x6 r hf
    rw [f_X11_isIn_6] at hf
    refine r_iload 4 dX11_isIn_6 rfl ?_
    refine r_iload 2 dX11_isIn_8 rfl ?_
    refine r_icmp_gt (tgt := 54) dX11_isIn_10 (by decide) (fun c10 => ?_) (fun c10 => ?_)
    · replace hf := (if_pos c10).symm.trans hf
      refine r_iload 3 dX11_isIn_54 rfl ?_
      exact r_zret rfl dX11_isIn_56 hf
    · replace hf := (if_neg c10).symm.trans hf
      refine r_iload 3 dX11_isIn_13 rfl ?_
      refine r_if_ne (tgt := 41) dX11_isIn_15 (by decide) (fun c15 => ?_) (fun c15 => ?_)
      · replace hf := (if_pos c15).symm.trans hf
        refine r_aload_n 0 dX11_isIn_18 rfl ?_
        obtain ⟨v19, e19, hf⟩ := ob hf
        refine r_get dX11_isIn_19 fl_11_5 kw_4_60 (Or.inl rfl) (gR_sp e19) ?_
        refine r_iload 4 dX11_isIn_22 rfl ?_
        obtain ⟨v24, e24, hf⟩ := ob hf
        refine r_iaload dX11_isIn_24 e24 ?_
        refine r_if_le (tgt := 45) dX11_isIn_25 (by decide) (fun c25 => ?_) (fun c25 => ?_)
        · replace hf := (if_pos c25).symm.trans hf
          exact r_sub [0, 1, 2, 4] rfl (t_X11_isIn_45 G l _ _ (f_X11_isIn_6 h this n) ih _ _ _ _ hf)
        · replace hf := (if_neg c25).symm.trans hf
          refine r_aload_n 0 dX11_isIn_28 rfl ?_
          obtain ⟨v29, e29, hf⟩ := ob hf
          refine r_get dX11_isIn_29 fl_11_5 kw_4_60 (Or.inl rfl) (gR_sp e29) ?_
          refine r_iload 4 dX11_isIn_32 rfl ?_
          obtain ⟨v34, e34, hf⟩ := ob hf
          refine r_iaload dX11_isIn_34 e34 ?_
          refine r_i2l dX11_isIn_35 ?_
          refine r_lload_n 1 dX11_isIn_36 rfl ?_
          refine r_lcmp dX11_isIn_37 ?_
          refine r_if_ne (tgt := 45) dX11_isIn_38 (by decide) (fun c38 => ?_) (fun c38 => ?_)
          · replace hf := (if_pos c38).symm.trans hf
            exact r_sub [0, 1, 2, 4] rfl (t_X11_isIn_41 G l _ _ (f_X11_isIn_6 h this n) ih _ _ _ _ hf)
          · replace hf := (if_neg c38).symm.trans hf
            exact r_sub [0, 1, 2, 4] rfl (t_X11_isIn_45 G l _ _ (f_X11_isIn_6 h this n) ih _ _ _ _ hf)
      · replace hf := (if_neg c15).symm.trans hf
        exact r_sub [0, 1, 2, 4] rfl (t_X11_isIn_41 G l _ _ (f_X11_isIn_6 h this n) ih _ _ _ _ hf)
def f_X11_isIn (h : Hp) (this : Nat) (x1 : Int64) (x3 : Int32) (x4 : Int32) : Option Int32 :=
    f_X11_isIn_6 h this 10000 x1 x4 (0 : Int32) x3
set_option maxRecDepth 100000 in
set_option maxHeartbeats 4000000 in
theorem k_X11_isIn (G : Gx) (l : Launch) {h : Hp} {this : Nat} {x1 : Int64} {x3 : Int32} {x4 : Int32} {r : Int32} (hf : f_X11_isIn h this x1 x3 x4 = some r) : KM l yX11_isIn (.code yX11_isIn cX11_isIn 7 (some .boolean) :: wsK) 0 0 G [vR (some this), vL x1, vI x3, vI x4] h (some (vI r)) h := by
  refine r_entry (ctor := false) (own := RX11) (by decide +kernel) rfl (fun q => by cases q) (Nat.le_of_ble_eq_true rfl) ?_
  show RJ G l M_X11_isIn (some (vI r)) h 0 [(0, vR (some this)), (1, vL x1), (3, vI x3), (4, vI x4)] [] h
  unfold f_X11_isIn at hf
  refine r_iconst (x := (0 : Int32)) dX11_isIn_0 (by decide) ?_
  refine r_istore (lv' := [(5, vI (0 : Int32)), (0, vR (some this)), (1, vL x1), (3, vI x3), (4, vI x4)]) dX11_isIn_1 (Nat.le_of_ble_eq_true rfl) rfl ?_
  refine r_iload_n 3 dX11_isIn_3 rfl ?_
  refine r_istore (lv' := [(6, vI x3), (5, vI (0 : Int32)), (0, vR (some this)), (1, vL x1), (3, vI x3), (4, vI x4)]) dX11_isIn_4 (Nat.le_of_ble_eq_true rfl) rfl ?_
  exact r_sub [2, 3, 5, 1, 0] rfl (t_X11_isIn_6 G l _ _ _ _ _ _ _ _ hf)
/-! ===== NumberedByAgeModel.areMet(III)Z ===== -/
abbrev M_X11_areMet : Mx := (cX11_areMet, 6, RX11, (false, []), (some .boolean), 1, 26)
def f_X11_areMet_48 (h : Hp) (this : Nat) (k6 : Int32 → Int32 → Int32 → Int32 → Int32 → Option Int32) (x1 : Int32) (x2 : Int32) (x3 : Int32) (x5 : Int32) (s0 : Int32) : Option Int32 :=
    k6 x1 x2 x3 s0 (x5 + 1)
set_option maxRecDepth 100000 in
set_option maxHeartbeats 4000000 in
theorem t_X11_areMet_48 (G : Gx) (l : Launch) (h : Hp) (this : Nat) (k6 : Int32 → Int32 → Int32 → Int32 → Int32 → Option Int32) (hk6 : ∀ (x1 : Int32) (x2 : Int32) (x3 : Int32) (x4 : Int32) (x5 : Int32) (r : Int32), k6 x1 x2 x3 x4 x5 = some r → RJ G l M_X11_areMet (some (vI r)) h 6 [(0, vR (some this)), (1, vI x1), (2, vI x2), (3, vI x3), (4, vI x4), (5, vI x5)] [] h) (x1 : Int32) (x2 : Int32) (x3 : Int32) (x5 : Int32) (s0 : Int32) (r : Int32) (hf : f_X11_areMet_48 h this k6 x1 x2 x3 x5 s0 = some r) : RJ G l M_X11_areMet (some (vI r)) h 48 [(0, vR (some this)), (1, vI x1), (2, vI x2), (3, vI x3), (5, vI x5)] [vI s0] h := by
  unfold f_X11_areMet_48 at hf
  refine r_istore (lv' := [(4, vI s0), (0, vR (some this)), (1, vI x1), (2, vI x2), (3, vI x3), (5, vI x5)]) dX11_areMet_48 (Nat.le_of_ble_eq_true rfl) rfl ?_
  refine r_iinc (y := (x5 + 1)) (lv' := [(5, vI (x5 + 1)), (4, vI s0), (0, vR (some this)), (1, vI x1), (2, vI x2), (3, vI x3)]) 5 dX11_areMet_50 rfl rfl (Nat.le_of_ble_eq_true rfl) rfl ?_
  refine r_goto (tgt := 6) dX11_areMet_53 (by decide) ?_
  exact r_sub [2, 3, 4, 5, 1, 0] rfl (hk6 _ _ _ _ _ _ hf)
def f_X11_areMet_47 (h : Hp) (this : Nat) (k6 : Int32 → Int32 → Int32 → Int32 → Int32 → Option Int32) (x1 : Int32) (x2 : Int32) (x3 : Int32) (x5 : Int32) : Option Int32 :=
    f_X11_areMet_48 h this k6 x1 x2 x3 x5 (0 : Int32)
set_option maxRecDepth 100000 in
set_option maxHeartbeats 4000000 in
theorem t_X11_areMet_47 (G : Gx) (l : Launch) (h : Hp) (this : Nat) (k6 : Int32 → Int32 → Int32 → Int32 → Int32 → Option Int32) (hk6 : ∀ (x1 : Int32) (x2 : Int32) (x3 : Int32) (x4 : Int32) (x5 : Int32) (r : Int32), k6 x1 x2 x3 x4 x5 = some r → RJ G l M_X11_areMet (some (vI r)) h 6 [(0, vR (some this)), (1, vI x1), (2, vI x2), (3, vI x3), (4, vI x4), (5, vI x5)] [] h) (x1 : Int32) (x2 : Int32) (x3 : Int32) (x5 : Int32) (r : Int32) (hf : f_X11_areMet_47 h this k6 x1 x2 x3 x5 = some r) : RJ G l M_X11_areMet (some (vI r)) h 47 [(0, vR (some this)), (1, vI x1), (2, vI x2), (3, vI x3), (5, vI x5)] [] h := by
  unfold f_X11_areMet_47 at hf
  refine r_iconst (x := (0 : Int32)) dX11_areMet_47 (by decide) ?_
  exact r_sub [0, 1, 2, 3, 4] rfl (t_X11_areMet_48 G l _ _ k6 hk6 _ _ _ _ _ _ hf)
def f_X11_areMet_6 (h : Hp) (this : Nat) : Nat → Int32 → Int32 → Int32 → Int32 → Int32 → Option Int32
  | 0, _, _, _, _, _ => none
  | n + 1, x1, x2, x3, x4, x5 =>
    (gR h (some this) [11] 32).bind fun v9 =>
    (aI h v9 x1).bind fun v13 =>
    if v13 ≤ x5 then
      okZ x4
    else
      if x4 = 0 then
        f_X11_areMet_47 h this (f_X11_areMet_6 h this n) x1 x2 x3 x5
      else
        (gR h (some this) [11] 33).bind fun v24 =>
        (aL h v24 (((100 : Int32) * x1) + x5)).bind fun v34 =>
        (rcv h (some this) 11).bind fun a37 =>
        (f_X11_isIn h a37 v34 x2 x3).bind fun v37 =>
        if v37 = 0 then
          f_X11_areMet_47 h this (f_X11_areMet_6 h this n) x1 x2 x3 x5
        else
          f_X11_areMet_48 h this (f_X11_areMet_6 h this n) x1 x2 x3 x5 (1 : Int32)
set_option maxRecDepth 100000 in
set_option maxHeartbeats 4000000 in
theorem t_X11_areMet_6 (G : Gx) (l : Launch) (h : Hp) (this : Nat)  : ∀ (n : Nat) (x1 : Int32) (x2 : Int32) (x3 : Int32) (x4 : Int32) (x5 : Int32) (r : Int32), f_X11_areMet_6 h this n x1 x2 x3 x4 x5 = some r → RJ G l M_X11_areMet (some (vI r)) h 6 [(0, vR (some this)), (1, vI x1), (2, vI x2), (3, vI x3), (4, vI x4), (5, vI x5)] [] h := by
  intro n
  induction n with
  | zero =>
    intro x1 x2 x3 x4 x5 r hf
    rw [f_X11_areMet_6] at hf
    cases hf
  | succ n ih =>
    intro x1 x2 x3 x4 x5 r hf
    rw [f_X11_areMet_6] at hf
    refine r_iload 5 dX11_areMet_6 rfl ?_
    refine r_aload_n 0 dX11_areMet_8 rfl ?_
    obtain ⟨v9, e9, hf⟩ := ob hf
    refine r_get dX11_areMet_9 fl_11_32 kw_4_87 (Or.inl rfl) (gR_sp e9) ?_
    refine r_iload_n 1 dX11_areMet_12 rfl ?_
    obtain ⟨v13, e13, hf⟩ := ob hf
    refine r_iaload dX11_areMet_13 e13 ?_
    refine r_icmp_ge (tgt := 56) dX11_areMet_14 (by decide) (fun c14 => ?_) (fun c14 => ?_)
    · replace hf := (if_pos c14).symm.trans hf
      refine r_iload 4 dX11_areMet_56 rfl ?_
      exact r_zret rfl dX11_areMet_58 hf
    · replace hf := (if_neg c14).symm.trans hf
      refine r_iload 4 dX11_areMet_17 rfl ?_
      refine r_if_eq (tgt := 47) dX11_areMet_19 (by decide) (fun c19 => ?_) (fun c19 => ?_)
      · replace hf := (if_pos c19).symm.trans hf
        exact r_sub [0, 1, 2, 3, 5] rfl (t_X11_areMet_47 G l _ _ (f_X11_areMet_6 h this n) ih _ _ _ _ _ hf)
      · replace hf := (if_neg c19).symm.trans hf
        refine r_aload_n 0 dX11_areMet_22 rfl ?_
        refine r_aload_n 0 dX11_areMet_23 rfl ?_
        obtain ⟨v24, e24, hf⟩ := ob hf
        refine r_get dX11_areMet_24 fl_11_33 kw_4_88 (Or.inl rfl) (gR_sp e24) ?_
        refine r_bipush (x := (100 : Int32)) dX11_areMet_27 (by decide) ?_
        refine r_iload_n 1 dX11_areMet_29 rfl ?_
        refine r_imul dX11_areMet_30 ?_
        refine r_iload 5 dX11_areMet_31 rfl ?_
        refine r_iadd dX11_areMet_33 ?_
        obtain ⟨v34, e34, hf⟩ := ob hf
        refine r_laload dX11_areMet_34 e34 ?_
        refine r_iload_n 2 dX11_areMet_35 rfl ?_
        refine r_iload_n 3 dX11_areMet_36 rfl ?_
        obtain ⟨a37, ea37, hf⟩ := ob hf
        obtain ⟨v37, e37, hf⟩ := ob hf
        refine r_callV (y := yX11_isIn) (ci := 11) (avs := [vL v34, vI x2, vI x3]) dX11_areMet_37 rfl kw_5_74 kw_5_76 kw_0_34 kw_1_5 kw_5_77 oky_X11_isIn ⟨Nat.le_of_ble_eq_true rfl, Nat.le_of_ble_eq_true rfl⟩ rfl (Nat.le_of_ble_eq_true rfl) ea37 (k_X11_isIn G l e37) ?_
        refine r_if_eq (tgt := 47) dX11_areMet_40 (by decide) (fun c40 => ?_) (fun c40 => ?_)
        · replace hf := (if_pos c40).symm.trans hf
          exact r_sub [0, 1, 2, 3, 5] rfl (t_X11_areMet_47 G l _ _ (f_X11_areMet_6 h this n) ih _ _ _ _ _ hf)
        · replace hf := (if_neg c40).symm.trans hf
          refine r_iconst (x := (1 : Int32)) dX11_areMet_43 (by decide) ?_
          refine r_goto (tgt := 48) dX11_areMet_44 (by decide) ?_
          exact r_sub [0, 1, 2, 3, 5] rfl (t_X11_areMet_48 G l _ _ (f_X11_areMet_6 h this n) ih _ _ _ _ _ _ hf)
def f_X11_areMet (h : Hp) (this : Nat) (x1 : Int32) (x2 : Int32) (x3 : Int32) : Option Int32 :=
    f_X11_areMet_6 h this 10000 x1 x2 x3 (1 : Int32) (0 : Int32)
set_option maxRecDepth 100000 in
set_option maxHeartbeats 4000000 in
theorem k_X11_areMet (G : Gx) (l : Launch) {h : Hp} {this : Nat} {x1 : Int32} {x2 : Int32} {x3 : Int32} {r : Int32} (hf : f_X11_areMet h this x1 x2 x3 = some r) : KM l yX11_areMet (.code yX11_areMet cX11_areMet 6 (some .boolean) :: wsK) 1 26 G [vR (some this), vI x1, vI x2, vI x3] h (some (vI r)) h := by
  refine r_entry (ctor := false) (own := RX11) (by decide +kernel) rfl (fun q => by cases q) (Nat.le_of_ble_eq_true rfl) ?_
  show RJ G l M_X11_areMet (some (vI r)) h 0 [(0, vR (some this)), (1, vI x1), (2, vI x2), (3, vI x3)] [] h
  unfold f_X11_areMet at hf
  refine r_iconst (x := (1 : Int32)) dX11_areMet_0 (by decide) ?_
  refine r_istore (lv' := [(4, vI (1 : Int32)), (0, vR (some this)), (1, vI x1), (2, vI x2), (3, vI x3)]) dX11_areMet_1 (Nat.le_of_ble_eq_true rfl) rfl ?_
  refine r_iconst (x := (0 : Int32)) dX11_areMet_3 (by decide) ?_
  refine r_istore (lv' := [(5, vI (0 : Int32)), (4, vI (1 : Int32)), (0, vR (some this)), (1, vI x1), (2, vI x2), (3, vI x3)]) dX11_areMet_4 (Nat.le_of_ble_eq_true rfl) rfl ?_
  exact r_sub [2, 3, 4, 5, 1, 0] rfl (t_X11_areMet_6 G l _ _ _ _ _ _ _ _ _ hf)
/-! ===== NumberedByAgeModel.in(JJJ)Z ===== -/
abbrev M_X11_in : Mx := (cX11_in, 6, RX11, (false, []), (some .boolean), 0, 0)
def f_X11_in_17 (h : Hp)  : Option Int32 :=
    okZ (0 : Int32)
set_option maxRecDepth 100000 in
set_option maxHeartbeats 4000000 in
theorem t_X11_in_17 (G : Gx) (l : Launch) (h : Hp)   (r : Int32) (hf : f_X11_in_17 h = some r) : RJ G l M_X11_in (some (vI r)) h 17 [] [] h := by
  unfold f_X11_in_17 at hf
  refine r_iconst (x := (0 : Int32)) dX11_in_17 (by decide) ?_
  exact r_zret rfl dX11_in_18 hf
def f_X11_in (h : Hp) (x0 : Int64) (x2 : Int64) (x4 : Int64) : Option Int32 :=
    if (lg_cmp x0 x2) < 0 then
      f_X11_in_17 h 
    else
      if 0 < (lg_cmp x0 x4) then
        f_X11_in_17 h 
      else
        okZ (1 : Int32)
set_option maxRecDepth 100000 in
set_option maxHeartbeats 4000000 in
theorem k_X11_in (G : Gx) (l : Launch) {h : Hp} {x0 : Int64} {x2 : Int64} {x4 : Int64} {r : Int32} (hf : f_X11_in h x0 x2 x4 = some r) : KM l yX11_in (.code yX11_in cX11_in 6 (some .boolean) :: wsK) 0 0 G [vL x0, vL x2, vL x4] h (some (vI r)) h := by
  refine r_entry (ctor := false) (own := RX11) (by decide +kernel) rfl (fun q => by cases q) (Nat.le_of_ble_eq_true rfl) ?_
  show RJ G l M_X11_in (some (vI r)) h 0 [(0, vL x0), (2, vL x2), (4, vL x4)] [] h
  unfold f_X11_in at hf
  refine r_lload_n 0 dX11_in_0 rfl ?_
  refine r_lload_n 1 dX11_in_1 rfl ?_
  refine r_lcmp dX11_in_2 ?_
  refine r_if_lt (tgt := 17) dX11_in_3 (by decide) (fun c3 => ?_) (fun c3 => ?_)
  · replace hf := (if_pos c3).symm.trans hf
    exact r_sub [] rfl (t_X11_in_17 G l _  _ hf)
  · replace hf := (if_neg c3).symm.trans hf
    refine r_lload_n 0 dX11_in_6 rfl ?_
    refine r_lload 2 dX11_in_7 rfl ?_
    refine r_lcmp dX11_in_9 ?_
    refine r_if_gt (tgt := 17) dX11_in_10 (by decide) (fun c10 => ?_) (fun c10 => ?_)
    · replace hf := (if_pos c10).symm.trans hf
      exact r_sub [] rfl (t_X11_in_17 G l _  _ hf)
    · replace hf := (if_neg c10).symm.trans hf
      refine r_iconst (x := (1 : Int32)) dX11_in_13 (by decide) ?_
      refine r_goto (tgt := 18) dX11_in_14 (by decide) ?_
      exact r_zret rfl dX11_in_18 hf
/-! ===== NumberedByAgeModel.isPlot(I)Z ===== -/
abbrev M_X11_isPlot : Mx := (cX11_isPlot, 1, RX11, (false, []), (some .boolean), 1, 25)
def f_X11_isPlot (h : Hp) (x0 : Int32) : Option Int32 :=
    (f_X11_in h x0.toInt64 (0 : Int64) (11 : Int64)).bind fun v6 =>
    okZ v6
set_option maxRecDepth 100000 in
set_option maxHeartbeats 4000000 in
theorem k_X11_isPlot (G : Gx) (l : Launch) {h : Hp} {x0 : Int32} {r : Int32} (hf : f_X11_isPlot h x0 = some r) : KM l yX11_isPlot (.code yX11_isPlot cX11_isPlot 1 (some .boolean) :: wsK) 1 25 G [vI x0] h (some (vI r)) h := by
  refine r_entry (ctor := false) (own := RX11) (by decide +kernel) rfl (fun q => by cases q) (Nat.le_of_ble_eq_true rfl) ?_
  show RJ G l M_X11_isPlot (some (vI r)) h 0 [(0, vI x0)] [] h
  unfold f_X11_isPlot at hf
  refine r_iload_n 0 dX11_isPlot_0 rfl ?_
  refine r_i2l dX11_isPlot_1 ?_
  refine r_lconst (x := (0 : Int64)) dX11_isPlot_2 (by decide) ?_
  refine r_ldc2 (x := (11 : Int64)) dX11_isPlot_3 kw_5_18 ?_
  obtain ⟨v6, e6, hf⟩ := ob hf
  refine r_callS (y := yX11_in) (avs := [vL x0.toInt64, vL (0 : Int64), vL (11 : Int64)]) dX11_isPlot_6 kw_4_179 kw_4_180 kw_1_5 kw_4_181 oky_X11_in ⟨Nat.le_of_ble_eq_true rfl, Nat.le_of_ble_eq_true rfl⟩ rfl (Nat.le_of_ble_eq_true rfl) (k_X11_in G l e6) ?_
  exact r_zret rfl dX11_isPlot_9 hf
/-! ===== NumberedByAgeModel.lookEmpty()V ===== -/
abbrev M_X11_lookEmpty : Mx := (cX11_lookEmpty, 2, RX11, (false, []), none, 0, 0)
def f_X11_lookEmpty_23 (this : Nat) : Nat → Hp → Int32 → Option Hp
  | 0, _, _ => none
  | n + 1, h, x1 =>
    if (3 : Int32) ≤ x1 then
      some h
    else
      (gR h (some this) [11] 8).bind fun v29 =>
      (wI h v29 x1 (0 : Int32)).bind fun h34 =>
      (f_X11_lookEmpty_23 this n) h34 (x1 + 1)
set_option maxRecDepth 100000 in
set_option maxHeartbeats 4000000 in
theorem t_X11_lookEmpty_23 (G : Gx) (l : Launch) (this : Nat)  : ∀ (n : Nat) (h : Hp) (x1 : Int32) (r : Hp), f_X11_lookEmpty_23 this n h x1 = some r → RJ G l M_X11_lookEmpty none r 23 [(0, vR (some this)), (1, vI x1)] [] h := by
  intro n
  induction n with
  | zero =>
    intro h x1 r hf
    rw [f_X11_lookEmpty_23] at hf
    cases hf
  | succ n ih =>
    intro h x1 r hf
    rw [f_X11_lookEmpty_23] at hf
    refine r_iload_n 1 dX11_lookEmpty_23 rfl ?_
    refine r_iconst (x := (3 : Int32)) dX11_lookEmpty_24 (by decide) ?_
    refine r_icmp_ge (tgt := 41) dX11_lookEmpty_25 (by decide) (fun c25 => ?_) (fun c25 => ?_)
    · replace hf := (if_pos c25).symm.trans hf
      have hf := Option.some.inj hf
      subst hf
      exact r_vret rfl dX11_lookEmpty_41
    · replace hf := (if_neg c25).symm.trans hf
      refine r_aload_n 0 dX11_lookEmpty_28 rfl ?_
      obtain ⟨v29, e29, hf⟩ := ob hf
      refine r_get dX11_lookEmpty_29 fl_11_8 kw_4_63 (Or.inl rfl) (gR_sp e29) ?_
      refine r_iload_n 1 dX11_lookEmpty_32 rfl ?_
      refine r_iconst (x := (0 : Int32)) dX11_lookEmpty_33 (by decide) ?_
      obtain ⟨h34, e34, hf⟩ := ob hf
      refine r_iastore dX11_lookEmpty_34 e34 ?_
      refine r_iinc (y := (x1 + 1)) (lv' := [(1, vI (x1 + 1)), (0, vR (some this))]) 1 dX11_lookEmpty_35 rfl rfl (Nat.le_of_ble_eq_true rfl) rfl ?_
      refine r_goto (tgt := 23) dX11_lookEmpty_38 (by decide) ?_
      exact r_sub [1, 0] rfl (ih _ _ _ hf)
def f_X11_lookEmpty_2 (this : Nat) : Nat → Hp → Int32 → Option Hp
  | 0, _, _ => none
  | n + 1, h, x1 =>
    if (12 : Int32) ≤ x1 then
      f_X11_lookEmpty_23 this 10000 h (0 : Int32)
    else
      (gR h (some this) [11] 7).bind fun v9 =>
      (wI h v9 x1 (0 : Int32)).bind fun h14 =>
      (f_X11_lookEmpty_2 this n) h14 (x1 + 1)
set_option maxRecDepth 100000 in
set_option maxHeartbeats 4000000 in
theorem t_X11_lookEmpty_2 (G : Gx) (l : Launch) (this : Nat)  : ∀ (n : Nat) (h : Hp) (x1 : Int32) (r : Hp), f_X11_lookEmpty_2 this n h x1 = some r → RJ G l M_X11_lookEmpty none r 2 [(0, vR (some this)), (1, vI x1)] [] h := by
  intro n
  induction n with
  | zero =>
    intro h x1 r hf
    rw [f_X11_lookEmpty_2] at hf
    cases hf
  | succ n ih =>
    intro h x1 r hf
    rw [f_X11_lookEmpty_2] at hf
    refine r_iload_n 1 dX11_lookEmpty_2 rfl ?_
    refine r_bipush (x := (12 : Int32)) dX11_lookEmpty_3 (by decide) ?_
    refine r_icmp_ge (tgt := 21) dX11_lookEmpty_5 (by decide) (fun c5 => ?_) (fun c5 => ?_)
    · replace hf := (if_pos c5).symm.trans hf
      refine r_iconst (x := (0 : Int32)) dX11_lookEmpty_21 (by decide) ?_
      refine r_istore_n (lv' := [(1, vI (0 : Int32)), (0, vR (some this))]) dX11_lookEmpty_22 (Nat.le_of_ble_eq_true rfl) rfl ?_
      exact r_sub [1, 0] rfl (t_X11_lookEmpty_23 G l _ _ _ _ _ hf)
    · replace hf := (if_neg c5).symm.trans hf
      refine r_aload_n 0 dX11_lookEmpty_8 rfl ?_
      obtain ⟨v9, e9, hf⟩ := ob hf
      refine r_get dX11_lookEmpty_9 fl_11_7 kw_4_62 (Or.inl rfl) (gR_sp e9) ?_
      refine r_iload_n 1 dX11_lookEmpty_12 rfl ?_
      refine r_iconst (x := (0 : Int32)) dX11_lookEmpty_13 (by decide) ?_
      obtain ⟨h14, e14, hf⟩ := ob hf
      refine r_iastore dX11_lookEmpty_14 e14 ?_
      refine r_iinc (y := (x1 + 1)) (lv' := [(1, vI (x1 + 1)), (0, vR (some this))]) 1 dX11_lookEmpty_15 rfl rfl (Nat.le_of_ble_eq_true rfl) rfl ?_
      refine r_goto (tgt := 2) dX11_lookEmpty_18 (by decide) ?_
      exact r_sub [1, 0] rfl (ih _ _ _ hf)
def f_X11_lookEmpty (h : Hp) (this : Nat) : Option Hp :=
    f_X11_lookEmpty_2 this 10000 h (0 : Int32)
set_option maxRecDepth 100000 in
set_option maxHeartbeats 4000000 in
theorem k_X11_lookEmpty (G : Gx) (l : Launch) {h : Hp} {this : Nat} {r : Hp} (hf : f_X11_lookEmpty h this = some r) : KM l yX11_lookEmpty (.code yX11_lookEmpty cX11_lookEmpty 2 none :: wsK) 0 0 G [vR (some this)] h none r := by
  refine r_entry (ctor := false) (own := RX11) (by decide +kernel) rfl (fun q => by cases q) (Nat.le_of_ble_eq_true rfl) ?_
  show RJ G l M_X11_lookEmpty none r 0 [(0, vR (some this))] [] h
  unfold f_X11_lookEmpty at hf
  refine r_iconst (x := (0 : Int32)) dX11_lookEmpty_0 (by decide) ?_
  refine r_istore_n (lv' := [(1, vI (0 : Int32)), (0, vR (some this))]) dX11_lookEmpty_1 (Nat.le_of_ble_eq_true rfl) rfl ?_
  exact r_sub [1, 0] rfl (t_X11_lookEmpty_2 G l _ _ _ _ _ hf)
/-! ===== NumberedByAgeModel.lookNow()V ===== -/
abbrev M_X11_lookNow : Mx := (cX11_lookNow, 2, RX11, (false, []), none, 1, 21)
def f_X11_lookNow_68 (this : Nat) (k32 : Hp → Int32 → Option Hp) (h : Hp) (x1 : Int32) (s0 : Int32) (s1 : Int32) (s2 : Int32) (s3 : Option Nat) : Option Hp :=
    (wI h s3 s2 (s1 + s0)).bind fun h69 =>
    k32 h69 (x1 + 1)
set_option maxRecDepth 100000 in
set_option maxHeartbeats 4000000 in
theorem t_X11_lookNow_68 (G : Gx) (l : Launch) (this : Nat) (k32 : Hp → Int32 → Option Hp) (hk32 : ∀ (h : Hp) (x1 : Int32) (r : Hp), k32 h x1 = some r → RJ G l M_X11_lookNow none r 32 [(0, vR (some this)), (1, vI x1)] [] h) (h : Hp) (x1 : Int32) (s0 : Int32) (s1 : Int32) (s2 : Int32) (s3 : Option Nat) (r : Hp) (hf : f_X11_lookNow_68 this k32 h x1 s0 s1 s2 s3 = some r) : RJ G l M_X11_lookNow none r 68 [(0, vR (some this)), (1, vI x1)] [vI s0, vI s1, vI s2, vR s3] h := by
  unfold f_X11_lookNow_68 at hf
  refine r_iadd dX11_lookNow_68 ?_
  obtain ⟨h69, e69, hf⟩ := ob hf
  refine r_iastore dX11_lookNow_69 e69 ?_
  refine r_iinc (y := (x1 + 1)) (lv' := [(1, vI (x1 + 1)), (0, vR (some this))]) 1 dX11_lookNow_70 rfl rfl (Nat.le_of_ble_eq_true rfl) rfl ?_
  refine r_goto (tgt := 32) dX11_lookNow_73 (by decide) ?_
  exact r_sub [1, 0] rfl (hk32 _ _ _ hf)
def f_X11_lookNow_32 (this : Nat) : Nat → Hp → Int32 → Option Hp
  | 0, _, _ => none
  | n + 1, h, x1 =>
    (gI h (some this) [11] 2).bind fun v34 =>
    if v34 ≤ x1 then
      some h
    else
      (gR h (some this) [11] 8).bind fun v41 =>
      (gR h (some this) [11] 3).bind fun v45 =>
      (aI h v45 x1).bind fun v49 =>
      (dvI v49 (4 : Int32)).bind fun v51 =>
      (aI h v41 v51).bind fun v53 =>
      (gR h (some this) [11] 4).bind fun v55 =>
      (aI h v55 x1).bind fun v59 =>
      if v59 ≤ 0 then
        f_X11_lookNow_68 this (f_X11_lookNow_32 this n) h x1 (0 : Int32) v53 v51 v41
      else
        f_X11_lookNow_68 this (f_X11_lookNow_32 this n) h x1 (1 : Int32) v53 v51 v41
set_option maxRecDepth 100000 in
set_option maxHeartbeats 4000000 in
theorem t_X11_lookNow_32 (G : Gx) (l : Launch) (this : Nat)  : ∀ (n : Nat) (h : Hp) (x1 : Int32) (r : Hp), f_X11_lookNow_32 this n h x1 = some r → RJ G l M_X11_lookNow none r 32 [(0, vR (some this)), (1, vI x1)] [] h := by
  intro n
  induction n with
  | zero =>
    intro h x1 r hf
    rw [f_X11_lookNow_32] at hf
    cases hf
  | succ n ih =>
    intro h x1 r hf
    rw [f_X11_lookNow_32] at hf
    refine r_iload_n 1 dX11_lookNow_32 rfl ?_
    refine r_aload_n 0 dX11_lookNow_33 rfl ?_
    obtain ⟨v34, e34, hf⟩ := ob hf
    refine r_get dX11_lookNow_34 fl_11_2 kw_4_57 (Or.inl rfl) (gI_sp e34) ?_
    refine r_icmp_ge (tgt := 76) dX11_lookNow_37 (by decide) (fun c37 => ?_) (fun c37 => ?_)
    · replace hf := (if_pos c37).symm.trans hf
      have hf := Option.some.inj hf
      subst hf
      exact r_vret rfl dX11_lookNow_76
    · replace hf := (if_neg c37).symm.trans hf
      refine r_aload_n 0 dX11_lookNow_40 rfl ?_
      obtain ⟨v41, e41, hf⟩ := ob hf
      refine r_get dX11_lookNow_41 fl_11_8 kw_4_63 (Or.inl rfl) (gR_sp e41) ?_
      refine r_aload_n 0 dX11_lookNow_44 rfl ?_
      obtain ⟨v45, e45, hf⟩ := ob hf
      refine r_get dX11_lookNow_45 fl_11_3 kw_4_58 (Or.inl rfl) (gR_sp e45) ?_
      refine r_iload_n 1 dX11_lookNow_48 rfl ?_
      obtain ⟨v49, e49, hf⟩ := ob hf
      refine r_iaload dX11_lookNow_49 e49 ?_
      refine r_iconst (x := (4 : Int32)) dX11_lookNow_50 (by decide) ?_
      obtain ⟨v51, e51, hf⟩ := ob hf
      refine r_idiv dX11_lookNow_51 e51 ?_
      refine r_dup2 dX11_lookNow_52 rfl rfl ?_
      obtain ⟨v53, e53, hf⟩ := ob hf
      refine r_iaload dX11_lookNow_53 e53 ?_
      refine r_aload_n 0 dX11_lookNow_54 rfl ?_
      obtain ⟨v55, e55, hf⟩ := ob hf
      refine r_get dX11_lookNow_55 fl_11_4 kw_4_59 (Or.inl rfl) (gR_sp e55) ?_
      refine r_iload_n 1 dX11_lookNow_58 rfl ?_
      refine r_pc (pc' := 59) rfl ?_
      obtain ⟨v59, e59, hf⟩ := ob hf
      refine r_iaload dX11_lookNow_59 e59 ?_
      refine r_if_le (tgt := 67) dX11_lookNow_60 (by decide) (fun c60 => ?_) (fun c60 => ?_)
      · replace hf := (if_pos c60).symm.trans hf
        refine r_iconst (x := (0 : Int32)) dX11_lookNow_67 (by decide) ?_
        exact r_sub [0, 1] rfl (t_X11_lookNow_68 G l _ (f_X11_lookNow_32 this n) ih _ _ _ _ _ _ _ hf)
      · replace hf := (if_neg c60).symm.trans hf
        refine r_iconst (x := (1 : Int32)) dX11_lookNow_63 (by decide) ?_
        refine r_goto (tgt := 68) dX11_lookNow_64 (by decide) ?_
        exact r_sub [0, 1] rfl (t_X11_lookNow_68 G l _ (f_X11_lookNow_32 this n) ih _ _ _ _ _ _ _ hf)
def f_X11_lookNow_6 (this : Nat) : Nat → Hp → Int32 → Option Hp
  | 0, _, _ => none
  | n + 1, h, x1 =>
    if (12 : Int32) ≤ x1 then
      f_X11_lookNow_32 this 10000 h (0 : Int32)
    else
      (gR h (some this) [11] 7).bind fun v13 =>
      (gR h (some this) [11] 5).bind fun v18 =>
      (aI h v18 x1).bind fun v22 =>
      (wI h v13 x1 v22).bind fun h23 =>
      (f_X11_lookNow_6 this n) h23 (x1 + 1)
set_option maxRecDepth 100000 in
set_option maxHeartbeats 4000000 in
theorem t_X11_lookNow_6 (G : Gx) (l : Launch) (this : Nat)  : ∀ (n : Nat) (h : Hp) (x1 : Int32) (r : Hp), f_X11_lookNow_6 this n h x1 = some r → RJ G l M_X11_lookNow none r 6 [(0, vR (some this)), (1, vI x1)] [] h := by
  intro n
  induction n with
  | zero =>
    intro h x1 r hf
    rw [f_X11_lookNow_6] at hf
    cases hf
  | succ n ih =>
    intro h x1 r hf
    rw [f_X11_lookNow_6] at hf
    refine r_iload_n 1 dX11_lookNow_6 rfl ?_
    refine r_bipush (x := (12 : Int32)) dX11_lookNow_7 (by decide) ?_
    refine r_icmp_ge (tgt := 30) dX11_lookNow_9 (by decide) (fun c9 => ?_) (fun c9 => ?_)
    · replace hf := (if_pos c9).symm.trans hf
      refine r_iconst (x := (0 : Int32)) dX11_lookNow_30 (by decide) ?_
      refine r_istore_n (lv' := [(1, vI (0 : Int32)), (0, vR (some this))]) dX11_lookNow_31 (Nat.le_of_ble_eq_true rfl) rfl ?_
      exact r_sub [1, 0] rfl (t_X11_lookNow_32 G l _ _ _ _ _ hf)
    · replace hf := (if_neg c9).symm.trans hf
      refine r_aload_n 0 dX11_lookNow_12 rfl ?_
      obtain ⟨v13, e13, hf⟩ := ob hf
      refine r_get dX11_lookNow_13 fl_11_7 kw_4_62 (Or.inl rfl) (gR_sp e13) ?_
      refine r_iload_n 1 dX11_lookNow_16 rfl ?_
      refine r_aload_n 0 dX11_lookNow_17 rfl ?_
      obtain ⟨v18, e18, hf⟩ := ob hf
      refine r_get dX11_lookNow_18 fl_11_5 kw_4_60 (Or.inl rfl) (gR_sp e18) ?_
      refine r_iload_n 1 dX11_lookNow_21 rfl ?_
      obtain ⟨v22, e22, hf⟩ := ob hf
      refine r_iaload dX11_lookNow_22 e22 ?_
      obtain ⟨h23, e23, hf⟩ := ob hf
      refine r_iastore dX11_lookNow_23 e23 ?_
      refine r_iinc (y := (x1 + 1)) (lv' := [(1, vI (x1 + 1)), (0, vR (some this))]) 1 dX11_lookNow_24 rfl rfl (Nat.le_of_ble_eq_true rfl) rfl ?_
      refine r_goto (tgt := 6) dX11_lookNow_27 (by decide) ?_
      exact r_sub [1, 0] rfl (ih _ _ _ hf)
def f_X11_lookNow (h : Hp) (this : Nat) : Option Hp :=
    (rcv h (some this) 11).bind fun a1 =>
    (f_X11_lookEmpty h a1).bind fun h1 =>
    f_X11_lookNow_6 this 10000 h1 (0 : Int32)
set_option maxRecDepth 100000 in
set_option maxHeartbeats 4000000 in
theorem k_X11_lookNow (G : Gx) (l : Launch) {h : Hp} {this : Nat} {r : Hp} (hf : f_X11_lookNow h this = some r) : KM l yX11_lookNow (.code yX11_lookNow cX11_lookNow 2 none :: wsK) 1 21 G [vR (some this)] h none r := by
  refine r_entry (ctor := false) (own := RX11) (by decide +kernel) rfl (fun q => by cases q) (Nat.le_of_ble_eq_true rfl) ?_
  show RJ G l M_X11_lookNow none r 0 [(0, vR (some this))] [] h
  unfold f_X11_lookNow at hf
  refine r_aload_n 0 dX11_lookNow_0 rfl ?_
  obtain ⟨a1, ea1, hf⟩ := ob hf
  obtain ⟨h1, e1, hf⟩ := ob hf
  refine r_callV (y := yX11_lookEmpty) (ci := 11) (avs := []) dX11_lookNow_1 rfl kw_4_216 kw_4_218 kw_0_24 kw_1_5 kw_4_219 oky_X11_lookEmpty ⟨Nat.le_of_ble_eq_true rfl, Nat.le_of_ble_eq_true rfl⟩ rfl (Nat.le_of_ble_eq_true rfl) ea1 (k_X11_lookEmpty G l e1) ?_
  refine r_iconst (x := (0 : Int32)) dX11_lookNow_4 (by decide) ?_
  refine r_istore_n (lv' := [(1, vI (0 : Int32)), (0, vR (some this))]) dX11_lookNow_5 (Nat.le_of_ble_eq_true rfl) rfl ?_
  exact r_sub [1, 0] rfl (t_X11_lookNow_6 G l _ _ _ _ _ hf)
/-! ===== NumberedByAgeModel.isHad(I)Z ===== -/
abbrev M_X11_isHad : Mx := (cX11_isHad, 4, RX11, (false, []), (some .boolean), 0, 0)
def f_X11_isHad_29 (h : Hp) (this : Nat) (k4 : Int32 → Int32 → Int32 → Option Int32) (x1 : Int32) (x3 : Int32) (s0 : Int32) : Option Int32 :=
    k4 x1 s0 (x3 + 1)
set_option maxRecDepth 100000 in
set_option maxHeartbeats 4000000 in
theorem t_X11_isHad_29 (G : Gx) (l : Launch) (h : Hp) (this : Nat) (k4 : Int32 → Int32 → Int32 → Option Int32) (hk4 : ∀ (x1 : Int32) (x2 : Int32) (x3 : Int32) (r : Int32), k4 x1 x2 x3 = some r → RJ G l M_X11_isHad (some (vI r)) h 4 [(0, vR (some this)), (1, vI x1), (2, vI x2), (3, vI x3)] [] h) (x1 : Int32) (x3 : Int32) (s0 : Int32) (r : Int32) (hf : f_X11_isHad_29 h this k4 x1 x3 s0 = some r) : RJ G l M_X11_isHad (some (vI r)) h 29 [(0, vR (some this)), (1, vI x1), (3, vI x3)] [vI s0] h := by
  unfold f_X11_isHad_29 at hf
  refine r_istore_n (lv' := [(2, vI s0), (0, vR (some this)), (1, vI x1), (3, vI x3)]) dX11_isHad_29 (Nat.le_of_ble_eq_true rfl) rfl ?_
  refine r_iinc (y := (x3 + 1)) (lv' := [(3, vI (x3 + 1)), (2, vI s0), (0, vR (some this)), (1, vI x1)]) 3 dX11_isHad_30 rfl rfl (Nat.le_of_ble_eq_true rfl) rfl ?_
  refine r_goto (tgt := 4) dX11_isHad_33 (by decide) ?_
  exact r_sub [2, 3, 1, 0] rfl (hk4 _ _ _ _ hf)
def f_X11_isHad_24 (h : Hp) (this : Nat) (k4 : Int32 → Int32 → Int32 → Option Int32) (x1 : Int32) (x3 : Int32) : Option Int32 :=
    f_X11_isHad_29 h this k4 x1 x3 (1 : Int32)
set_option maxRecDepth 100000 in
set_option maxHeartbeats 4000000 in
theorem t_X11_isHad_24 (G : Gx) (l : Launch) (h : Hp) (this : Nat) (k4 : Int32 → Int32 → Int32 → Option Int32) (hk4 : ∀ (x1 : Int32) (x2 : Int32) (x3 : Int32) (r : Int32), k4 x1 x2 x3 = some r → RJ G l M_X11_isHad (some (vI r)) h 4 [(0, vR (some this)), (1, vI x1), (2, vI x2), (3, vI x3)] [] h) (x1 : Int32) (x3 : Int32) (r : Int32) (hf : f_X11_isHad_24 h this k4 x1 x3 = some r) : RJ G l M_X11_isHad (some (vI r)) h 24 [(0, vR (some this)), (1, vI x1), (3, vI x3)] [] h := by
  unfold f_X11_isHad_24 at hf
  refine r_iconst (x := (1 : Int32)) dX11_isHad_24 (by decide) ?_
  refine r_goto (tgt := 29) dX11_isHad_25 (by decide) ?_
  exact r_sub [0, 1, 2] rfl (t_X11_isHad_29 G l _ _ k4 hk4 _ _ _ _ hf)
def f_X11_isHad_4 (h : Hp) (this : Nat) : Nat → Int32 → Int32 → Int32 → Option Int32
  | 0, _, _, _ => none
  | n + 1, x1, x2, x3 =>
    if (12 : Int32) ≤ x3 then
      okZ x2
    else
      if x2 = 0 then
        (gR h (some this) [11] 7).bind fun v15 =>
        (aI h v15 x3).bind fun v19 =>
        if v19 = x1 then
          f_X11_isHad_24 h this (f_X11_isHad_4 h this n) x1 x3
        else
          f_X11_isHad_29 h this (f_X11_isHad_4 h this n) x1 x3 (0 : Int32)
      else
        f_X11_isHad_24 h this (f_X11_isHad_4 h this n) x1 x3
set_option maxRecDepth 100000 in
set_option maxHeartbeats 4000000 in
theorem t_X11_isHad_4 (G : Gx) (l : Launch) (h : Hp) (this : Nat)  : ∀ (n : Nat) (x1 : Int32) (x2 : Int32) (x3 : Int32) (r : Int32), f_X11_isHad_4 h this n x1 x2 x3 = some r → RJ G l M_X11_isHad (some (vI r)) h 4 [(0, vR (some this)), (1, vI x1), (2, vI x2), (3, vI x3)] [] h := by
  intro n
  induction n with
  | zero =>
    intro x1 x2 x3 r hf
    rw [f_X11_isHad_4] at hf
    cases hf
  | succ n ih =>
    intro x1 x2 x3 r hf
    rw [f_X11_isHad_4] at hf
    refine r_iload_n 3 dX11_isHad_4 rfl ?_
    refine r_bipush (x := (12 : Int32)) dX11_isHad_5 (by decide) ?_
    refine r_icmp_ge (tgt := 36) dX11_isHad_7 (by decide) (fun c7 => ?_) (fun c7 => ?_)
    · replace hf := (if_pos c7).symm.trans hf
      refine r_iload_n 2 dX11_isHad_36 rfl ?_
      exact r_zret rfl dX11_isHad_37 hf
    · replace hf := (if_neg c7).symm.trans hf
      refine r_iload_n 2 dX11_isHad_10 rfl ?_
      refine r_if_ne (tgt := 24) dX11_isHad_11 (by decide) (fun c11 => ?_) (fun c11 => ?_)
      · replace hf := (if_pos c11).symm.trans hf
        refine r_aload_n 0 dX11_isHad_14 rfl ?_
        obtain ⟨v15, e15, hf⟩ := ob hf
        refine r_get dX11_isHad_15 fl_11_7 kw_4_62 (Or.inl rfl) (gR_sp e15) ?_
        refine r_iload_n 3 dX11_isHad_18 rfl ?_
        obtain ⟨v19, e19, hf⟩ := ob hf
        refine r_iaload dX11_isHad_19 e19 ?_
        refine r_iload_n 1 dX11_isHad_20 rfl ?_
        refine r_icmp_ne (tgt := 28) dX11_isHad_21 (by decide) (fun c21 => ?_) (fun c21 => ?_)
        · replace hf := (if_pos c21).symm.trans hf
          exact r_sub [0, 1, 3] rfl (t_X11_isHad_24 G l _ _ (f_X11_isHad_4 h this n) ih _ _ _ hf)
        · replace hf := (if_neg c21).symm.trans hf
          refine r_iconst (x := (0 : Int32)) dX11_isHad_28 (by decide) ?_
          exact r_sub [0, 1, 3] rfl (t_X11_isHad_29 G l _ _ (f_X11_isHad_4 h this n) ih _ _ _ _ hf)
      · replace hf := (if_neg c11).symm.trans hf
        exact r_sub [0, 1, 3] rfl (t_X11_isHad_24 G l _ _ (f_X11_isHad_4 h this n) ih _ _ _ hf)
def f_X11_isHad (h : Hp) (this : Nat) (x1 : Int32) : Option Int32 :=
    f_X11_isHad_4 h this 10000 x1 (0 : Int32) (0 : Int32)
set_option maxRecDepth 100000 in
set_option maxHeartbeats 4000000 in
theorem k_X11_isHad (G : Gx) (l : Launch) {h : Hp} {this : Nat} {x1 : Int32} {r : Int32} (hf : f_X11_isHad h this x1 = some r) : KM l yX11_isHad (.code yX11_isHad cX11_isHad 4 (some .boolean) :: wsK) 0 0 G [vR (some this), vI x1] h (some (vI r)) h := by
  refine r_entry (ctor := false) (own := RX11) (by decide +kernel) rfl (fun q => by cases q) (Nat.le_of_ble_eq_true rfl) ?_
  show RJ G l M_X11_isHad (some (vI r)) h 0 [(0, vR (some this)), (1, vI x1)] [] h
  unfold f_X11_isHad at hf
  refine r_iconst (x := (0 : Int32)) dX11_isHad_0 (by decide) ?_
  refine r_istore_n (lv' := [(2, vI (0 : Int32)), (0, vR (some this)), (1, vI x1)]) dX11_isHad_1 (Nat.le_of_ble_eq_true rfl) rfl ?_
  refine r_iconst (x := (0 : Int32)) dX11_isHad_2 (by decide) ?_
  refine r_istore_n (lv' := [(3, vI (0 : Int32)), (2, vI (0 : Int32)), (0, vR (some this)), (1, vI x1)]) dX11_isHad_3 (Nat.le_of_ble_eq_true rfl) rfl ?_
  exact r_sub [2, 3, 1, 0] rfl (t_X11_isHad_4 G l _ _ _ _ _ _ _ hf)
/-! ===== NumberedByAgeModel.firstGap()I ===== -/
abbrev M_X11_firstGap : Mx := (cX11_firstGap, 2, RX11, (false, []), (some .int), 1, 23)
def f_X11_firstGap_2 (h : Hp) (this : Nat) : Nat → Int32 → Option Int32
  | 0, _ => none
  | n + 1, x1 =>
    (rcv h (some this) 11).bind fun a4 =>
    (f_X11_isHad h a4 x1).bind fun v4 =>
    if v4 = 0 then
      some x1
    else
      (f_X11_firstGap_2 h this n) (x1 + 1)
set_option maxRecDepth 100000 in
set_option maxHeartbeats 4000000 in
theorem t_X11_firstGap_2 (G : Gx) (l : Launch) (h : Hp) (this : Nat)  : ∀ (n : Nat) (x1 : Int32) (r : Int32), f_X11_firstGap_2 h this n x1 = some r → RJ G l M_X11_firstGap (some (vI r)) h 2 [(0, vR (some this)), (1, vI x1)] [] h := by
  intro n
  induction n with
  | zero =>
    intro x1 r hf
    rw [f_X11_firstGap_2] at hf
    cases hf
  | succ n ih =>
    intro x1 r hf
    rw [f_X11_firstGap_2] at hf
    refine r_aload_n 0 dX11_firstGap_2 rfl ?_
    refine r_iload_n 1 dX11_firstGap_3 rfl ?_
    obtain ⟨a4, ea4, hf⟩ := ob hf
    obtain ⟨v4, e4, hf⟩ := ob hf
    refine r_callV (y := yX11_isHad) (ci := 11) (avs := [vI x1]) dX11_firstGap_4 rfl kw_4_228 kw_4_230 kw_0_27 kw_1_5 kw_4_231 oky_X11_isHad ⟨Nat.le_of_ble_eq_true rfl, Nat.le_of_ble_eq_true rfl⟩ rfl (Nat.le_of_ble_eq_true rfl) ea4 (k_X11_isHad G l e4) ?_
    refine r_if_eq (tgt := 16) dX11_firstGap_7 (by decide) (fun c7 => ?_) (fun c7 => ?_)
    · replace hf := (if_pos c7).symm.trans hf
      refine r_iload_n 1 dX11_firstGap_16 rfl ?_
      have hf := Option.some.inj hf
      subst hf
      exact r_iret rfl dX11_firstGap_17
    · replace hf := (if_neg c7).symm.trans hf
      refine r_iinc (y := (x1 + 1)) (lv' := [(1, vI (x1 + 1)), (0, vR (some this))]) 1 dX11_firstGap_10 rfl rfl (Nat.le_of_ble_eq_true rfl) rfl ?_
      refine r_goto (tgt := 2) dX11_firstGap_13 (by decide) ?_
      exact r_sub [1, 0] rfl (ih _ _ hf)
def f_X11_firstGap (h : Hp) (this : Nat) : Option Int32 :=
    f_X11_firstGap_2 h this 10000 (1 : Int32)
set_option maxRecDepth 100000 in
set_option maxHeartbeats 4000000 in
theorem k_X11_firstGap (G : Gx) (l : Launch) {h : Hp} {this : Nat} {r : Int32} (hf : f_X11_firstGap h this = some r) : KM l yX11_firstGap (.code yX11_firstGap cX11_firstGap 2 (some .int) :: wsK) 1 23 G [vR (some this)] h (some (vI r)) h := by
  refine r_entry (ctor := false) (own := RX11) (by decide +kernel) rfl (fun q => by cases q) (Nat.le_of_ble_eq_true rfl) ?_
  show RJ G l M_X11_firstGap (some (vI r)) h 0 [(0, vR (some this))] [] h
  unfold f_X11_firstGap at hf
  refine r_iconst (x := (1 : Int32)) dX11_firstGap_0 (by decide) ?_
  refine r_istore_n (lv' := [(1, vI (1 : Int32)), (0, vR (some this))]) dX11_firstGap_1 (Nat.le_of_ble_eq_true rfl) rfl ?_
  exact r_sub [1, 0] rfl (t_X11_firstGap_2 G l _ _ _ _ _ hf)
/-! ===== NumberedByAgeModel.skipped(II)I ===== -/
abbrev M_X11_skipped : Mx := (cX11_skipped, 4, RX11, (false, []), (some .int), 0, 0)
def f_X11_skipped_28 (h : Hp) (k4 : Int32 → Int32 → Int32 → Option Int32) (x1 : Int32) (x3 : Int32) (s0 : Int32) (s1 : Int32) : Option Int32 :=
    k4 x1 (s1 - s0) x3
set_option maxRecDepth 100000 in
set_option maxHeartbeats 4000000 in
theorem t_X11_skipped_28 (G : Gx) (l : Launch) (h : Hp) (k4 : Int32 → Int32 → Int32 → Option Int32) (hk4 : ∀ (x1 : Int32) (x2 : Int32) (x3 : Int32) (r : Int32), k4 x1 x2 x3 = some r → RJ G l M_X11_skipped (some (vI r)) h 4 [(1, vI x1), (2, vI x2), (3, vI x3)] [] h) (x1 : Int32) (x3 : Int32) (s0 : Int32) (s1 : Int32) (r : Int32) (hf : f_X11_skipped_28 h k4 x1 x3 s0 s1 = some r) : RJ G l M_X11_skipped (some (vI r)) h 28 [(1, vI x1), (3, vI x3)] [vI s0, vI s1] h := by
  unfold f_X11_skipped_28 at hf
  refine r_isub dX11_skipped_28 ?_
  refine r_istore_n (lv' := [(2, vI (s1 - s0)), (1, vI x1), (3, vI x3)]) dX11_skipped_29 (Nat.le_of_ble_eq_true rfl) rfl ?_
  refine r_goto (tgt := 4) dX11_skipped_30 (by decide) ?_
  exact r_sub [1, 0, 2] rfl (hk4 _ _ _ _ hf)
def f_X11_skipped_23 (h : Hp) (k4 : Int32 → Int32 → Int32 → Option Int32) (x1 : Int32) (x3 : Int32) (s0 : Int32) : Option Int32 :=
    f_X11_skipped_28 h k4 x1 x3 (1 : Int32) s0
set_option maxRecDepth 100000 in
set_option maxHeartbeats 4000000 in
theorem t_X11_skipped_23 (G : Gx) (l : Launch) (h : Hp) (k4 : Int32 → Int32 → Int32 → Option Int32) (hk4 : ∀ (x1 : Int32) (x2 : Int32) (x3 : Int32) (r : Int32), k4 x1 x2 x3 = some r → RJ G l M_X11_skipped (some (vI r)) h 4 [(1, vI x1), (2, vI x2), (3, vI x3)] [] h) (x1 : Int32) (x3 : Int32) (s0 : Int32) (r : Int32) (hf : f_X11_skipped_23 h k4 x1 x3 s0 = some r) : RJ G l M_X11_skipped (some (vI r)) h 23 [(1, vI x1), (3, vI x3)] [vI s0] h := by
  unfold f_X11_skipped_23 at hf
  refine r_iconst (x := (1 : Int32)) dX11_skipped_23 (by decide) ?_
  refine r_goto (tgt := 28) dX11_skipped_24 (by decide) ?_
  exact r_sub [0, 1] rfl (t_X11_skipped_28 G l _ k4 hk4 _ _ _ _ _ hf)
def f_X11_skipped_4 (h : Hp) : Nat → Int32 → Int32 → Int32 → Option Int32
  | 0, _, _, _ => none
  | n + 1, x1, x2, x3 =>
    if x2 ≤ 0 then
      some x3
    else
      if x1 < (2 : Int32) then
        f_X11_skipped_23 h (f_X11_skipped_4 h n) x1 (x3 + 1) x2
      else
        (rmI (x3 + 1) x1).bind fun v19 =>
        if v19 = 0 then
          f_X11_skipped_28 h (f_X11_skipped_4 h n) x1 (x3 + 1) (0 : Int32) x2
        else
          f_X11_skipped_23 h (f_X11_skipped_4 h n) x1 (x3 + 1) x2
set_option maxRecDepth 100000 in
set_option maxHeartbeats 4000000 in
theorem t_X11_skipped_4 (G : Gx) (l : Launch) (h : Hp)  : ∀ (n : Nat) (x1 : Int32) (x2 : Int32) (x3 : Int32) (r : Int32), f_X11_skipped_4 h n x1 x2 x3 = some r → RJ G l M_X11_skipped (some (vI r)) h 4 [(1, vI x1), (2, vI x2), (3, vI x3)] [] h := by
  intro n
  induction n with
  | zero =>
    intro x1 x2 x3 r hf
    rw [f_X11_skipped_4] at hf
    cases hf
  | succ n ih =>
    intro x1 x2 x3 r hf
    rw [f_X11_skipped_4] at hf
    refine r_iload_n 1 dX11_skipped_4 rfl ?_
    refine r_if_le (tgt := 33) dX11_skipped_5 (by decide) (fun c5 => ?_) (fun c5 => ?_)
    · replace hf := (if_pos c5).symm.trans hf
      refine r_iload_n 2 dX11_skipped_33 rfl ?_
      have hf := Option.some.inj hf
      subst hf
      exact r_iret rfl dX11_skipped_34
    · replace hf := (if_neg c5).symm.trans hf
      refine r_iinc (y := (x3 + 1)) (lv' := [(3, vI (x3 + 1)), (1, vI x1), (2, vI x2)]) 2 dX11_skipped_8 rfl rfl (Nat.le_of_ble_eq_true rfl) rfl ?_
      refine r_iload_n 2 dX11_skipped_11 rfl ?_
      refine r_iload_n 1 dX11_skipped_12 rfl ?_
      refine r_iconst (x := (2 : Int32)) dX11_skipped_13 (by decide) ?_
      refine r_icmp_lt (tgt := 23) dX11_skipped_14 (by decide) (fun c14 => ?_) (fun c14 => ?_)
      · replace hf := (if_pos c14).symm.trans hf
        exact r_sub [1, 0] rfl (t_X11_skipped_23 G l _ (f_X11_skipped_4 h n) ih _ _ _ _ hf)
      · replace hf := (if_neg c14).symm.trans hf
        refine r_iload_n 0 dX11_skipped_17 rfl ?_
        refine r_iload_n 1 dX11_skipped_18 rfl ?_
        obtain ⟨v19, e19, hf⟩ := ob hf
        refine r_irem dX11_skipped_19 e19 ?_
        refine r_if_eq (tgt := 27) dX11_skipped_20 (by decide) (fun c20 => ?_) (fun c20 => ?_)
        · replace hf := (if_pos c20).symm.trans hf
          refine r_iconst (x := (0 : Int32)) dX11_skipped_27 (by decide) ?_
          exact r_sub [1, 0] rfl (t_X11_skipped_28 G l _ (f_X11_skipped_4 h n) ih _ _ _ _ _ hf)
        · replace hf := (if_neg c20).symm.trans hf
          exact r_sub [1, 0] rfl (t_X11_skipped_23 G l _ (f_X11_skipped_4 h n) ih _ _ _ _ hf)
def f_X11_skipped (h : Hp) (x0 : Int32) (x1 : Int32) : Option Int32 :=
    f_X11_skipped_4 h 10000 x1 x0 (0 : Int32)
set_option maxRecDepth 100000 in
set_option maxHeartbeats 4000000 in
theorem k_X11_skipped (G : Gx) (l : Launch) {h : Hp} {x0 : Int32} {x1 : Int32} {r : Int32} (hf : f_X11_skipped h x0 x1 = some r) : KM l yX11_skipped (.code yX11_skipped cX11_skipped 4 (some .int) :: wsK) 0 0 G [vI x0, vI x1] h (some (vI r)) h := by
  refine r_entry (ctor := false) (own := RX11) (by decide +kernel) rfl (fun q => by cases q) (Nat.le_of_ble_eq_true rfl) ?_
  show RJ G l M_X11_skipped (some (vI r)) h 0 [(0, vI x0), (1, vI x1)] [] h
  unfold f_X11_skipped at hf
  refine r_iload_n 0 dX11_skipped_0 rfl ?_
  refine r_istore_n (lv' := [(2, vI x0), (0, vI x0), (1, vI x1)]) dX11_skipped_1 (Nat.le_of_ble_eq_true rfl) rfl ?_
  refine r_iconst (x := (0 : Int32)) dX11_skipped_2 (by decide) ?_
  refine r_istore_n (lv' := [(3, vI (0 : Int32)), (2, vI x0), (0, vI x0), (1, vI x1)]) dX11_skipped_3 (Nat.le_of_ble_eq_true rfl) rfl ?_
  exact r_sub [3, 1, 0] rfl (t_X11_skipped_4 G l _ _ _ _ _ _ hf)
/-! ===== NumberedByAgeModel.greatest()I ===== -/
abbrev M_X11_greatest : Mx := (cX11_greatest, 3, RX11, (false, []), (some .int), 0, 0)
def f_X11_greatest_30 (h : Hp) (this : Nat) (k4 : Int32 → Int32 → Option Int32) (x2 : Int32) (s0 : Int32) : Option Int32 :=
    k4 s0 (x2 + 1)
set_option maxRecDepth 100000 in
set_option maxHeartbeats 4000000 in
theorem t_X11_greatest_30 (G : Gx) (l : Launch) (h : Hp) (this : Nat) (k4 : Int32 → Int32 → Option Int32) (hk4 : ∀ (x1 : Int32) (x2 : Int32) (r : Int32), k4 x1 x2 = some r → RJ G l M_X11_greatest (some (vI r)) h 4 [(0, vR (some this)), (1, vI x1), (2, vI x2)] [] h) (x2 : Int32) (s0 : Int32) (r : Int32) (hf : f_X11_greatest_30 h this k4 x2 s0 = some r) : RJ G l M_X11_greatest (some (vI r)) h 30 [(0, vR (some this)), (2, vI x2)] [vI s0] h := by
  unfold f_X11_greatest_30 at hf
  refine r_istore_n (lv' := [(1, vI s0), (0, vR (some this)), (2, vI x2)]) dX11_greatest_30 (Nat.le_of_ble_eq_true rfl) rfl ?_
  refine r_iinc (y := (x2 + 1)) (lv' := [(2, vI (x2 + 1)), (1, vI s0), (0, vR (some this))]) 2 dX11_greatest_31 rfl rfl (Nat.le_of_ble_eq_true rfl) rfl ?_
  refine r_goto (tgt := 4) dX11_greatest_34 (by decide) ?_
  exact r_sub [2, 1, 0] rfl (hk4 _ _ _ hf)
def f_X11_greatest_4 (h : Hp) (this : Nat) : Nat → Int32 → Int32 → Option Int32
  | 0, _, _ => none
  | n + 1, x1, x2 =>
    if (12 : Int32) ≤ x2 then
      some x1
    else
      (gR h (some this) [11] 7).bind fun v11 =>
      (aI h v11 x2).bind fun v15 =>
      if v15 ≤ x1 then
        f_X11_greatest_30 h this (f_X11_greatest_4 h this n) x2 x1
      else
        (gR h (some this) [11] 7).bind fun v21 =>
        (aI h v21 x2).bind fun v25 =>
        f_X11_greatest_30 h this (f_X11_greatest_4 h this n) x2 v25
set_option maxRecDepth 100000 in
set_option maxHeartbeats 4000000 in
theorem t_X11_greatest_4 (G : Gx) (l : Launch) (h : Hp) (this : Nat)  : ∀ (n : Nat) (x1 : Int32) (x2 : Int32) (r : Int32), f_X11_greatest_4 h this n x1 x2 = some r → RJ G l M_X11_greatest (some (vI r)) h 4 [(0, vR (some this)), (1, vI x1), (2, vI x2)] [] h := by
  intro n
  induction n with
  | zero =>
    intro x1 x2 r hf
    rw [f_X11_greatest_4] at hf
    cases hf
  | succ n ih =>
    intro x1 x2 r hf
    rw [f_X11_greatest_4] at hf
    refine r_iload_n 2 dX11_greatest_4 rfl ?_
    refine r_bipush (x := (12 : Int32)) dX11_greatest_5 (by decide) ?_
    refine r_icmp_ge (tgt := 37) dX11_greatest_7 (by decide) (fun c7 => ?_) (fun c7 => ?_)
    · replace hf := (if_pos c7).symm.trans hf
      refine r_iload_n 1 dX11_greatest_37 rfl ?_
      have hf := Option.some.inj hf
      subst hf
      exact r_iret rfl dX11_greatest_38
    · replace hf := (if_neg c7).symm.trans hf
      refine r_aload_n 0 dX11_greatest_10 rfl ?_
      obtain ⟨v11, e11, hf⟩ := ob hf
      refine r_get dX11_greatest_11 fl_11_7 kw_4_62 (Or.inl rfl) (gR_sp e11) ?_
      refine r_iload_n 2 dX11_greatest_14 rfl ?_
      obtain ⟨v15, e15, hf⟩ := ob hf
      refine r_iaload dX11_greatest_15 e15 ?_
      refine r_iload_n 1 dX11_greatest_16 rfl ?_
      refine r_icmp_le (tgt := 29) dX11_greatest_17 (by decide) (fun c17 => ?_) (fun c17 => ?_)
      · replace hf := (if_pos c17).symm.trans hf
        refine r_iload_n 1 dX11_greatest_29 rfl ?_
        exact r_sub [0, 2] rfl (t_X11_greatest_30 G l _ _ (f_X11_greatest_4 h this n) ih _ _ _ hf)
      · replace hf := (if_neg c17).symm.trans hf
        refine r_aload_n 0 dX11_greatest_20 rfl ?_
        obtain ⟨v21, e21, hf⟩ := ob hf
        refine r_get dX11_greatest_21 fl_11_7 kw_4_62 (Or.inl rfl) (gR_sp e21) ?_
        refine r_iload_n 2 dX11_greatest_24 rfl ?_
        obtain ⟨v25, e25, hf⟩ := ob hf
        refine r_iaload dX11_greatest_25 e25 ?_
        refine r_goto (tgt := 30) dX11_greatest_26 (by decide) ?_
        exact r_sub [0, 2] rfl (t_X11_greatest_30 G l _ _ (f_X11_greatest_4 h this n) ih _ _ _ hf)
def f_X11_greatest (h : Hp) (this : Nat) : Option Int32 :=
    f_X11_greatest_4 h this 10000 (0 : Int32) (0 : Int32)
set_option maxRecDepth 100000 in
set_option maxHeartbeats 4000000 in
theorem k_X11_greatest (G : Gx) (l : Launch) {h : Hp} {this : Nat} {r : Int32} (hf : f_X11_greatest h this = some r) : KM l yX11_greatest (.code yX11_greatest cX11_greatest 3 (some .int) :: wsK) 0 0 G [vR (some this)] h (some (vI r)) h := by
  refine r_entry (ctor := false) (own := RX11) (by decide +kernel) rfl (fun q => by cases q) (Nat.le_of_ble_eq_true rfl) ?_
  show RJ G l M_X11_greatest (some (vI r)) h 0 [(0, vR (some this))] [] h
  unfold f_X11_greatest at hf
  refine r_iconst (x := (0 : Int32)) dX11_greatest_0 (by decide) ?_
  refine r_istore_n (lv' := [(1, vI (0 : Int32)), (0, vR (some this))]) dX11_greatest_1 (Nat.le_of_ble_eq_true rfl) rfl ?_
  refine r_iconst (x := (0 : Int32)) dX11_greatest_2 (by decide) ?_
  refine r_istore_n (lv' := [(2, vI (0 : Int32)), (1, vI (0 : Int32)), (0, vR (some this))]) dX11_greatest_3 (Nat.le_of_ble_eq_true rfl) rfl ?_
  exact r_sub [2, 1, 0] rfl (t_X11_greatest_4 G l _ _ _ _ _ _ hf)
