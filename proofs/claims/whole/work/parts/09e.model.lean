/-! ===== NumberedByAgeModel.hadOf(II)I ===== -/
abbrev M_X11_hadOf : Mx := (cX11_hadOf, 5, RX11, (false, []), (some .int), 1, 26)
def f_X11_hadOf_47 (h : Hp) (this : Nat) (k5 : Int32 → Int32 → Int32 → Int32 → Option Int32) (x1 : Int32) (x2 : Int32) (x4 : Int32) (s0 : Int32) (s1 : Int32) : Option Int32 :=
    k5 x1 x2 (s1 + s0) (x4 + 1)
set_option maxRecDepth 100000 in
set_option maxHeartbeats 4000000 in
theorem t_X11_hadOf_47 (G : Gx) (l : Launch) (h : Hp) (this : Nat) (k5 : Int32 → Int32 → Int32 → Int32 → Option Int32) (hk5 : ∀ (x1 : Int32) (x2 : Int32) (x3 : Int32) (x4 : Int32) (r : Int32), k5 x1 x2 x3 x4 = some r → RJ G l M_X11_hadOf (some (vI r)) h 5 [(0, vR (some this)), (1, vI x1), (2, vI x2), (3, vI x3), (4, vI x4)] [] h) (x1 : Int32) (x2 : Int32) (x4 : Int32) (s0 : Int32) (s1 : Int32) (r : Int32) (hf : f_X11_hadOf_47 h this k5 x1 x2 x4 s0 s1 = some r) : RJ G l M_X11_hadOf (some (vI r)) h 47 [(0, vR (some this)), (1, vI x1), (2, vI x2), (4, vI x4)] [vI s0, vI s1] h := by
  unfold f_X11_hadOf_47 at hf
  refine r_iadd dX11_hadOf_47 ?_
  refine r_istore_n (lv' := [(3, vI (s1 + s0)), (0, vR (some this)), (1, vI x1), (2, vI x2), (4, vI x4)]) dX11_hadOf_48 (Nat.le_of_ble_eq_true rfl) rfl ?_
  refine r_iinc (y := (x4 + 1)) (lv' := [(4, vI (x4 + 1)), (3, vI (s1 + s0)), (0, vR (some this)), (1, vI x1), (2, vI x2)]) 4 dX11_hadOf_49 rfl rfl (Nat.le_of_ble_eq_true rfl) rfl ?_
  refine r_goto (tgt := 5) dX11_hadOf_52 (by decide) ?_
  exact r_sub [2, 3, 4, 1, 0] rfl (hk5 _ _ _ _ _ hf)
def f_X11_hadOf_5 (h : Hp) (this : Nat) : Nat → Int32 → Int32 → Int32 → Int32 → Option Int32
  | 0, _, _, _, _ => none
  | n + 1, x1, x2, x3, x4 =>
    (gR h (some this) [11] 32).bind fun v8 =>
    (aI h v8 x1).bind fun v12 =>
    if v12 ≤ x4 then
      some x3
    else
      (gR h (some this) [11] 33).bind fun v19 =>
      (aL h v19 (((100 : Int32) * x1) + x4)).bind fun v29 =>
      (rcv h (some this) 11).bind fun a36 =>
      (f_X11_isIn h a36 (v29 + x2.toInt64) (0 : Int32) (11 : Int32)).bind fun v36 =>
      if v36 = 0 then
        f_X11_hadOf_47 h this (f_X11_hadOf_5 h this n) x1 x2 x4 (0 : Int32) x3
      else
        f_X11_hadOf_47 h this (f_X11_hadOf_5 h this n) x1 x2 x4 (1 : Int32) x3
set_option maxRecDepth 100000 in
set_option maxHeartbeats 4000000 in
theorem t_X11_hadOf_5 (G : Gx) (l : Launch) (h : Hp) (this : Nat)  : ∀ (n : Nat) (x1 : Int32) (x2 : Int32) (x3 : Int32) (x4 : Int32) (r : Int32), f_X11_hadOf_5 h this n x1 x2 x3 x4 = some r → RJ G l M_X11_hadOf (some (vI r)) h 5 [(0, vR (some this)), (1, vI x1), (2, vI x2), (3, vI x3), (4, vI x4)] [] h := by
  intro n
  induction n with
  | zero =>
    intro x1 x2 x3 x4 r hf
    rw [f_X11_hadOf_5] at hf
    cases hf
  | succ n ih =>
    intro x1 x2 x3 x4 r hf
    rw [f_X11_hadOf_5] at hf
    refine r_iload 4 dX11_hadOf_5 rfl ?_
    refine r_aload_n 0 dX11_hadOf_7 rfl ?_
    obtain ⟨v8, e8, hf⟩ := ob hf
    refine r_get dX11_hadOf_8 fl_11_32 kw_4_87 (Or.inl rfl) (gR_sp e8) ?_
    refine r_iload_n 1 dX11_hadOf_11 rfl ?_
    obtain ⟨v12, e12, hf⟩ := ob hf
    refine r_iaload dX11_hadOf_12 e12 ?_
    refine r_icmp_ge (tgt := 55) dX11_hadOf_13 (by decide) (fun c13 => ?_) (fun c13 => ?_)
    · replace hf := (if_pos c13).symm.trans hf
      refine r_iload_n 3 dX11_hadOf_55 rfl ?_
      have hf := Option.some.inj hf
      subst hf
      exact r_iret rfl dX11_hadOf_56
    · replace hf := (if_neg c13).symm.trans hf
      refine r_iload_n 3 dX11_hadOf_16 rfl ?_
      refine r_aload_n 0 dX11_hadOf_17 rfl ?_
      refine r_aload_n 0 dX11_hadOf_18 rfl ?_
      obtain ⟨v19, e19, hf⟩ := ob hf
      refine r_get dX11_hadOf_19 fl_11_33 kw_4_88 (Or.inl rfl) (gR_sp e19) ?_
      refine r_bipush (x := (100 : Int32)) dX11_hadOf_22 (by decide) ?_
      refine r_iload_n 1 dX11_hadOf_24 rfl ?_
      refine r_imul dX11_hadOf_25 ?_
      refine r_iload 4 dX11_hadOf_26 rfl ?_
      refine r_iadd dX11_hadOf_28 ?_
      obtain ⟨v29, e29, hf⟩ := ob hf
      refine r_laload dX11_hadOf_29 e29 ?_
      refine r_iload_n 2 dX11_hadOf_30 rfl ?_
      refine r_i2l dX11_hadOf_31 ?_
      refine r_ladd dX11_hadOf_32 ?_
      refine r_pc (pc' := 33) rfl ?_
      refine r_iconst (x := (0 : Int32)) dX11_hadOf_33 (by decide) ?_
      refine r_bipush (x := (11 : Int32)) dX11_hadOf_34 (by decide) ?_
      obtain ⟨a36, ea36, hf⟩ := ob hf
      obtain ⟨v36, e36, hf⟩ := ob hf
      refine r_callV (y := yX11_isIn) (ci := 11) (avs := [vL (v29 + x2.toInt64), vI (0 : Int32), vI (11 : Int32)]) dX11_hadOf_36 rfl kw_5_74 kw_5_76 kw_0_34 kw_1_5 kw_5_77 oky_X11_isIn ⟨Nat.le_of_ble_eq_true rfl, Nat.le_of_ble_eq_true rfl⟩ rfl (Nat.le_of_ble_eq_true rfl) ea36 (k_X11_isIn G l e36) ?_
      refine r_if_eq (tgt := 46) dX11_hadOf_39 (by decide) (fun c39 => ?_) (fun c39 => ?_)
      · replace hf := (if_pos c39).symm.trans hf
        refine r_iconst (x := (0 : Int32)) dX11_hadOf_46 (by decide) ?_
        exact r_sub [0, 1, 2, 4] rfl (t_X11_hadOf_47 G l _ _ (f_X11_hadOf_5 h this n) ih _ _ _ _ _ _ hf)
      · replace hf := (if_neg c39).symm.trans hf
        refine r_iconst (x := (1 : Int32)) dX11_hadOf_42 (by decide) ?_
        refine r_goto (tgt := 47) dX11_hadOf_43 (by decide) ?_
        exact r_sub [0, 1, 2, 4] rfl (t_X11_hadOf_47 G l _ _ (f_X11_hadOf_5 h this n) ih _ _ _ _ _ _ hf)
def f_X11_hadOf (h : Hp) (this : Nat) (x1 : Int32) (x2 : Int32) : Option Int32 :=
    f_X11_hadOf_5 h this 10000 x1 x2 (0 : Int32) (0 : Int32)
set_option maxRecDepth 100000 in
set_option maxHeartbeats 4000000 in
theorem k_X11_hadOf (G : Gx) (l : Launch) {h : Hp} {this : Nat} {x1 : Int32} {x2 : Int32} {r : Int32} (hf : f_X11_hadOf h this x1 x2 = some r) : KM l yX11_hadOf (.code yX11_hadOf cX11_hadOf 5 (some .int) :: wsK) 1 26 G [vR (some this), vI x1, vI x2] h (some (vI r)) h := by
  refine r_entry (ctor := false) (own := RX11) (by decide +kernel) rfl (fun q => by cases q) (Nat.le_of_ble_eq_true rfl) ?_
  show RJ G l M_X11_hadOf (some (vI r)) h 0 [(0, vR (some this)), (1, vI x1), (2, vI x2)] [] h
  unfold f_X11_hadOf at hf
  refine r_iconst (x := (0 : Int32)) dX11_hadOf_0 (by decide) ?_
  refine r_istore_n (lv' := [(3, vI (0 : Int32)), (0, vR (some this)), (1, vI x1), (2, vI x2)]) dX11_hadOf_1 (Nat.le_of_ble_eq_true rfl) rfl ?_
  refine r_iconst (x := (0 : Int32)) dX11_hadOf_2 (by decide) ?_
  refine r_istore (lv' := [(4, vI (0 : Int32)), (3, vI (0 : Int32)), (0, vR (some this)), (1, vI x1), (2, vI x2)]) dX11_hadOf_3 (Nat.le_of_ble_eq_true rfl) rfl ?_
  exact r_sub [2, 3, 4, 1, 0] rfl (t_X11_hadOf_5 G l _ _ _ _ _ _ _ _ hf)
/-! ===== NumberedByAgeModel.have(I)I ===== -/
abbrev M_X11_have : Mx := (cX11_have, 4, RX11, (false, []), (some .int), 0, 0)
def f_X11_have_40 (this : Nat) (k16 : Hp → Int32 → Int32 → Int32 → Option (Int32 × Hp)) (h : Hp) (x1 : Int32) (x3 : Int32) (s0 : Int32) (s1 : Int32) : Option (Int32 × Hp) :=
    k16 h x1 (s1 ||| s0) (x3 + 1)
set_option maxRecDepth 100000 in
set_option maxHeartbeats 4000000 in
theorem t_X11_have_40 (G : Gx) (l : Launch) (this : Nat) (k16 : Hp → Int32 → Int32 → Int32 → Option (Int32 × Hp)) (hk16 : ∀ (h : Hp) (x1 : Int32) (x2 : Int32) (x3 : Int32) (r : (Int32 × Hp)), k16 h x1 x2 x3 = some r → RJ G l M_X11_have (some (vI r.1)) r.2 16 [(0, vR (some this)), (1, vI x1), (2, vI x2), (3, vI x3)] [] h) (h : Hp) (x1 : Int32) (x3 : Int32) (s0 : Int32) (s1 : Int32) (r : (Int32 × Hp)) (hf : f_X11_have_40 this k16 h x1 x3 s0 s1 = some r) : RJ G l M_X11_have (some (vI r.1)) r.2 40 [(0, vR (some this)), (1, vI x1), (3, vI x3)] [vI s0, vI s1] h := by
  unfold f_X11_have_40 at hf
  refine r_ior dX11_have_40 ?_
  refine r_istore_n (lv' := [(2, vI (s1 ||| s0)), (0, vR (some this)), (1, vI x1), (3, vI x3)]) dX11_have_41 (Nat.le_of_ble_eq_true rfl) rfl ?_
  refine r_iinc (y := (x3 + 1)) (lv' := [(3, vI (x3 + 1)), (2, vI (s1 ||| s0)), (0, vR (some this)), (1, vI x1)]) 3 dX11_have_42 rfl rfl (Nat.le_of_ble_eq_true rfl) rfl ?_
  refine r_goto (tgt := 16) dX11_have_45 (by decide) ?_
  exact r_sub [2, 3, 1, 0] rfl (hk16 _ _ _ _ _ hf)
def f_X11_have_16 (this : Nat) : Nat → Hp → Int32 → Int32 → Int32 → Option (Int32 × Hp)
  | 0, _, _, _, _ => none
  | n + 1, h, x1, x2, x3 =>
    if (12 : Int32) ≤ x3 then
      some (x2, h)
    else
      (gR h (some this) [11] 5).bind fun v24 =>
      (aI h v24 x3).bind fun v28 =>
      if v28 = x1 then
        f_X11_have_40 this (f_X11_have_16 this n) h x1 x3 ((1 : Int32) <<< (x3 &&& 31)) x2
      else
        f_X11_have_40 this (f_X11_have_16 this n) h x1 x3 (0 : Int32) x2
set_option maxRecDepth 100000 in
set_option maxHeartbeats 4000000 in
theorem t_X11_have_16 (G : Gx) (l : Launch) (this : Nat)  : ∀ (n : Nat) (h : Hp) (x1 : Int32) (x2 : Int32) (x3 : Int32) (r : (Int32 × Hp)), f_X11_have_16 this n h x1 x2 x3 = some r → RJ G l M_X11_have (some (vI r.1)) r.2 16 [(0, vR (some this)), (1, vI x1), (2, vI x2), (3, vI x3)] [] h := by
  intro n
  induction n with
  | zero =>
    intro h x1 x2 x3 r hf
    rw [f_X11_have_16] at hf
    cases hf
  | succ n ih =>
    intro h x1 x2 x3 r hf
    rw [f_X11_have_16] at hf
    refine r_iload_n 3 dX11_have_16 rfl ?_
    refine r_bipush (x := (12 : Int32)) dX11_have_17 (by decide) ?_
    refine r_icmp_ge (tgt := 48) dX11_have_19 (by decide) (fun c19 => ?_) (fun c19 => ?_)
    · replace hf := (if_pos c19).symm.trans hf
      refine r_iload_n 2 dX11_have_48 rfl ?_
      have hf := Option.some.inj hf
      subst hf
      exact r_iret rfl dX11_have_49
    · replace hf := (if_neg c19).symm.trans hf
      refine r_iload_n 2 dX11_have_22 rfl ?_
      refine r_aload_n 0 dX11_have_23 rfl ?_
      obtain ⟨v24, e24, hf⟩ := ob hf
      refine r_get dX11_have_24 fl_11_5 kw_4_60 (Or.inl rfl) (gR_sp e24) ?_
      refine r_iload_n 3 dX11_have_27 rfl ?_
      obtain ⟨v28, e28, hf⟩ := ob hf
      refine r_iaload dX11_have_28 e28 ?_
      refine r_iload_n 1 dX11_have_29 rfl ?_
      refine r_icmp_ne (tgt := 39) dX11_have_30 (by decide) (fun c30 => ?_) (fun c30 => ?_)
      · replace hf := (if_pos c30).symm.trans hf
        refine r_iconst (x := (1 : Int32)) dX11_have_33 (by decide) ?_
        refine r_iload_n 3 dX11_have_34 rfl ?_
        refine r_ishl dX11_have_35 ?_
        refine r_goto (tgt := 40) dX11_have_36 (by decide) ?_
        exact r_sub [0, 1, 3] rfl (t_X11_have_40 G l _ (f_X11_have_16 this n) ih _ _ _ _ _ _ hf)
      · replace hf := (if_neg c30).symm.trans hf
        refine r_iconst (x := (0 : Int32)) dX11_have_39 (by decide) ?_
        exact r_sub [0, 1, 3] rfl (t_X11_have_40 G l _ (f_X11_have_16 this n) ih _ _ _ _ _ _ hf)
def f_X11_have (h : Hp) (this : Nat) (x1 : Int32) : Option (Int32 × Hp) :=
    (pF h (some this) [11] 6 (vI (0 : Int32))).bind fun h2 =>
    if (1 : Int32) ≤ x1 then
      f_X11_have_16 this 10000 h2 x1 (0 : Int32) (0 : Int32)
    else
      some ((-1 : Int32), h2)
set_option maxRecDepth 100000 in
set_option maxHeartbeats 4000000 in
theorem k_X11_have (G : Gx) (l : Launch) {h : Hp} {this : Nat} {x1 : Int32} {r : (Int32 × Hp)} (hf : f_X11_have h this x1 = some r) : KM l yX11_have (.code yX11_have cX11_have 4 (some .int) :: wsK) 0 0 G [vR (some this), vI x1] h (some (vI r.1)) r.2 := by
  refine r_entry (ctor := false) (own := RX11) (by decide +kernel) rfl (fun q => by cases q) (Nat.le_of_ble_eq_true rfl) ?_
  show RJ G l M_X11_have (some (vI r.1)) r.2 0 [(0, vR (some this)), (1, vI x1)] [] h
  unfold f_X11_have at hf
  refine r_aload_n 0 dX11_have_0 rfl ?_
  refine r_iconst (x := (0 : Int32)) dX11_have_1 (by decide) ?_
  obtain ⟨h2, e2, hf⟩ := ob hf
  refine r_put dX11_have_2 fl_11_6 kw_4_61 (Or.inl rfl) (by decide +kernel) (fit_int _) e2 ?_
  refine r_iload_n 1 dX11_have_5 rfl ?_
  refine r_iconst (x := (1 : Int32)) dX11_have_6 (by decide) ?_
  refine r_icmp_ge (tgt := 12) dX11_have_7 (by decide) (fun c7 => ?_) (fun c7 => ?_)
  · replace hf := (if_pos c7).symm.trans hf
    refine r_iconst (x := (0 : Int32)) dX11_have_12 (by decide) ?_
    refine r_istore_n (lv' := [(2, vI (0 : Int32)), (0, vR (some this)), (1, vI x1)]) dX11_have_13 (Nat.le_of_ble_eq_true rfl) rfl ?_
    refine r_iconst (x := (0 : Int32)) dX11_have_14 (by decide) ?_
    refine r_istore_n (lv' := [(3, vI (0 : Int32)), (2, vI (0 : Int32)), (0, vR (some this)), (1, vI x1)]) dX11_have_15 (Nat.le_of_ble_eq_true rfl) rfl ?_
    exact r_sub [2, 3, 1, 0] rfl (t_X11_have_16 G l _ _ _ _ _ _ _ hf)
  · replace hf := (if_neg c7).symm.trans hf
    refine r_iconst (x := (-1 : Int32)) dX11_have_10 (by decide) ?_
    have hf := Option.some.inj hf
    subst hf
    exact r_iret rfl dX11_have_11
/-! ===== NumberedByAgeModel.here()I ===== -/
abbrev M_X11_here : Mx := (cX11_here, 1, RX11, (false, []), (some .int), 0, 0)
def f_X11_here (h : Hp) (this : Nat) : Option Int32 :=
    (gI h (some this) [11] 11).bind fun v1 =>
    (gI h (some this) [11] 10).bind fun v5 =>
    if v1 < v5 then
      (gR h (some this) [11] 33).bind fun v16 =>
      (gI h (some this) [11] 9).bind fun v20 =>
      (gI h (some this) [11] 11).bind fun v24 =>
      (aL h v16 (v20 + v24)).bind fun v28 =>
      some (v28.toInt32 &&& (255 : Int32))
    else
      some (-1 : Int32)
set_option maxRecDepth 100000 in
set_option maxHeartbeats 4000000 in
theorem k_X11_here (G : Gx) (l : Launch) {h : Hp} {this : Nat} {r : Int32} (hf : f_X11_here h this = some r) : KM l yX11_here (.code yX11_here cX11_here 1 (some .int) :: wsK) 0 0 G [vR (some this)] h (some (vI r)) h := by
  refine r_entry (ctor := false) (own := RX11) (by decide +kernel) rfl (fun q => by cases q) (Nat.le_of_ble_eq_true rfl) ?_
  show RJ G l M_X11_here (some (vI r)) h 0 [(0, vR (some this))] [] h
  unfold f_X11_here at hf
  refine r_aload_n 0 dX11_here_0 rfl ?_
  obtain ⟨v1, e1, hf⟩ := ob hf
  refine r_get dX11_here_1 fl_11_11 kw_4_66 (Or.inl rfl) (gI_sp e1) ?_
  refine r_aload_n 0 dX11_here_4 rfl ?_
  obtain ⟨v5, e5, hf⟩ := ob hf
  refine r_get dX11_here_5 fl_11_10 kw_4_65 (Or.inl rfl) (gI_sp e5) ?_
  refine r_icmp_lt (tgt := 15) dX11_here_8 (by decide) (fun c8 => ?_) (fun c8 => ?_)
  · replace hf := (if_pos c8).symm.trans hf
    refine r_aload_n 0 dX11_here_15 rfl ?_
    obtain ⟨v16, e16, hf⟩ := ob hf
    refine r_get dX11_here_16 fl_11_33 kw_4_88 (Or.inl rfl) (gR_sp e16) ?_
    refine r_aload_n 0 dX11_here_19 rfl ?_
    obtain ⟨v20, e20, hf⟩ := ob hf
    refine r_get dX11_here_20 fl_11_9 kw_4_64 (Or.inl rfl) (gI_sp e20) ?_
    refine r_aload_n 0 dX11_here_23 rfl ?_
    obtain ⟨v24, e24, hf⟩ := ob hf
    refine r_get dX11_here_24 fl_11_11 kw_4_66 (Or.inl rfl) (gI_sp e24) ?_
    refine r_iadd dX11_here_27 ?_
    obtain ⟨v28, e28, hf⟩ := ob hf
    refine r_laload dX11_here_28 e28 ?_
    refine r_l2i dX11_here_29 ?_
    refine r_sipush (x := (255 : Int32)) dX11_here_30 (by decide) ?_
    refine r_iand dX11_here_33 ?_
    have hf := Option.some.inj hf
    subst hf
    exact r_iret rfl dX11_here_34
  · replace hf := (if_neg c8).symm.trans hf
    refine r_iconst (x := (-1 : Int32)) dX11_here_11 (by decide) ?_
    refine r_goto (tgt := 34) dX11_here_12 (by decide) ?_
    have hf := Option.some.inj hf
    subst hf
    exact r_iret rfl dX11_here_34
/-! ===== NumberedByAgeModel.house(II)I ===== -/
abbrev M_X11_house : Mx := (cX11_house, 4, RX11, (false, []), (some .int), 2, 45)
def f_X11_house (h : Hp) (this : Nat) (x1 : Int32) (x2 : Int32) : Option (Int32 × Hp) :=
    (pF h (some this) [11] 6 (vI (0 : Int32))).bind fun h2 =>
    (f_X11_isPlot h2 x1).bind fun v6 =>
    if v6 = 0 then
      some ((-1 : Int32), h2)
    else
      (f_X11_in h2 x2.toInt64 (0 : Int64) (2 : Int64)).bind fun v18 =>
      if v18 = 0 then
        some ((-1 : Int32), h2)
      else
        (gR h2 (some this) [11] 5).bind fun v27 =>
        (aI h2 v27 x1).bind fun v31 =>
        if v31 = 0 then
          some ((-4 : Int32), h2)
        else
          (rcv h2 (some this) 11).bind fun a40 =>
          (f_X11_builtAt h2 a40 x1).bind fun v40 =>
          if x2 = 0 then
            (gR h2 (some this) [11] 5).bind fun v49 =>
            (aI h2 v49 x1).bind fun v53 =>
            some (v53, h2)
          else
            if x2 = (1 : Int32) then
              (gR h2 (some this) [11] 4).bind fun v63 =>
              (aI h2 v63 v40).bind fun v67 =>
              some (v67, h2)
            else
              (gI h2 (some this) [11] 2).bind fun v72 =>
              some (((v72 - v40) - (1 : Int32)), h2)
set_option maxRecDepth 100000 in
set_option maxHeartbeats 4000000 in
theorem k_X11_house (G : Gx) (l : Launch) {h : Hp} {this : Nat} {x1 : Int32} {x2 : Int32} {r : (Int32 × Hp)} (hf : f_X11_house h this x1 x2 = some r) : KM l yX11_house (.code yX11_house cX11_house 4 (some .int) :: wsK) 2 45 G [vR (some this), vI x1, vI x2] h (some (vI r.1)) r.2 := by
  refine r_entry (ctor := false) (own := RX11) (by decide +kernel) rfl (fun q => by cases q) (Nat.le_of_ble_eq_true rfl) ?_
  show RJ G l M_X11_house (some (vI r.1)) r.2 0 [(0, vR (some this)), (1, vI x1), (2, vI x2)] [] h
  unfold f_X11_house at hf
  refine r_aload_n 0 dX11_house_0 rfl ?_
  refine r_iconst (x := (0 : Int32)) dX11_house_1 (by decide) ?_
  obtain ⟨h2, e2, hf⟩ := ob hf
  refine r_put dX11_house_2 fl_11_6 kw_4_61 (Or.inl rfl) (by decide +kernel) (fit_int _) e2 ?_
  refine r_iload_n 1 dX11_house_5 rfl ?_
  obtain ⟨v6, e6, hf⟩ := ob hf
  refine r_callS (y := yX11_isPlot) (avs := [vI x1]) dX11_house_6 kw_5_15 kw_5_16 kw_1_5 kw_5_17 oky_X11_isPlot ⟨Nat.le_of_ble_eq_true rfl, Nat.le_of_ble_eq_true rfl⟩ rfl (Nat.le_of_ble_eq_true rfl) (k_X11_isPlot G l e6) ?_
  refine r_if_eq (tgt := 24) dX11_house_9 (by decide) (fun c9 => ?_) (fun c9 => ?_)
  · replace hf := (if_pos c9).symm.trans hf
    refine r_iconst (x := (-1 : Int32)) dX11_house_24 (by decide) ?_
    have hf := Option.some.inj hf
    subst hf
    exact r_iret rfl dX11_house_25
  · replace hf := (if_neg c9).symm.trans hf
    refine r_iload_n 2 dX11_house_12 rfl ?_
    refine r_i2l dX11_house_13 ?_
    refine r_lconst (x := (0 : Int64)) dX11_house_14 (by decide) ?_
    refine r_ldc2 (x := (2 : Int64)) dX11_house_15 kw_5_36 ?_
    obtain ⟨v18, e18, hf⟩ := ob hf
    refine r_callS (y := yX11_in) (avs := [vL x2.toInt64, vL (0 : Int64), vL (2 : Int64)]) dX11_house_18 kw_4_179 kw_4_180 kw_1_5 kw_4_181 oky_X11_in ⟨Nat.le_of_ble_eq_true rfl, Nat.le_of_ble_eq_true rfl⟩ rfl (Nat.le_of_ble_eq_true rfl) (k_X11_in G l e18) ?_
    refine r_if_ne (tgt := 26) dX11_house_21 (by decide) (fun c21 => ?_) (fun c21 => ?_)
    · replace hf := (if_pos c21).symm.trans hf
      refine r_iconst (x := (-1 : Int32)) dX11_house_24 (by decide) ?_
      have hf := Option.some.inj hf
      subst hf
      exact r_iret rfl dX11_house_25
    · replace hf := (if_neg c21).symm.trans hf
      refine r_aload_n 0 dX11_house_26 rfl ?_
      obtain ⟨v27, e27, hf⟩ := ob hf
      refine r_get dX11_house_27 fl_11_5 kw_4_60 (Or.inl rfl) (gR_sp e27) ?_
      refine r_iload_n 1 dX11_house_30 rfl ?_
      obtain ⟨v31, e31, hf⟩ := ob hf
      refine r_iaload dX11_house_31 e31 ?_
      refine r_if_ne (tgt := 38) dX11_house_32 (by decide) (fun c32 => ?_) (fun c32 => ?_)
      · replace hf := (if_pos c32).symm.trans hf
        refine r_bipush (x := (-4 : Int32)) dX11_house_35 (by decide) ?_
        have hf := Option.some.inj hf
        subst hf
        exact r_iret rfl dX11_house_37
      · replace hf := (if_neg c32).symm.trans hf
        refine r_aload_n 0 dX11_house_38 rfl ?_
        refine r_iload_n 1 dX11_house_39 rfl ?_
        obtain ⟨a40, ea40, hf⟩ := ob hf
        obtain ⟨v40, e40, hf⟩ := ob hf
        refine r_callV (y := yX11_builtAt) (ci := 11) (avs := [vI x1]) dX11_house_40 rfl kw_5_37 kw_5_39 kw_0_31 kw_1_5 kw_5_40 oky_X11_builtAt ⟨Nat.le_of_ble_eq_true rfl, Nat.le_of_ble_eq_true rfl⟩ rfl (Nat.le_of_ble_eq_true rfl) ea40 (k_X11_builtAt G l e40) ?_
        refine r_istore_n (lv' := [(3, vI v40), (0, vR (some this)), (1, vI x1), (2, vI x2)]) dX11_house_43 (Nat.le_of_ble_eq_true rfl) rfl ?_
        refine r_iload_n 3 dX11_house_44 rfl ?_
        refine r_if_ne (tgt := 57) dX11_house_45 (by decide) (fun c45 => ?_) (fun c45 => ?_)
        · replace hf := (if_pos c45).symm.trans hf
          refine r_aload_n 1 dX11_house_48 rfl ?_
          obtain ⟨v49, e49, hf⟩ := ob hf
          refine r_get dX11_house_49 fl_11_5 kw_4_60 (Or.inl rfl) (gR_sp e49) ?_
          refine r_iload_n 2 dX11_house_52 rfl ?_
          obtain ⟨v53, e53, hf⟩ := ob hf
          refine r_iaload dX11_house_53 e53 ?_
          refine r_goto (tgt := 79) dX11_house_54 (by decide) ?_
          have hf := Option.some.inj hf
          subst hf
          exact r_iret rfl dX11_house_79
        · replace hf := (if_neg c45).symm.trans hf
          refine r_iload_n 3 dX11_house_57 rfl ?_
          refine r_iconst (x := (1 : Int32)) dX11_house_58 (by decide) ?_
          refine r_icmp_ne (tgt := 71) dX11_house_59 (by decide) (fun c59 => ?_) (fun c59 => ?_)
          · replace hf := (if_pos c59).symm.trans hf
            refine r_aload_n 1 dX11_house_62 rfl ?_
            obtain ⟨v63, e63, hf⟩ := ob hf
            refine r_get dX11_house_63 fl_11_4 kw_4_59 (Or.inl rfl) (gR_sp e63) ?_
            refine r_iload_n 0 dX11_house_66 rfl ?_
            obtain ⟨v67, e67, hf⟩ := ob hf
            refine r_iaload dX11_house_67 e67 ?_
            refine r_goto (tgt := 79) dX11_house_68 (by decide) ?_
            have hf := Option.some.inj hf
            subst hf
            exact r_iret rfl dX11_house_79
          · replace hf := (if_neg c59).symm.trans hf
            refine r_aload_n 1 dX11_house_71 rfl ?_
            obtain ⟨v72, e72, hf⟩ := ob hf
            refine r_get dX11_house_72 fl_11_2 kw_4_57 (Or.inl rfl) (gI_sp e72) ?_
            refine r_iload_n 0 dX11_house_75 rfl ?_
            refine r_isub dX11_house_76 ?_
            refine r_iconst (x := (1 : Int32)) dX11_house_77 (by decide) ?_
            refine r_isub dX11_house_78 ?_
            have hf := Option.some.inj hf
            subst hf
            exact r_iret rfl dX11_house_79
/-! ===== NumberedByAgeModel.image()I ===== -/
abbrev M_X11_image : Mx := (cX11_image, 1, RX11, (false, []), (some .int), 2, 44)
def f_X11_image (h : Hp) (this : Nat) : Option (Int32 × Hp) :=
    (pF h (some this) [11] 6 (vI (0 : Int32))).bind fun h2 =>
    (okZ (1 : Int32)).bind fun z7 =>
    (pF h2 (some this) [11] 20 (vI (1 : Int32))).bind fun h7 =>
    (gR h7 (some this) [11] 19).bind fun v12 =>
    (rcv h7 (some this) 11).bind fun a16 =>
    (f_X11_carryAll h7 a16 v12 (1 : Int32)).bind fun h16 =>
    (gI h16 (some this) [11] 2).bind fun v20 =>
    some (v20, h16)
set_option maxRecDepth 100000 in
set_option maxHeartbeats 4000000 in
theorem k_X11_image (G : Gx) (l : Launch) {h : Hp} {this : Nat} {r : (Int32 × Hp)} (hf : f_X11_image h this = some r) : KM l yX11_image (.code yX11_image cX11_image 1 (some .int) :: wsK) 2 44 G [vR (some this)] h (some (vI r.1)) r.2 := by
  refine r_entry (ctor := false) (own := RX11) (by decide +kernel) rfl (fun q => by cases q) (Nat.le_of_ble_eq_true rfl) ?_
  show RJ G l M_X11_image (some (vI r.1)) r.2 0 [(0, vR (some this))] [] h
  unfold f_X11_image at hf
  refine r_aload_n 0 dX11_image_0 rfl ?_
  refine r_iconst (x := (0 : Int32)) dX11_image_1 (by decide) ?_
  obtain ⟨h2, e2, hf⟩ := ob hf
  refine r_put dX11_image_2 fl_11_6 kw_4_61 (Or.inl rfl) (by decide +kernel) (fit_int _) e2 ?_
  refine r_aload_n 0 dX11_image_5 rfl ?_
  refine r_iconst (x := (1 : Int32)) dX11_image_6 (by decide) ?_
  obtain ⟨z7, ez7, hf⟩ := ob hf
  obtain ⟨-, ew7⟩ := okZ_sp ez7
  obtain ⟨h7, e7, hf⟩ := ob hf
  refine r_put dX11_image_7 fl_11_20 kw_4_75 (Or.inl rfl) (by decide +kernel) (fit_bool ew7) e7 ?_
  refine r_aload_n 0 dX11_image_10 rfl ?_
  refine r_aload_n 0 dX11_image_11 rfl ?_
  obtain ⟨v12, e12, hf⟩ := ob hf
  refine r_get dX11_image_12 fl_11_19 kw_4_74 (Or.inl rfl) (gR_sp e12) ?_
  refine r_iconst (x := (1 : Int32)) dX11_image_15 (by decide) ?_
  obtain ⟨a16, ea16, hf⟩ := ob hf
  obtain ⟨h16, e16, hf⟩ := ob hf
  refine r_callV (y := yX11_carryAll) (ci := 11) (avs := [vR v12, vI (1 : Int32)]) dX11_image_16 rfl kw_4_196 kw_4_198 kw_0_19 kw_1_5 kw_4_199 oky_X11_carryAll ⟨Nat.le_of_ble_eq_true rfl, Nat.le_of_ble_eq_true rfl⟩ rfl (Nat.le_of_ble_eq_true rfl) ea16 (k_X11_carryAll G l e16) ?_
  refine r_aload_n 0 dX11_image_19 rfl ?_
  obtain ⟨v20, e20, hf⟩ := ob hf
  refine r_get dX11_image_20 fl_11_2 kw_4_57 (Or.inl rfl) (gI_sp e20) ?_
  refine r_pc (pc' := 23) rfl ?_
  have hf := Option.some.inj hf
  subst hf
  exact r_iret rfl dX11_image_23
/-! ===== NumberedByAgeModel.<init>()V ===== -/
abbrev M_X11_init : Mx := (cX11_init, 1, RX11, (true, []), none, 1, 20)
def f_X11_init (h : Hp) (this : Nat) : Option Hp :=
    (pF (h ++ [eI 30 (fun _ => 0)]) (some this) [11] 3 (vR (some h.length))).bind fun h9 =>
    (pF (h9 ++ [eI 30 (fun _ => 0)]) (some this) [11] 4 (vR (some h9.length))).bind fun h17 =>
    (pF (h17 ++ [eI 12 (fun _ => 0)]) (some this) [11] 5 (vR (some h17.length))).bind fun h25 =>
    (pF (h25 ++ [eI 12 (fun _ => 0)]) (some this) [11] 7 (vR (some h25.length))).bind fun h33 =>
    (pF (h33 ++ [eI 3 (fun _ => 0)]) (some this) [11] 8 (vR (some h33.length))).bind fun h40 =>
    (pF (h40 ++ [eI 51 (fun _ => 0)]) (some this) [11] 14 (vR (some h40.length))).bind fun h48 =>
    (pF (h48 ++ [eI 51 (fun _ => 0)]) (some this) [11] 15 (vR (some h48.length))).bind fun h56 =>
    (pF (h56 ++ [eI 51 (fun _ => 0)]) (some this) [11] 16 (vR (some h56.length))).bind fun h64 =>
    (pF (h64 ++ [eI 51 (fun _ => 0)]) (some this) [11] 17 (vR (some h64.length))).bind fun h72 =>
    (pF (h72 ++ [eI 75 (fun _ => 0)]) (some this) [11] 18 (vR (some h72.length))).bind fun h80 =>
    (pF (h80 ++ [eI 75 (fun _ => 0)]) (some this) [11] 19 (vR (some h80.length))).bind fun h88 =>
    (pF (h88 ++ [eI 12 (fun _ => 0)]) (some this) [11] 24 (vR (some h88.length))).bind fun h96 =>
    (pF (h96 ++ [eI 12 (fun _ => 0)]) (some this) [11] 25 (vR (some h96.length))).bind fun h104 =>
    (pF (h104 ++ [eI 7 (fun _ => 0)]) (some this) [11] 26 (vR (some h104.length))).bind fun h112 =>
    (pF (h112 ++ [eI 8 (fun _ => 0)]) (some this) [11] 28 (vR (some h112.length))).bind fun h120 =>
    (pF (h120 ++ [eI 8 (fun _ => 0)]) (some this) [11] 29 (vR (some h120.length))).bind fun h128 =>
    (pF (h128 ++ [eI 8 (fun _ => 0)]) (some this) [11] 30 (vR (some h128.length))).bind fun h136 =>
    (pF (h136 ++ [eI 8 (fun _ => 0)]) (some this) [11] 31 (vR (some h136.length))).bind fun h144 =>
    (pF (h144 ++ [eI 8 (fun _ => 0)]) (some this) [11] 32 (vR (some h144.length))).bind fun h152 =>
    (pF (h152 ++ [eL 800 (fun _ => 0)]) (some this) [11] 33 (vR (some h152.length))).bind fun h161 =>
    (pF (h161 ++ [eL 100 (fun _ => 0)]) (some this) [11] 34 (vR (some h161.length))).bind fun h169 =>
    (pF h169 (some this) [11] 6 (vI (0 : Int32))).bind fun h174 =>
    some h174
set_option maxRecDepth 100000 in
set_option maxHeartbeats 4000000 in
theorem k_X11_init (G : Gx) (l : Launch) {h : Hp} {this : Nat} {r : Hp} (hf : f_X11_init h this = some r) : KM l yX11_init (.code yX11_init cX11_init 1 none :: wsK) 1 20 G [vR (some this)] h none r := by
  refine r_entry (ctor := true) (own := RX11) (by decide +kernel) rfl (fun _ => rfl) (Nat.le_of_ble_eq_true rfl) ?_
  show RJ G l M_X11_init none r 0 [(0, vR (some this))] [] h
  unfold f_X11_init at hf
  refine r_aload_n 0 dX11_init_0 rfl ?_
  refine r_objInit dX11_init_1 kw_4_54 kw_1_28 kw_1_29 ⟨Nat.le_of_ble_eq_true rfl, Nat.le_of_ble_eq_true rfl⟩ (Nat.le_of_ble_eq_true rfl) ?_
  refine r_aload_n 0 dX11_init_4 rfl ?_
  refine r_bipush (x := (30 : Int32)) dX11_init_5 (by decide) ?_
  refine r_newI (n := 30) dX11_init_7 kw_1_61 (by decide) (by decide) (by decide) ?_
  obtain ⟨h9, e9, hf⟩ := ob hf
  refine r_putF dX11_init_9 fl_11_3 kw_4_58 (Or.inl rfl) rfl rfl (by decide +kernel) (fit_arr .int _) e9 ?_
  refine r_aload_n 0 dX11_init_12 rfl ?_
  refine r_bipush (x := (30 : Int32)) dX11_init_13 (by decide) ?_
  refine r_newI (n := 30) dX11_init_15 kw_1_61 (by decide) (by decide) (by decide) ?_
  obtain ⟨h17, e17, hf⟩ := ob hf
  refine r_putF dX11_init_17 fl_11_4 kw_4_59 (Or.inl rfl) rfl rfl (by decide +kernel) (fit_arr .int _) e17 ?_
  refine r_aload_n 0 dX11_init_20 rfl ?_
  refine r_bipush (x := (12 : Int32)) dX11_init_21 (by decide) ?_
  refine r_newI (n := 12) dX11_init_23 kw_1_61 (by decide) (by decide) (by decide) ?_
  refine r_pc (pc' := 25) rfl ?_
  obtain ⟨h25, e25, hf⟩ := ob hf
  refine r_putF dX11_init_25 fl_11_5 kw_4_60 (Or.inl rfl) rfl rfl (by decide +kernel) (fit_arr .int _) e25 ?_
  refine r_aload_n 0 dX11_init_28 rfl ?_
  refine r_bipush (x := (12 : Int32)) dX11_init_29 (by decide) ?_
  refine r_newI (n := 12) dX11_init_31 kw_1_61 (by decide) (by decide) (by decide) ?_
  obtain ⟨h33, e33, hf⟩ := ob hf
  refine r_putF dX11_init_33 fl_11_7 kw_4_62 (Or.inl rfl) rfl rfl (by decide +kernel) (fit_arr .int _) e33 ?_
  refine r_aload_n 0 dX11_init_36 rfl ?_
  refine r_iconst (x := (3 : Int32)) dX11_init_37 (by decide) ?_
  refine r_newI (n := 3) dX11_init_38 kw_1_61 (by decide) (by decide) (by decide) ?_
  obtain ⟨h40, e40, hf⟩ := ob hf
  refine r_putF dX11_init_40 fl_11_8 kw_4_63 (Or.inl rfl) rfl rfl (by decide +kernel) (fit_arr .int _) e40 ?_
  refine r_aload_n 0 dX11_init_43 rfl ?_
  refine r_bipush (x := (51 : Int32)) dX11_init_44 (by decide) ?_
  refine r_newI (n := 51) dX11_init_46 kw_1_61 (by decide) (by decide) (by decide) ?_
  obtain ⟨h48, e48, hf⟩ := ob hf
  refine r_putF dX11_init_48 fl_11_14 kw_4_69 (Or.inl rfl) rfl rfl (by decide +kernel) (fit_arr .int _) e48 ?_
  refine r_aload_n 0 dX11_init_51 rfl ?_
  refine r_pc (pc' := 52) rfl ?_
  refine r_bipush (x := (51 : Int32)) dX11_init_52 (by decide) ?_
  refine r_newI (n := 51) dX11_init_54 kw_1_61 (by decide) (by decide) (by decide) ?_
  obtain ⟨h56, e56, hf⟩ := ob hf
  refine r_putF dX11_init_56 fl_11_15 kw_4_70 (Or.inl rfl) rfl rfl (by decide +kernel) (fit_arr .int _) e56 ?_
  refine r_aload_n 0 dX11_init_59 rfl ?_
  refine r_bipush (x := (51 : Int32)) dX11_init_60 (by decide) ?_
  refine r_newI (n := 51) dX11_init_62 kw_1_61 (by decide) (by decide) (by decide) ?_
  obtain ⟨h64, e64, hf⟩ := ob hf
  refine r_putF dX11_init_64 fl_11_16 kw_4_71 (Or.inl rfl) rfl rfl (by decide +kernel) (fit_arr .int _) e64 ?_
  refine r_aload_n 0 dX11_init_67 rfl ?_
  refine r_bipush (x := (51 : Int32)) dX11_init_68 (by decide) ?_
  refine r_newI (n := 51) dX11_init_70 kw_1_61 (by decide) (by decide) (by decide) ?_
  obtain ⟨h72, e72, hf⟩ := ob hf
  refine r_putF dX11_init_72 fl_11_17 kw_4_72 (Or.inl rfl) rfl rfl (by decide +kernel) (fit_arr .int _) e72 ?_
  refine r_aload_n 0 dX11_init_75 rfl ?_
  refine r_bipush (x := (75 : Int32)) dX11_init_76 (by decide) ?_
  refine r_newI (n := 75) dX11_init_78 kw_1_61 (by decide) (by decide) (by decide) ?_
  refine r_pc (pc' := 80) rfl ?_
  obtain ⟨h80, e80, hf⟩ := ob hf
  refine r_putF dX11_init_80 fl_11_18 kw_4_73 (Or.inl rfl) rfl rfl (by decide +kernel) (fit_arr .int _) e80 ?_
  refine r_aload_n 0 dX11_init_83 rfl ?_
  refine r_bipush (x := (75 : Int32)) dX11_init_84 (by decide) ?_
  refine r_newI (n := 75) dX11_init_86 kw_1_61 (by decide) (by decide) (by decide) ?_
  obtain ⟨h88, e88, hf⟩ := ob hf
  refine r_putF dX11_init_88 fl_11_19 kw_4_74 (Or.inl rfl) rfl rfl (by decide +kernel) (fit_arr .int _) e88 ?_
  refine r_aload_n 0 dX11_init_91 rfl ?_
  refine r_bipush (x := (12 : Int32)) dX11_init_92 (by decide) ?_
  refine r_newI (n := 12) dX11_init_94 kw_1_61 (by decide) (by decide) (by decide) ?_
  obtain ⟨h96, e96, hf⟩ := ob hf
  refine r_putF dX11_init_96 fl_11_24 kw_4_79 (Or.inl rfl) rfl rfl (by decide +kernel) (fit_arr .int _) e96 ?_
  refine r_aload_n 0 dX11_init_99 rfl ?_
  refine r_bipush (x := (12 : Int32)) dX11_init_100 (by decide) ?_
  refine r_newI (n := 12) dX11_init_102 kw_1_61 (by decide) (by decide) (by decide) ?_
  obtain ⟨h104, e104, hf⟩ := ob hf
  refine r_putF dX11_init_104 fl_11_25 kw_4_80 (Or.inl rfl) rfl rfl (by decide +kernel) (fit_arr .int _) e104 ?_
  refine r_aload_n 0 dX11_init_107 rfl ?_
  refine r_pc (pc' := 108) rfl ?_
  refine r_bipush (x := (7 : Int32)) dX11_init_108 (by decide) ?_
  refine r_newI (n := 7) dX11_init_110 kw_1_61 (by decide) (by decide) (by decide) ?_
  obtain ⟨h112, e112, hf⟩ := ob hf
  refine r_putF dX11_init_112 fl_11_26 kw_4_81 (Or.inl rfl) rfl rfl (by decide +kernel) (fit_arr .int _) e112 ?_
  refine r_aload_n 0 dX11_init_115 rfl ?_
  refine r_bipush (x := (8 : Int32)) dX11_init_116 (by decide) ?_
  refine r_newI (n := 8) dX11_init_118 kw_1_61 (by decide) (by decide) (by decide) ?_
  obtain ⟨h120, e120, hf⟩ := ob hf
  refine r_putF dX11_init_120 fl_11_28 kw_4_83 (Or.inl rfl) rfl rfl (by decide +kernel) (fit_arr .int _) e120 ?_
  refine r_aload_n 0 dX11_init_123 rfl ?_
  refine r_bipush (x := (8 : Int32)) dX11_init_124 (by decide) ?_
  refine r_newI (n := 8) dX11_init_126 kw_1_61 (by decide) (by decide) (by decide) ?_
  obtain ⟨h128, e128, hf⟩ := ob hf
  refine r_putF dX11_init_128 fl_11_29 kw_4_84 (Or.inl rfl) rfl rfl (by decide +kernel) (fit_arr .int _) e128 ?_
  refine r_aload_n 0 dX11_init_131 rfl ?_
  refine r_bipush (x := (8 : Int32)) dX11_init_132 (by decide) ?_
  refine r_newI (n := 8) dX11_init_134 kw_1_61 (by decide) (by decide) (by decide) ?_
  refine r_pc (pc' := 136) rfl ?_
  obtain ⟨h136, e136, hf⟩ := ob hf
  refine r_putF dX11_init_136 fl_11_30 kw_4_85 (Or.inl rfl) rfl rfl (by decide +kernel) (fit_arr .int _) e136 ?_
  refine r_aload_n 0 dX11_init_139 rfl ?_
  refine r_bipush (x := (8 : Int32)) dX11_init_140 (by decide) ?_
  refine r_newI (n := 8) dX11_init_142 kw_1_61 (by decide) (by decide) (by decide) ?_
  obtain ⟨h144, e144, hf⟩ := ob hf
  refine r_putF dX11_init_144 fl_11_31 kw_4_86 (Or.inl rfl) rfl rfl (by decide +kernel) (fit_arr .int _) e144 ?_
  refine r_aload_n 0 dX11_init_147 rfl ?_
  refine r_bipush (x := (8 : Int32)) dX11_init_148 (by decide) ?_
  refine r_newI (n := 8) dX11_init_150 kw_1_61 (by decide) (by decide) (by decide) ?_
  obtain ⟨h152, e152, hf⟩ := ob hf
  refine r_putF dX11_init_152 fl_11_32 kw_4_87 (Or.inl rfl) rfl rfl (by decide +kernel) (fit_arr .int _) e152 ?_
  refine r_aload_n 0 dX11_init_155 rfl ?_
  refine r_sipush (x := (800 : Int32)) dX11_init_156 (by decide) ?_
  refine r_newL (n := 800) dX11_init_159 kw_4_161 (by decide) (by decide) (by decide) ?_
  obtain ⟨h161, e161, hf⟩ := ob hf
  refine r_putF dX11_init_161 fl_11_33 kw_4_88 (Or.inl rfl) rfl rfl (by decide +kernel) (fit_arr .long _) e161 ?_
  refine r_aload_n 0 dX11_init_164 rfl ?_
  refine r_pc (pc' := 165) rfl ?_
  refine r_bipush (x := (100 : Int32)) dX11_init_165 (by decide) ?_
  refine r_newL (n := 100) dX11_init_167 kw_4_161 (by decide) (by decide) (by decide) ?_
  obtain ⟨h169, e169, hf⟩ := ob hf
  refine r_putF dX11_init_169 fl_11_34 kw_4_89 (Or.inl rfl) rfl rfl (by decide +kernel) (fit_arr .long _) e169 ?_
  refine r_aload_n 0 dX11_init_172 rfl ?_
  refine r_iconst (x := (0 : Int32)) dX11_init_173 (by decide) ?_
  obtain ⟨h174, e174, hf⟩ := ob hf
  refine r_put dX11_init_174 fl_11_6 kw_4_61 (Or.inl rfl) (by decide +kernel) (fit_int _) e174 ?_
  have hf := Option.some.inj hf
  subst hf
  exact r_vret rfl dX11_init_177
/-! ===== NumberedByAgeModel.wrongSort(II)I ===== -/
abbrev M_X11_wrongSort : Mx := (cX11_wrongSort, 3, RX11, (false, []), (some .int), 2, 46)
def f_X11_wrongSort (h : Hp) (this : Nat) (x1 : Int32) (x2 : Int32) : Option Int32 :=
    (rcv h (some this) 11).bind fun a2 =>
    (f_X11_wrongRow h a2 x1).bind fun v2 =>
    if 0 ≤ v2 then
      (gR h (some this) [11] 31).bind fun v17 =>
      (aI h v17 x1).bind fun v21 =>
      if v21 = x2 then
        some (0 : Int32)
      else
        some (-12 : Int32)
    else
      (rcv h (some this) 11).bind fun a10 =>
      (f_X11_wrongRow h a10 x1).bind fun v10 =>
      some v10
set_option maxRecDepth 100000 in
set_option maxHeartbeats 4000000 in
theorem k_X11_wrongSort (G : Gx) (l : Launch) {h : Hp} {this : Nat} {x1 : Int32} {x2 : Int32} {r : Int32} (hf : f_X11_wrongSort h this x1 x2 = some r) : KM l yX11_wrongSort (.code yX11_wrongSort cX11_wrongSort 3 (some .int) :: wsK) 2 46 G [vR (some this), vI x1, vI x2] h (some (vI r)) h := by
  refine r_entry (ctor := false) (own := RX11) (by decide +kernel) rfl (fun q => by cases q) (Nat.le_of_ble_eq_true rfl) ?_
  show RJ G l M_X11_wrongSort (some (vI r)) h 0 [(0, vR (some this)), (1, vI x1), (2, vI x2)] [] h
  unfold f_X11_wrongSort at hf
  refine r_aload_n 0 dX11_wrongSort_0 rfl ?_
  refine r_iload_n 1 dX11_wrongSort_1 rfl ?_
  obtain ⟨a2, ea2, hf⟩ := ob hf
  obtain ⟨v2, e2, hf⟩ := ob hf
  refine r_callV (y := yX11_wrongRow) (ci := 11) (avs := [vI x1]) dX11_wrongSort_2 rfl kw_4_174 kw_4_176 kw_0_15 kw_1_5 kw_4_177 oky_X11_wrongRow ⟨Nat.le_of_ble_eq_true rfl, Nat.le_of_ble_eq_true rfl⟩ rfl (Nat.le_of_ble_eq_true rfl) ea2 (k_X11_wrongRow G l e2) ?_
  refine r_if_ge (tgt := 16) dX11_wrongSort_5 (by decide) (fun c5 => ?_) (fun c5 => ?_)
  · replace hf := (if_pos c5).symm.trans hf
    refine r_aload_n 0 dX11_wrongSort_16 rfl ?_
    obtain ⟨v17, e17, hf⟩ := ob hf
    refine r_get dX11_wrongSort_17 fl_11_31 kw_4_86 (Or.inl rfl) (gR_sp e17) ?_
    refine r_iload_n 1 dX11_wrongSort_20 rfl ?_
    obtain ⟨v21, e21, hf⟩ := ob hf
    refine r_iaload dX11_wrongSort_21 e21 ?_
    refine r_iload_n 2 dX11_wrongSort_22 rfl ?_
    refine r_icmp_eq (tgt := 31) dX11_wrongSort_23 (by decide) (fun c23 => ?_) (fun c23 => ?_)
    · replace hf := (if_pos c23).symm.trans hf
      refine r_iconst (x := (0 : Int32)) dX11_wrongSort_31 (by decide) ?_
      have hf := Option.some.inj hf
      subst hf
      exact r_iret rfl dX11_wrongSort_32
    · replace hf := (if_neg c23).symm.trans hf
      refine r_bipush (x := (-12 : Int32)) dX11_wrongSort_26 (by decide) ?_
      refine r_goto (tgt := 32) dX11_wrongSort_28 (by decide) ?_
      have hf := Option.some.inj hf
      subst hf
      exact r_iret rfl dX11_wrongSort_32
  · replace hf := (if_neg c5).symm.trans hf
    refine r_aload_n 0 dX11_wrongSort_8 rfl ?_
    refine r_iload_n 1 dX11_wrongSort_9 rfl ?_
    obtain ⟨a10, ea10, hf⟩ := ob hf
    obtain ⟨v10, e10, hf⟩ := ob hf
    refine r_callV (y := yX11_wrongRow) (ci := 11) (avs := [vI x1]) dX11_wrongSort_10 rfl kw_4_174 kw_4_176 kw_0_15 kw_1_5 kw_4_177 oky_X11_wrongRow ⟨Nat.le_of_ble_eq_true rfl, Nat.le_of_ble_eq_true rfl⟩ rfl (Nat.le_of_ble_eq_true rfl) ea10 (k_X11_wrongRow G l e10) ?_
    refine r_goto (tgt := 32) dX11_wrongSort_13 (by decide) ?_
    have hf := Option.some.inj hf
    subst hf
    exact r_iret rfl dX11_wrongSort_32
/-! ===== NumberedByAgeModel.joined(II)I ===== -/
abbrev M_X11_joined : Mx := (cX11_joined, 7, RX11, (false, []), (some .int), 3, 68)
def f_X11_joined_89 (this : Nat) (k51 : Hp → Int32 → Int32 → Int32 → Int32 → Option (Int32 × Hp)) (h : Hp) (x1 : Int32) (x2 : Int32) (x5 : Int32) (s0 : Int32) : Option (Int32 × Hp) :=
    k51 h x1 x2 s0 (x5 + 1)
set_option maxRecDepth 100000 in
set_option maxHeartbeats 4000000 in
theorem t_X11_joined_89 (G : Gx) (l : Launch) (this : Nat) (k51 : Hp → Int32 → Int32 → Int32 → Int32 → Option (Int32 × Hp)) (hk51 : ∀ (h : Hp) (x1 : Int32) (x2 : Int32) (x4 : Int32) (x5 : Int32) (r : (Int32 × Hp)), k51 h x1 x2 x4 x5 = some r → RJ G l M_X11_joined (some (vI r.1)) r.2 51 [(0, vR (some this)), (1, vI x1), (2, vI x2), (4, vI x4), (5, vI x5)] [] h) (h : Hp) (x1 : Int32) (x2 : Int32) (x5 : Int32) (s0 : Int32) (r : (Int32 × Hp)) (hf : f_X11_joined_89 this k51 h x1 x2 x5 s0 = some r) : RJ G l M_X11_joined (some (vI r.1)) r.2 89 [(0, vR (some this)), (1, vI x1), (2, vI x2), (5, vI x5)] [vI s0] h := by
  unfold f_X11_joined_89 at hf
  refine r_istore (lv' := [(4, vI s0), (0, vR (some this)), (1, vI x1), (2, vI x2), (5, vI x5)]) dX11_joined_89 (Nat.le_of_ble_eq_true rfl) rfl ?_
  refine r_iinc (y := (x5 + 1)) (lv' := [(5, vI (x5 + 1)), (4, vI s0), (0, vR (some this)), (1, vI x1), (2, vI x2)]) 4 dX11_joined_91 rfl rfl (Nat.le_of_ble_eq_true rfl) rfl ?_
  refine r_goto (tgt := 51) dX11_joined_94 (by decide) ?_
  exact r_sub [2, 3, 4, 1, 0] rfl (hk51 _ _ _ _ _ _ hf)
def f_X11_joined_137 (this : Nat) (h : Hp) (x2 : Int32) (x5 : Int32) (x6 : Int32) : Option (Int32 × Hp) :=
    if x2 = 0 then
      some (x6, h)
    else
      some (x5, h)
set_option maxRecDepth 100000 in
set_option maxHeartbeats 4000000 in
theorem t_X11_joined_137 (G : Gx) (l : Launch) (this : Nat)  (h : Hp) (x2 : Int32) (x5 : Int32) (x6 : Int32) (r : (Int32 × Hp)) (hf : f_X11_joined_137 this h x2 x5 x6 = some r) : RJ G l M_X11_joined (some (vI r.1)) r.2 137 [(0, vR (some this)), (2, vI x2), (5, vI x5), (6, vI x6)] [] h := by
  unfold f_X11_joined_137 at hf
  refine r_iload_n 1 dX11_joined_137 rfl ?_
  refine r_if_ne (tgt := 146) dX11_joined_138 (by decide) (fun c138 => ?_) (fun c138 => ?_)
  · replace hf := (if_pos c138).symm.trans hf
    refine r_iload 3 dX11_joined_141 rfl ?_
    refine r_goto (tgt := 148) dX11_joined_143 (by decide) ?_
    have hf := Option.some.inj hf
    subst hf
    exact r_iret rfl dX11_joined_148
  · replace hf := (if_neg c138).symm.trans hf
    refine r_iload 2 dX11_joined_146 rfl ?_
    have hf := Option.some.inj hf
    subst hf
    exact r_iret rfl dX11_joined_148
def f_X11_joined_116 (this : Nat) : Nat → Hp → Int32 → Int32 → Int32 → Int32 → Option (Int32 × Hp)
  | 0, _, _, _, _, _ => none
  | n + 1, h, x1, x2, x5, x6 =>
    if x2 = (1 : Int32) then
      (rcv h (some this) 11).bind fun a125 =>
      (f_X11_hadOf h a125 x1 x5).bind fun v125 =>
      if v125 ≤ 0 then
        f_X11_joined_137 this h x2 x5 x6
      else
        (f_X11_joined_116 this n) h x1 x2 (x5 + 1) x6
    else
      f_X11_joined_137 this h x2 x5 x6
set_option maxRecDepth 100000 in
set_option maxHeartbeats 4000000 in
theorem t_X11_joined_116 (G : Gx) (l : Launch) (this : Nat)  : ∀ (n : Nat) (h : Hp) (x1 : Int32) (x2 : Int32) (x5 : Int32) (x6 : Int32) (r : (Int32 × Hp)), f_X11_joined_116 this n h x1 x2 x5 x6 = some r → RJ G l M_X11_joined (some (vI r.1)) r.2 116 [(0, vR (some this)), (1, vI x1), (2, vI x2), (5, vI x5), (6, vI x6)] [] h := by
  intro n
  induction n with
  | zero =>
    intro h x1 x2 x5 x6 r hf
    rw [f_X11_joined_116] at hf
    cases hf
  | succ n ih =>
    intro h x1 x2 x5 x6 r hf
    rw [f_X11_joined_116] at hf
    refine r_iload_n 2 dX11_joined_116 rfl ?_
    refine r_iconst (x := (1 : Int32)) dX11_joined_117 (by decide) ?_
    refine r_icmp_ne (tgt := 137) dX11_joined_118 (by decide) (fun c118 => ?_) (fun c118 => ?_)
    · replace hf := (if_pos c118).symm.trans hf
      refine r_aload_n 0 dX11_joined_121 rfl ?_
      refine r_iload_n 1 dX11_joined_122 rfl ?_
      refine r_iload 3 dX11_joined_123 rfl ?_
      obtain ⟨a125, ea125, hf⟩ := ob hf
      obtain ⟨v125, e125, hf⟩ := ob hf
      refine r_callV (y := yX11_hadOf) (ci := 11) (avs := [vI x1, vI x5]) dX11_joined_125 rfl kw_5_131 kw_5_133 kw_0_41 kw_1_5 kw_5_134 oky_X11_hadOf ⟨Nat.le_of_ble_eq_true rfl, Nat.le_of_ble_eq_true rfl⟩ rfl (Nat.le_of_ble_eq_true rfl) ea125 (k_X11_hadOf G l e125) ?_
      refine r_if_le (tgt := 137) dX11_joined_128 (by decide) (fun c128 => ?_) (fun c128 => ?_)
      · replace hf := (if_pos c128).symm.trans hf
        exact r_sub [0, 2, 3, 4] rfl (t_X11_joined_137 G l _ _ _ _ _ _ hf)
      · replace hf := (if_neg c128).symm.trans hf
        refine r_iinc (y := (x5 + 1)) (lv' := [(5, vI (x5 + 1)), (0, vR (some this)), (1, vI x1), (2, vI x2), (6, vI x6)]) 3 dX11_joined_131 rfl rfl (Nat.le_of_ble_eq_true rfl) rfl ?_
        refine r_goto (tgt := 116) dX11_joined_134 (by decide) ?_
        exact r_sub [1, 2, 3, 0, 4] rfl (ih _ _ _ _ _ _ hf)
    · replace hf := (if_neg c118).symm.trans hf
      exact r_sub [0, 2, 3, 4] rfl (t_X11_joined_137 G l _ _ _ _ _ _ hf)
def f_X11_joined_97 (this : Nat) (h : Hp) (x1 : Int32) (x2 : Int32) (x4 : Int32) : Option (Int32 × Hp) :=
    if x4 = 0 then
      some ((-13 : Int32), h)
    else
      (rcv h (some this) 11).bind fun a111 =>
      (f_X11_hadOf h a111 x1 (0 : Int32)).bind fun v111 =>
      f_X11_joined_116 this 10000 h x1 x2 (0 : Int32) v111
set_option maxRecDepth 100000 in
set_option maxHeartbeats 4000000 in
theorem t_X11_joined_97 (G : Gx) (l : Launch) (this : Nat)  (h : Hp) (x1 : Int32) (x2 : Int32) (x4 : Int32) (r : (Int32 × Hp)) (hf : f_X11_joined_97 this h x1 x2 x4 = some r) : RJ G l M_X11_joined (some (vI r.1)) r.2 97 [(0, vR (some this)), (1, vI x1), (2, vI x2), (4, vI x4)] [] h := by
  unfold f_X11_joined_97 at hf
  refine r_iload 3 dX11_joined_97 rfl ?_
  refine r_if_ne (tgt := 105) dX11_joined_99 (by decide) (fun c99 => ?_) (fun c99 => ?_)
  · replace hf := (if_pos c99).symm.trans hf
    refine r_bipush (x := (-13 : Int32)) dX11_joined_102 (by decide) ?_
    have hf := Option.some.inj hf
    subst hf
    exact r_iret rfl dX11_joined_104
  · replace hf := (if_neg c99).symm.trans hf
    refine r_iconst (x := (0 : Int32)) dX11_joined_105 (by decide) ?_
    refine r_istore (lv' := [(5, vI (0 : Int32)), (0, vR (some this)), (1, vI x1), (2, vI x2), (4, vI x4)]) dX11_joined_106 (Nat.le_of_ble_eq_true rfl) rfl ?_
    refine r_aload_n 1 dX11_joined_108 rfl ?_
    refine r_iload_n 2 dX11_joined_109 rfl ?_
    refine r_iconst (x := (0 : Int32)) dX11_joined_110 (by decide) ?_
    obtain ⟨a111, ea111, hf⟩ := ob hf
    obtain ⟨v111, e111, hf⟩ := ob hf
    refine r_callV (y := yX11_hadOf) (ci := 11) (avs := [vI x1, vI (0 : Int32)]) dX11_joined_111 rfl kw_5_131 kw_5_133 kw_0_41 kw_1_5 kw_5_134 oky_X11_hadOf ⟨Nat.le_of_ble_eq_true rfl, Nat.le_of_ble_eq_true rfl⟩ rfl (Nat.le_of_ble_eq_true rfl) ea111 (k_X11_hadOf G l e111) ?_
    refine r_istore (lv' := [(6, vI v111), (5, vI (0 : Int32)), (0, vR (some this)), (1, vI x1), (2, vI x2), (4, vI x4)]) dX11_joined_114 (Nat.le_of_ble_eq_true rfl) rfl ?_
    exact r_sub [2, 3, 4, 1, 0] rfl (t_X11_joined_116 G l _ _ _ _ _ _ _ _ hf)
def f_X11_joined_51 (this : Nat) : Nat → Hp → Int32 → Int32 → Int32 → Int32 → Option (Int32 × Hp)
  | 0, _, _, _, _, _ => none
  | n + 1, h, x1, x2, x4, x5 =>
    (gR h (some this) [11] 32).bind fun v54 =>
    (aI h v54 x1).bind fun v58 =>
    if v58 ≤ x5 then
      f_X11_joined_97 this h x1 x2 x4
    else
      if x4 = 0 then
        f_X11_joined_97 this h x1 x2 x4
      else
        (gR h (some this) [11] 33).bind fun v68 =>
        (aL h v68 (((100 : Int32) * x1) + x5)).bind fun v78 =>
        if (lg_cmp v78 (0 : Int64)) ≤ 0 then
          f_X11_joined_89 this (f_X11_joined_51 this n) h x1 x2 x5 (0 : Int32)
        else
          f_X11_joined_89 this (f_X11_joined_51 this n) h x1 x2 x5 (1 : Int32)
set_option maxRecDepth 100000 in
set_option maxHeartbeats 4000000 in
theorem t_X11_joined_51 (G : Gx) (l : Launch) (this : Nat)  : ∀ (n : Nat) (h : Hp) (x1 : Int32) (x2 : Int32) (x4 : Int32) (x5 : Int32) (r : (Int32 × Hp)), f_X11_joined_51 this n h x1 x2 x4 x5 = some r → RJ G l M_X11_joined (some (vI r.1)) r.2 51 [(0, vR (some this)), (1, vI x1), (2, vI x2), (4, vI x4), (5, vI x5)] [] h := by
  intro n
  induction n with
  | zero =>
    intro h x1 x2 x4 x5 r hf
    rw [f_X11_joined_51] at hf
    cases hf
  | succ n ih =>
    intro h x1 x2 x4 x5 r hf
    rw [f_X11_joined_51] at hf
    refine r_iload 4 dX11_joined_51 rfl ?_
    refine r_aload_n 0 dX11_joined_53 rfl ?_
    obtain ⟨v54, e54, hf⟩ := ob hf
    refine r_get dX11_joined_54 fl_11_32 kw_4_87 (Or.inl rfl) (gR_sp e54) ?_
    refine r_iload_n 1 dX11_joined_57 rfl ?_
    obtain ⟨v58, e58, hf⟩ := ob hf
    refine r_iaload dX11_joined_58 e58 ?_
    refine r_icmp_ge (tgt := 97) dX11_joined_59 (by decide) (fun c59 => ?_) (fun c59 => ?_)
    · replace hf := (if_pos c59).symm.trans hf
      exact r_sub [0, 1, 2, 3] rfl (t_X11_joined_97 G l _ _ _ _ _ _ hf)
    · replace hf := (if_neg c59).symm.trans hf
      refine r_iload 3 dX11_joined_62 rfl ?_
      refine r_if_eq (tgt := 97) dX11_joined_64 (by decide) (fun c64 => ?_) (fun c64 => ?_)
      · replace hf := (if_pos c64).symm.trans hf
        exact r_sub [0, 1, 2, 3] rfl (t_X11_joined_97 G l _ _ _ _ _ _ hf)
      · replace hf := (if_neg c64).symm.trans hf
        refine r_aload_n 0 dX11_joined_67 rfl ?_
        obtain ⟨v68, e68, hf⟩ := ob hf
        refine r_get dX11_joined_68 fl_11_33 kw_4_88 (Or.inl rfl) (gR_sp e68) ?_
        refine r_bipush (x := (100 : Int32)) dX11_joined_71 (by decide) ?_
        refine r_iload_n 1 dX11_joined_73 rfl ?_
        refine r_imul dX11_joined_74 ?_
        refine r_iload 4 dX11_joined_75 rfl ?_
        refine r_iadd dX11_joined_77 ?_
        obtain ⟨v78, e78, hf⟩ := ob hf
        refine r_laload dX11_joined_78 e78 ?_
        refine r_lconst (x := (0 : Int64)) dX11_joined_79 (by decide) ?_
        refine r_lcmp dX11_joined_80 ?_
        refine r_if_le (tgt := 88) dX11_joined_81 (by decide) (fun c81 => ?_) (fun c81 => ?_)
        · replace hf := (if_pos c81).symm.trans hf
          refine r_iconst (x := (0 : Int32)) dX11_joined_88 (by decide) ?_
          exact r_sub [0, 1, 2, 4] rfl (t_X11_joined_89 G l _ (f_X11_joined_51 this n) ih _ _ _ _ _ _ hf)
        · replace hf := (if_neg c81).symm.trans hf
          refine r_iconst (x := (1 : Int32)) dX11_joined_84 (by decide) ?_
          refine r_goto (tgt := 89) dX11_joined_85 (by decide) ?_
          exact r_sub [0, 1, 2, 4] rfl (t_X11_joined_89 G l _ (f_X11_joined_51 this n) ih _ _ _ _ _ _ hf)
def f_X11_joined_25 (this : Nat) (h : Hp) (x1 : Int32) (x2 : Int32) (s0 : Int32) : Option (Int32 × Hp) :=
    if 0 ≤ s0 then
      (gR h (some this) [11] 32).bind fun v33 =>
      (aI h v33 x1).bind fun v37 =>
      (f_X11_in h v37.toInt64 (1 : Int64) (20 : Int64)).bind fun v43 =>
      f_X11_joined_51 this 10000 h x1 x2 v43 (0 : Int32)
    else
      some (s0, h)
set_option maxRecDepth 100000 in
set_option maxHeartbeats 4000000 in
theorem t_X11_joined_25 (G : Gx) (l : Launch) (this : Nat)  (h : Hp) (x1 : Int32) (x2 : Int32) (s0 : Int32) (r : (Int32 × Hp)) (hf : f_X11_joined_25 this h x1 x2 s0 = some r) : RJ G l M_X11_joined (some (vI r.1)) r.2 25 [(0, vR (some this)), (1, vI x1), (2, vI x2)] [vI s0] h := by
  unfold f_X11_joined_25 at hf
  refine r_istore_n (lv' := [(3, vI s0), (0, vR (some this)), (1, vI x1), (2, vI x2)]) dX11_joined_25 (Nat.le_of_ble_eq_true rfl) rfl ?_
  refine r_iload_n 0 dX11_joined_26 rfl ?_
  refine r_if_ge (tgt := 32) dX11_joined_27 (by decide) (fun c27 => ?_) (fun c27 => ?_)
  · replace hf := (if_pos c27).symm.trans hf
    refine r_aload_n 1 dX11_joined_32 rfl ?_
    obtain ⟨v33, e33, hf⟩ := ob hf
    refine r_get dX11_joined_33 fl_11_32 kw_4_87 (Or.inl rfl) (gR_sp e33) ?_
    refine r_iload_n 2 dX11_joined_36 rfl ?_
    obtain ⟨v37, e37, hf⟩ := ob hf
    refine r_iaload dX11_joined_37 e37 ?_
    refine r_i2l dX11_joined_38 ?_
    refine r_lconst (x := (1 : Int64)) dX11_joined_39 (by decide) ?_
    refine r_ldc2 (x := (20 : Int64)) dX11_joined_40 kw_5_130 ?_
    obtain ⟨v43, e43, hf⟩ := ob hf
    refine r_callS (y := yX11_in) (avs := [vL v37.toInt64, vL (1 : Int64), vL (20 : Int64)]) dX11_joined_43 kw_4_179 kw_4_180 kw_1_5 kw_4_181 oky_X11_in ⟨Nat.le_of_ble_eq_true rfl, Nat.le_of_ble_eq_true rfl⟩ rfl (Nat.le_of_ble_eq_true rfl) (k_X11_in G l e43) ?_
    refine r_istore (lv' := [(4, vI v43), (3, vI s0), (0, vR (some this)), (1, vI x1), (2, vI x2)]) dX11_joined_46 (Nat.le_of_ble_eq_true rfl) rfl ?_
    refine r_iconst (x := (0 : Int32)) dX11_joined_48 (by decide) ?_
    refine r_istore (lv' := [(5, vI (0 : Int32)), (4, vI v43), (3, vI s0), (0, vR (some this)), (1, vI x1), (2, vI x2)]) dX11_joined_49 (Nat.le_of_ble_eq_true rfl) rfl ?_
    exact r_sub [3, 4, 5, 1, 0] rfl (t_X11_joined_51 G l _ _ _ _ _ _ _ _ hf)
  · replace hf := (if_neg c27).symm.trans hf
    refine r_iload_n 0 dX11_joined_30 rfl ?_
    have hf := Option.some.inj hf
    subst hf
    exact r_iret rfl dX11_joined_31
def f_X11_joined (h : Hp) (this : Nat) (x1 : Int32) (x2 : Int32) : Option (Int32 × Hp) :=
    (pF h (some this) [11] 6 (vI (0 : Int32))).bind fun h2 =>
    (f_X11_in h2 x2.toInt64 (0 : Int64) (1 : Int64)).bind fun v9 =>
    if v9 = 0 then
      f_X11_joined_25 this h2 x1 x2 (-1 : Int32)
    else
      (rcv h2 (some this) 11).bind fun a18 =>
      (f_X11_wrongSort h2 a18 x1 (1 : Int32)).bind fun v18 =>
      f_X11_joined_25 this h2 x1 x2 v18
set_option maxRecDepth 100000 in
set_option maxHeartbeats 4000000 in
theorem k_X11_joined (G : Gx) (l : Launch) {h : Hp} {this : Nat} {x1 : Int32} {x2 : Int32} {r : (Int32 × Hp)} (hf : f_X11_joined h this x1 x2 = some r) : KM l yX11_joined (.code yX11_joined cX11_joined 7 (some .int) :: wsK) 3 68 G [vR (some this), vI x1, vI x2] h (some (vI r.1)) r.2 := by
  refine r_entry (ctor := false) (own := RX11) (by decide +kernel) rfl (fun q => by cases q) (Nat.le_of_ble_eq_true rfl) ?_
  show RJ G l M_X11_joined (some (vI r.1)) r.2 0 [(0, vR (some this)), (1, vI x1), (2, vI x2)] [] h
  unfold f_X11_joined at hf
  refine r_aload_n 0 dX11_joined_0 rfl ?_
  refine r_iconst (x := (0 : Int32)) dX11_joined_1 (by decide) ?_
  obtain ⟨h2, e2, hf⟩ := ob hf
  refine r_put dX11_joined_2 fl_11_6 kw_4_61 (Or.inl rfl) (by decide +kernel) (fit_int _) e2 ?_
  refine r_iload_n 2 dX11_joined_5 rfl ?_
  refine r_i2l dX11_joined_6 ?_
  refine r_lconst (x := (0 : Int64)) dX11_joined_7 (by decide) ?_
  refine r_lconst (x := (1 : Int64)) dX11_joined_8 (by decide) ?_
  obtain ⟨v9, e9, hf⟩ := ob hf
  refine r_callS (y := yX11_in) (avs := [vL x2.toInt64, vL (0 : Int64), vL (1 : Int64)]) dX11_joined_9 kw_4_179 kw_4_180 kw_1_5 kw_4_181 oky_X11_in ⟨Nat.le_of_ble_eq_true rfl, Nat.le_of_ble_eq_true rfl⟩ rfl (Nat.le_of_ble_eq_true rfl) (k_X11_in G l e9) ?_
  refine r_if_eq (tgt := 24) dX11_joined_12 (by decide) (fun c12 => ?_) (fun c12 => ?_)
  · replace hf := (if_pos c12).symm.trans hf
    refine r_iconst (x := (-1 : Int32)) dX11_joined_24 (by decide) ?_
    exact r_sub [0, 1, 2] rfl (t_X11_joined_25 G l _ _ _ _ _ _ hf)
  · replace hf := (if_neg c12).symm.trans hf
    refine r_aload_n 0 dX11_joined_15 rfl ?_
    refine r_iload_n 1 dX11_joined_16 rfl ?_
    refine r_iconst (x := (1 : Int32)) dX11_joined_17 (by decide) ?_
    obtain ⟨a18, ea18, hf⟩ := ob hf
    obtain ⟨v18, e18, hf⟩ := ob hf
    refine r_callV (y := yX11_wrongSort) (ci := 11) (avs := [vI x1, vI (1 : Int32)]) dX11_joined_18 rfl kw_4_170 kw_4_172 kw_0_14 kw_1_5 kw_4_173 oky_X11_wrongSort ⟨Nat.le_of_ble_eq_true rfl, Nat.le_of_ble_eq_true rfl⟩ rfl (Nat.le_of_ble_eq_true rfl) ea18 (k_X11_wrongSort G l e18) ?_
    refine r_goto (tgt := 25) dX11_joined_21 (by decide) ?_
    exact r_sub [0, 1, 2] rfl (t_X11_joined_25 G l _ _ _ _ _ _ hf)
/-! ===== NumberedByAgeModel.skippedIn(I)J ===== -/
abbrev M_X11_skippedIn : Mx := (cX11_skippedIn, 2, RX11, (false, []), (some .long), 0, 0)
def f_X11_skippedIn (h : Hp) (this : Nat) (x1 : Int32) : Option Int64 :=
    (gR h (some this) [11] 31).bind fun v1 =>
    (aI h v1 x1).bind fun v5 =>
    if v5 = 0 then
      some (-128 : Int64)
    else
      (gR h (some this) [11] 31).bind fun v16 =>
      (aI h v16 x1).bind fun v20 =>
      if v20 = (1 : Int32) then
        some (-32768 : Int64)
      else
        some (-2147483648 : Int64)
set_option maxRecDepth 100000 in
set_option maxHeartbeats 4000000 in
theorem k_X11_skippedIn (G : Gx) (l : Launch) {h : Hp} {this : Nat} {x1 : Int32} {r : Int64} (hf : f_X11_skippedIn h this x1 = some r) : KM l yX11_skippedIn (.code yX11_skippedIn cX11_skippedIn 2 (some .long) :: wsK) 0 0 G [vR (some this), vI x1] h (some (vL r)) h := by
  refine r_entry (ctor := false) (own := RX11) (by decide +kernel) rfl (fun q => by cases q) (Nat.le_of_ble_eq_true rfl) ?_
  show RJ G l M_X11_skippedIn (some (vL r)) h 0 [(0, vR (some this)), (1, vI x1)] [] h
  unfold f_X11_skippedIn at hf
  refine r_aload_n 0 dX11_skippedIn_0 rfl ?_
  obtain ⟨v1, e1, hf⟩ := ob hf
  refine r_get dX11_skippedIn_1 fl_11_31 kw_4_86 (Or.inl rfl) (gR_sp e1) ?_
  refine r_iload_n 1 dX11_skippedIn_4 rfl ?_
  obtain ⟨v5, e5, hf⟩ := ob hf
  refine r_iaload dX11_skippedIn_5 e5 ?_
  refine r_if_ne (tgt := 15) dX11_skippedIn_6 (by decide) (fun c6 => ?_) (fun c6 => ?_)
  · replace hf := (if_pos c6).symm.trans hf
    refine r_ldc2 (x := (-128 : Int64)) dX11_skippedIn_9 kw_5_155 ?_
    refine r_goto (tgt := 34) dX11_skippedIn_12 (by decide) ?_
    have hf := Option.some.inj hf
    subst hf
    exact r_lret rfl dX11_skippedIn_34
  · replace hf := (if_neg c6).symm.trans hf
    refine r_aload_n 0 dX11_skippedIn_15 rfl ?_
    obtain ⟨v16, e16, hf⟩ := ob hf
    refine r_get dX11_skippedIn_16 fl_11_31 kw_4_86 (Or.inl rfl) (gR_sp e16) ?_
    refine r_iload_n 1 dX11_skippedIn_19 rfl ?_
    obtain ⟨v20, e20, hf⟩ := ob hf
    refine r_iaload dX11_skippedIn_20 e20 ?_
    refine r_iconst (x := (1 : Int32)) dX11_skippedIn_21 (by decide) ?_
    refine r_icmp_ne (tgt := 31) dX11_skippedIn_22 (by decide) (fun c22 => ?_) (fun c22 => ?_)
    · replace hf := (if_pos c22).symm.trans hf
      refine r_ldc2 (x := (-32768 : Int64)) dX11_skippedIn_25 kw_5_156 ?_
      refine r_goto (tgt := 34) dX11_skippedIn_28 (by decide) ?_
      have hf := Option.some.inj hf
      subst hf
      exact r_lret rfl dX11_skippedIn_34
    · replace hf := (if_neg c22).symm.trans hf
      refine r_ldc2 (x := (-2147483648 : Int64)) dX11_skippedIn_31 kw_5_157 ?_
      have hf := Option.some.inj hf
      subst hf
      exact r_lret rfl dX11_skippedIn_34
