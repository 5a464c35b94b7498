/-! ===== NumberedByAge$Shelf.at(I)I ===== -/
abbrev M_X5_at : Mx := (cX5_at, 2, RX5, (false, []), (some .int), 1, 21)
def f_X5_at_23 (h : Hp) (this : Nat)  : Option Int32 :=
    some (0 : Int32)
set_option maxRecDepth 100000 in
set_option maxHeartbeats 4000000 in
theorem t_X5_at_23 (G : Gx) (l : Launch) (h : Hp) (this : Nat)   (r : Int32) (hf : f_X5_at_23 h this = some r) : RJ G l M_X5_at (some (vI r)) h 23 [(0, vR (some this))] [] h := by
  unfold f_X5_at_23 at hf
  refine r_iconst (x := (0 : Int32)) dX5_at_23 (by decide) ?_
  have hf := Option.some.inj hf
  subst hf
  exact r_iret rfl dX5_at_24
def f_X5_at (h : Hp) (this : Nat) (x1 : Int32) : Option Int32 :=
    (rcv h (some this) 5).bind fun a2 =>
    (f_X5_hasPlace h a2 x1).bind fun v2 =>
    if v2 = 0 then
      f_X5_at_23 h this 
    else
      if (100 : Int32) ≤ x1 then
        f_X5_at_23 h this 
      else
        (gR h (some this) [5] 3).bind fun v15 =>
        (aI h v15 x1).bind fun v19 =>
        some v19
set_option maxRecDepth 100000 in
set_option maxHeartbeats 4000000 in
theorem k_X5_at (G : Gx) (l : Launch) {h : Hp} {this : Nat} {x1 : Int32} {r : Int32} (hf : f_X5_at h this x1 = some r) : KM l yX5_at (.code yX5_at cX5_at 2 (some .int) :: wsK) 1 21 G [vR (some this), vI x1] h (some (vI r)) h := by
  refine r_entry (ctor := false) (own := RX5) (by decide +kernel) rfl (fun q => by cases q) (Nat.le_of_ble_eq_true rfl) ?_
  show RJ G l M_X5_at (some (vI r)) h 0 [(0, vR (some this)), (1, vI x1)] [] h
  unfold f_X5_at at hf
  refine r_aload_n 0 dX5_at_0 rfl ?_
  refine r_iload_n 1 dX5_at_1 rfl ?_
  obtain ⟨a2, ea2, hf⟩ := ob hf
  obtain ⟨v2, e2, hf⟩ := ob hf
  refine r_callV (y := yX5_hasPlace) (ci := 5) (avs := [vI x1]) dX5_at_2 rfl kw_1_163 kw_1_164 kw_1_165 kw_1_4 kw_1_166 oky_X5_hasPlace ⟨Nat.le_of_ble_eq_true rfl, Nat.le_of_ble_eq_true rfl⟩ rfl (Nat.le_of_ble_eq_true rfl) ea2 (k_X5_hasPlace G l e2) ?_
  refine r_if_eq (tgt := 23) dX5_at_5 (by decide) (fun c5 => ?_) (fun c5 => ?_)
  · replace hf := (if_pos c5).symm.trans hf
    exact r_sub [0] rfl (t_X5_at_23 G l _ _  _ hf)
  · replace hf := (if_neg c5).symm.trans hf
    refine r_iload_n 1 dX5_at_8 rfl ?_
    refine r_bipush (x := (100 : Int32)) dX5_at_9 (by decide) ?_
    refine r_icmp_ge (tgt := 23) dX5_at_11 (by decide) (fun c11 => ?_) (fun c11 => ?_)
    · replace hf := (if_pos c11).symm.trans hf
      exact r_sub [0] rfl (t_X5_at_23 G l _ _  _ hf)
    · replace hf := (if_neg c11).symm.trans hf
      refine r_aload_n 0 dX5_at_14 rfl ?_
      obtain ⟨v15, e15, hf⟩ := ob hf
      refine r_get dX5_at_15 fl_5_3 kw_1_110 (Or.inl rfl) (gR_sp e15) ?_
      refine r_iload_n 1 dX5_at_18 rfl ?_
      obtain ⟨v19, e19, hf⟩ := ob hf
      refine r_iaload dX5_at_19 e19 ?_
      refine r_goto (tgt := 24) dX5_at_20 (by decide) ?_
      have hf := Option.some.inj hf
      subst hf
      exact r_iret rfl dX5_at_24
/-! ===== NumberedByAge$Shelf.holdsNothing()Z ===== -/
abbrev M_X5_holdsNothing : Mx := (cX5_holdsNothing, 1, RX5, (false, []), (some .boolean), 0, 0)
def f_X5_holdsNothing_19 (h : Hp) (this : Nat)  : Option Int32 :=
    okZ (0 : Int32)
set_option maxRecDepth 100000 in
set_option maxHeartbeats 4000000 in
theorem t_X5_holdsNothing_19 (G : Gx) (l : Launch) (h : Hp) (this : Nat)   (r : Int32) (hf : f_X5_holdsNothing_19 h this = some r) : RJ G l M_X5_holdsNothing (some (vI r)) h 19 [(0, vR (some this))] [] h := by
  unfold f_X5_holdsNothing_19 at hf
  refine r_iconst (x := (0 : Int32)) dX5_holdsNothing_19 (by decide) ?_
  exact r_zret rfl dX5_holdsNothing_20 hf
def f_X5_holdsNothing (h : Hp) (this : Nat) : Option Int32 :=
    (gR h (some this) [5] 0).bind fun v1 =>
    if v1 = none then
      (gI h (some this) [5] 1).bind fun v8 =>
      if v8 = (-1 : Int32) then
        okZ (1 : Int32)
      else
        f_X5_holdsNothing_19 h this 
    else
      f_X5_holdsNothing_19 h this 
set_option maxRecDepth 100000 in
set_option maxHeartbeats 4000000 in
theorem k_X5_holdsNothing (G : Gx) (l : Launch) {h : Hp} {this : Nat} {r : Int32} (hf : f_X5_holdsNothing h this = some r) : KM l yX5_holdsNothing (.code yX5_holdsNothing cX5_holdsNothing 1 (some .boolean) :: wsK) 0 0 G [vR (some this)] h (some (vI r)) h := by
  refine r_entry (ctor := false) (own := RX5) (by decide +kernel) rfl (fun q => by cases q) (Nat.le_of_ble_eq_true rfl) ?_
  show RJ G l M_X5_holdsNothing (some (vI r)) h 0 [(0, vR (some this))] [] h
  unfold f_X5_holdsNothing at hf
  refine r_aload_n 0 dX5_holdsNothing_0 rfl ?_
  obtain ⟨v1, e1, hf⟩ := ob hf
  refine r_get dX5_holdsNothing_1 fl_5_0 kw_1_104 (Or.inl rfl) (gR_sp e1) ?_
  refine r_ifnonnull (tgt := 19) dX5_holdsNothing_4 (by decide) (fun c4 => ?_) (fun c4 => ?_)
  · replace hf := (if_pos c4).symm.trans hf
    refine r_aload_n 0 dX5_holdsNothing_7 rfl ?_
    obtain ⟨v8, e8, hf⟩ := ob hf
    refine r_get dX5_holdsNothing_8 fl_5_1 kw_1_106 (Or.inl rfl) (gI_sp e8) ?_
    refine r_iconst (x := (-1 : Int32)) dX5_holdsNothing_11 (by decide) ?_
    refine r_icmp_ne (tgt := 19) dX5_holdsNothing_12 (by decide) (fun c12 => ?_) (fun c12 => ?_)
    · replace hf := (if_pos c12).symm.trans hf
      refine r_iconst (x := (1 : Int32)) dX5_holdsNothing_15 (by decide) ?_
      refine r_goto (tgt := 20) dX5_holdsNothing_16 (by decide) ?_
      exact r_zret rfl dX5_holdsNothing_20 hf
    · replace hf := (if_neg c12).symm.trans hf
      exact r_sub [0] rfl (t_X5_holdsNothing_19 G l _ _  _ hf)
  · replace hf := (if_neg c4).symm.trans hf
    exact r_sub [0] rfl (t_X5_holdsNothing_19 G l _ _  _ hf)
/-! ===== NumberedByAge$Shelf.holdsRow()Z ===== -/
abbrev M_X5_holdsRow : Mx := (cX5_holdsRow, 1, RX5, (false, []), (some .boolean), 0, 0)
def f_X5_holdsRow (h : Hp) (this : Nat) : Option Int32 :=
    (gI h (some this) [5] 1).bind fun v1 =>
    if v1 = (-1 : Int32) then
      okZ (0 : Int32)
    else
      okZ (1 : Int32)
set_option maxRecDepth 100000 in
set_option maxHeartbeats 4000000 in
theorem k_X5_holdsRow (G : Gx) (l : Launch) {h : Hp} {this : Nat} {r : Int32} (hf : f_X5_holdsRow h this = some r) : KM l yX5_holdsRow (.code yX5_holdsRow cX5_holdsRow 1 (some .boolean) :: wsK) 0 0 G [vR (some this)] h (some (vI r)) h := by
  refine r_entry (ctor := false) (own := RX5) (by decide +kernel) rfl (fun q => by cases q) (Nat.le_of_ble_eq_true rfl) ?_
  show RJ G l M_X5_holdsRow (some (vI r)) h 0 [(0, vR (some this))] [] h
  unfold f_X5_holdsRow at hf
  refine r_aload_n 0 dX5_holdsRow_0 rfl ?_
  obtain ⟨v1, e1, hf⟩ := ob hf
  refine r_get dX5_holdsRow_1 fl_5_1 kw_1_106 (Or.inl rfl) (gI_sp e1) ?_
  refine r_iconst (x := (-1 : Int32)) dX5_holdsRow_4 (by decide) ?_
  refine r_icmp_eq (tgt := 12) dX5_holdsRow_5 (by decide) (fun c5 => ?_) (fun c5 => ?_)
  · replace hf := (if_pos c5).symm.trans hf
    refine r_iconst (x := (0 : Int32)) dX5_holdsRow_12 (by decide) ?_
    exact r_zret rfl dX5_holdsRow_13 hf
  · replace hf := (if_neg c5).symm.trans hf
    refine r_iconst (x := (1 : Int32)) dX5_holdsRow_8 (by decide) ?_
    refine r_goto (tgt := 13) dX5_holdsRow_9 (by decide) ?_
    exact r_zret rfl dX5_holdsRow_13 hf
/-! ===== NumberedByAge$Shelf.hasPlaces(II)Z ===== -/
abbrev M_X5_hasPlaces : Mx := (cX5_hasPlaces, 3, RX5, (false, []), (some .boolean), 0, 0)
def f_X5_hasPlaces_30 (h : Hp) (this : Nat)  : Option Int32 :=
    okZ (0 : Int32)
set_option maxRecDepth 100000 in
set_option maxHeartbeats 4000000 in
theorem t_X5_hasPlaces_30 (G : Gx) (l : Launch) (h : Hp) (this : Nat)   (r : Int32) (hf : f_X5_hasPlaces_30 h this = some r) : RJ G l M_X5_hasPlaces (some (vI r)) h 30 [(0, vR (some this))] [] h := by
  unfold f_X5_hasPlaces_30 at hf
  refine r_iconst (x := (0 : Int32)) dX5_hasPlaces_30 (by decide) ?_
  exact r_zret rfl dX5_hasPlaces_31 hf
def f_X5_hasPlaces (h : Hp) (this : Nat) (x1 : Int32) (x2 : Int32) : Option Int32 :=
    if x2 < 0 then
      f_X5_hasPlaces_30 h this 
    else
      (gI h (some this) [5] 2).bind fun v6 =>
      if v6 < x2 then
        f_X5_hasPlaces_30 h this 
      else
        if x1 < 0 then
          f_X5_hasPlaces_30 h this 
        else
          (gI h (some this) [5] 2).bind fun v18 =>
          if (v18 - x2) < x1 then
            f_X5_hasPlaces_30 h this 
          else
            okZ (1 : Int32)
set_option maxRecDepth 100000 in
set_option maxHeartbeats 4000000 in
theorem k_X5_hasPlaces (G : Gx) (l : Launch) {h : Hp} {this : Nat} {x1 : Int32} {x2 : Int32} {r : Int32} (hf : f_X5_hasPlaces h this x1 x2 = some r) : KM l yX5_hasPlaces (.code yX5_hasPlaces cX5_hasPlaces 3 (some .boolean) :: wsK) 0 0 G [vR (some this), vI x1, vI x2] h (some (vI r)) h := by
  refine r_entry (ctor := false) (own := RX5) (by decide +kernel) rfl (fun q => by cases q) (Nat.le_of_ble_eq_true rfl) ?_
  show RJ G l M_X5_hasPlaces (some (vI r)) h 0 [(0, vR (some this)), (1, vI x1), (2, vI x2)] [] h
  unfold f_X5_hasPlaces at hf
  refine r_iload_n 2 dX5_hasPlaces_0 rfl ?_
  refine r_if_lt (tgt := 30) dX5_hasPlaces_1 (by decide) (fun c1 => ?_) (fun c1 => ?_)
  · replace hf := (if_pos c1).symm.trans hf
    exact r_sub [0] rfl (t_X5_hasPlaces_30 G l _ _  _ hf)
  · replace hf := (if_neg c1).symm.trans hf
    refine r_iload_n 2 dX5_hasPlaces_4 rfl ?_
    refine r_aload_n 0 dX5_hasPlaces_5 rfl ?_
    obtain ⟨v6, e6, hf⟩ := ob hf
    refine r_get dX5_hasPlaces_6 fl_5_2 kw_1_108 (Or.inl rfl) (gI_sp e6) ?_
    refine r_icmp_gt (tgt := 30) dX5_hasPlaces_9 (by decide) (fun c9 => ?_) (fun c9 => ?_)
    · replace hf := (if_pos c9).symm.trans hf
      exact r_sub [0] rfl (t_X5_hasPlaces_30 G l _ _  _ hf)
    · replace hf := (if_neg c9).symm.trans hf
      refine r_iload_n 1 dX5_hasPlaces_12 rfl ?_
      refine r_if_lt (tgt := 30) dX5_hasPlaces_13 (by decide) (fun c13 => ?_) (fun c13 => ?_)
      · replace hf := (if_pos c13).symm.trans hf
        exact r_sub [0] rfl (t_X5_hasPlaces_30 G l _ _  _ hf)
      · replace hf := (if_neg c13).symm.trans hf
        refine r_iload_n 1 dX5_hasPlaces_16 rfl ?_
        refine r_aload_n 0 dX5_hasPlaces_17 rfl ?_
        obtain ⟨v18, e18, hf⟩ := ob hf
        refine r_get dX5_hasPlaces_18 fl_5_2 kw_1_108 (Or.inl rfl) (gI_sp e18) ?_
        refine r_iload_n 2 dX5_hasPlaces_21 rfl ?_
        refine r_isub dX5_hasPlaces_22 ?_
        refine r_icmp_gt (tgt := 30) dX5_hasPlaces_23 (by decide) (fun c23 => ?_) (fun c23 => ?_)
        · replace hf := (if_pos c23).symm.trans hf
          exact r_sub [0] rfl (t_X5_hasPlaces_30 G l _ _  _ hf)
        · replace hf := (if_neg c23).symm.trans hf
          refine r_iconst (x := (1 : Int32)) dX5_hasPlaces_26 (by decide) ?_
          refine r_goto (tgt := 31) dX5_hasPlaces_27 (by decide) ?_
          exact r_zret rfl dX5_hasPlaces_31 hf
/-! ===== NumberedByAge$Shelf.refusalAsLaw()I ===== -/
abbrev M_X5_refusalAsLaw : Mx := (cX5_refusalAsLaw, 1, RX5, (false, []), (some .int), 1, 20)
def f_X5_refusalAsLaw (h : Hp) (this : Nat) : Option Int32 :=
    (rcv h (some this) 5).bind fun a1 =>
    (f_X5_holdsNothing h a1).bind fun v1 =>
    if v1 = 0 then
      some (-12 : Int32)
    else
      some (-11 : Int32)
set_option maxRecDepth 100000 in
set_option maxHeartbeats 4000000 in
theorem k_X5_refusalAsLaw (G : Gx) (l : Launch) {h : Hp} {this : Nat} {r : Int32} (hf : f_X5_refusalAsLaw h this = some r) : KM l yX5_refusalAsLaw (.code yX5_refusalAsLaw cX5_refusalAsLaw 1 (some .int) :: wsK) 1 20 G [vR (some this)] h (some (vI r)) h := by
  refine r_entry (ctor := false) (own := RX5) (by decide +kernel) rfl (fun q => by cases q) (Nat.le_of_ble_eq_true rfl) ?_
  show RJ G l M_X5_refusalAsLaw (some (vI r)) h 0 [(0, vR (some this))] [] h
  unfold f_X5_refusalAsLaw at hf
  refine r_aload_n 0 dX5_refusalAsLaw_0 rfl ?_
  obtain ⟨a1, ea1, hf⟩ := ob hf
  obtain ⟨v1, e1, hf⟩ := ob hf
  refine r_callV (y := yX5_holdsNothing) (ci := 5) (avs := []) dX5_refusalAsLaw_1 rfl kw_1_149 kw_1_150 kw_1_151 kw_1_4 kw_1_152 oky_X5_holdsNothing ⟨Nat.le_of_ble_eq_true rfl, Nat.le_of_ble_eq_true rfl⟩ rfl (Nat.le_of_ble_eq_true rfl) ea1 (k_X5_holdsNothing G l e1) ?_
  refine r_if_eq (tgt := 12) dX5_refusalAsLaw_4 (by decide) (fun c4 => ?_) (fun c4 => ?_)
  · replace hf := (if_pos c4).symm.trans hf
    refine r_bipush (x := (-12 : Int32)) dX5_refusalAsLaw_12 (by decide) ?_
    have hf := Option.some.inj hf
    subst hf
    exact r_iret rfl dX5_refusalAsLaw_14
  · replace hf := (if_neg c4).symm.trans hf
    refine r_bipush (x := (-11 : Int32)) dX5_refusalAsLaw_7 (by decide) ?_
    refine r_goto (tgt := 14) dX5_refusalAsLaw_9 (by decide) ?_
    have hf := Option.some.inj hf
    subst hf
    exact r_iret rfl dX5_refusalAsLaw_14
/-! ===== NumberedByAge$Shelf.<init>()V ===== -/
abbrev M_X5_init : Mx := (cX5_init, 1, RX5, (true, []), none, 1, 20)
def f_X5_init (h : Hp) (this : Nat) : Option Hp :=
    (pF h (some this) [5] 1 (vI (-1 : Int32))).bind fun h6 =>
    (pF (h6 ++ [eI 100 (fun _ => 0)]) (some this) [5] 3 (vR (some h6.length))).bind fun h14 =>
    some h14
set_option maxRecDepth 100000 in
set_option maxHeartbeats 4000000 in
theorem k_X5_init (G : Gx) (l : Launch) {h : Hp} {this : Nat} {r : Hp} (hf : f_X5_init h this = some r) : KM l yX5_init (.code yX5_init cX5_init 1 none :: wsK) 1 20 G [vR (some this)] h none r := by
  refine r_entry (ctor := true) (own := RX5) (by decide +kernel) rfl (fun _ => rfl) (Nat.le_of_ble_eq_true rfl) ?_
  show RJ G l M_X5_init none r 0 [(0, vR (some this))] [] h
  unfold f_X5_init at hf
  refine r_aload_n 0 dX5_init_0 rfl ?_
  refine r_objInit dX5_init_1 kw_1_103 kw_1_28 kw_1_29 ⟨Nat.le_of_ble_eq_true rfl, Nat.le_of_ble_eq_true rfl⟩ (Nat.le_of_ble_eq_true rfl) ?_
  refine r_aload_n 0 dX5_init_4 rfl ?_
  refine r_iconst (x := (-1 : Int32)) dX5_init_5 (by decide) ?_
  obtain ⟨h6, e6, hf⟩ := ob hf
  refine r_put dX5_init_6 fl_5_1 kw_1_106 (Or.inl rfl) (by decide +kernel) (fit_int _) e6 ?_
  refine r_aload_n 0 dX5_init_9 rfl ?_
  refine r_bipush (x := (100 : Int32)) dX5_init_10 (by decide) ?_
  refine r_newI (n := 100) dX5_init_12 kw_1_61 (by decide) (by decide) (by decide) ?_
  obtain ⟨h14, e14, hf⟩ := ob hf
  refine r_putF dX5_init_14 fl_5_3 kw_1_110 (Or.inl rfl) rfl rfl (by decide +kernel) (fit_arr .int _) e14 ?_
  have hf := Option.some.inj hf
  subst hf
  exact r_vret rfl dX5_init_17
/-! ===== NumberedByAge$Shelf.refusalAsRowOf(I)I ===== -/
abbrev M_X5_refusalAsRowOf : Mx := (cX5_refusalAsRowOf, 2, RX5, (false, []), (some .int), 1, 20)
def f_X5_refusalAsRowOf (h : Hp) (this : Nat) (x1 : Int32) : Option Int32 :=
    (rcv h (some this) 5).bind fun a1 =>
    (f_X5_holdsNothing h a1).bind fun v1 =>
    if v1 = 0 then
      (gI h (some this) [5] 1).bind fun v11 =>
      if v11 = x1 then
        some (0 : Int32)
      else
        some (-12 : Int32)
    else
      some (-11 : Int32)
set_option maxRecDepth 100000 in
set_option maxHeartbeats 4000000 in
theorem k_X5_refusalAsRowOf (G : Gx) (l : Launch) {h : Hp} {this : Nat} {x1 : Int32} {r : Int32} (hf : f_X5_refusalAsRowOf h this x1 = some r) : KM l yX5_refusalAsRowOf (.code yX5_refusalAsRowOf cX5_refusalAsRowOf 2 (some .int) :: wsK) 1 20 G [vR (some this), vI x1] h (some (vI r)) h := by
  refine r_entry (ctor := false) (own := RX5) (by decide +kernel) rfl (fun q => by cases q) (Nat.le_of_ble_eq_true rfl) ?_
  show RJ G l M_X5_refusalAsRowOf (some (vI r)) h 0 [(0, vR (some this)), (1, vI x1)] [] h
  unfold f_X5_refusalAsRowOf at hf
  refine r_aload_n 0 dX5_refusalAsRowOf_0 rfl ?_
  obtain ⟨a1, ea1, hf⟩ := ob hf
  obtain ⟨v1, e1, hf⟩ := ob hf
  refine r_callV (y := yX5_holdsNothing) (ci := 5) (avs := []) dX5_refusalAsRowOf_1 rfl kw_1_149 kw_1_150 kw_1_151 kw_1_4 kw_1_152 oky_X5_holdsNothing ⟨Nat.le_of_ble_eq_true rfl, Nat.le_of_ble_eq_true rfl⟩ rfl (Nat.le_of_ble_eq_true rfl) ea1 (k_X5_holdsNothing G l e1) ?_
  refine r_if_eq (tgt := 10) dX5_refusalAsRowOf_4 (by decide) (fun c4 => ?_) (fun c4 => ?_)
  · replace hf := (if_pos c4).symm.trans hf
    refine r_aload_n 0 dX5_refusalAsRowOf_10 rfl ?_
    obtain ⟨v11, e11, hf⟩ := ob hf
    refine r_get dX5_refusalAsRowOf_11 fl_5_1 kw_1_106 (Or.inl rfl) (gI_sp e11) ?_
    refine r_iload_n 1 dX5_refusalAsRowOf_14 rfl ?_
    refine r_icmp_ne (tgt := 22) dX5_refusalAsRowOf_15 (by decide) (fun c15 => ?_) (fun c15 => ?_)
    · replace hf := (if_pos c15).symm.trans hf
      refine r_iconst (x := (0 : Int32)) dX5_refusalAsRowOf_18 (by decide) ?_
      refine r_goto (tgt := 24) dX5_refusalAsRowOf_19 (by decide) ?_
      have hf := Option.some.inj hf
      subst hf
      exact r_iret rfl dX5_refusalAsRowOf_24
    · replace hf := (if_neg c15).symm.trans hf
      refine r_bipush (x := (-12 : Int32)) dX5_refusalAsRowOf_22 (by decide) ?_
      have hf := Option.some.inj hf
      subst hf
      exact r_iret rfl dX5_refusalAsRowOf_24
  · replace hf := (if_neg c4).symm.trans hf
    refine r_bipush (x := (-11 : Int32)) dX5_refusalAsRowOf_7 (by decide) ?_
    have hf := Option.some.inj hf
    subst hf
    exact r_iret rfl dX5_refusalAsRowOf_9
/-! ===== NumberedByAge$Shelf.refusalAsRow()I ===== -/
abbrev M_X5_refusalAsRow : Mx := (cX5_refusalAsRow, 1, RX5, (false, []), (some .int), 1, 20)
def f_X5_refusalAsRow (h : Hp) (this : Nat) : Option Int32 :=
    (rcv h (some this) 5).bind fun a1 =>
    (f_X5_holdsNothing h a1).bind fun v1 =>
    if v1 = 0 then
      (rcv h (some this) 5).bind fun a11 =>
      (f_X5_holdsRow h a11).bind fun v11 =>
      if v11 = 0 then
        some (-12 : Int32)
      else
        some (0 : Int32)
    else
      some (-11 : Int32)
set_option maxRecDepth 100000 in
set_option maxHeartbeats 4000000 in
theorem k_X5_refusalAsRow (G : Gx) (l : Launch) {h : Hp} {this : Nat} {r : Int32} (hf : f_X5_refusalAsRow h this = some r) : KM l yX5_refusalAsRow (.code yX5_refusalAsRow cX5_refusalAsRow 1 (some .int) :: wsK) 1 20 G [vR (some this)] h (some (vI r)) h := by
  refine r_entry (ctor := false) (own := RX5) (by decide +kernel) rfl (fun q => by cases q) (Nat.le_of_ble_eq_true rfl) ?_
  show RJ G l M_X5_refusalAsRow (some (vI r)) h 0 [(0, vR (some this))] [] h
  unfold f_X5_refusalAsRow at hf
  refine r_aload_n 0 dX5_refusalAsRow_0 rfl ?_
  obtain ⟨a1, ea1, hf⟩ := ob hf
  obtain ⟨v1, e1, hf⟩ := ob hf
  refine r_callV (y := yX5_holdsNothing) (ci := 5) (avs := []) dX5_refusalAsRow_1 rfl kw_1_149 kw_1_150 kw_1_151 kw_1_4 kw_1_152 oky_X5_holdsNothing ⟨Nat.le_of_ble_eq_true rfl, Nat.le_of_ble_eq_true rfl⟩ rfl (Nat.le_of_ble_eq_true rfl) ea1 (k_X5_holdsNothing G l e1) ?_
  refine r_if_eq (tgt := 10) dX5_refusalAsRow_4 (by decide) (fun c4 => ?_) (fun c4 => ?_)
  · replace hf := (if_pos c4).symm.trans hf
    refine r_aload_n 0 dX5_refusalAsRow_10 rfl ?_
    obtain ⟨a11, ea11, hf⟩ := ob hf
    obtain ⟨v11, e11, hf⟩ := ob hf
    refine r_callV (y := yX5_holdsRow) (ci := 5) (avs := []) dX5_refusalAsRow_11 rfl kw_3_52 kw_3_53 kw_3_54 kw_1_4 kw_3_55 oky_X5_holdsRow ⟨Nat.le_of_ble_eq_true rfl, Nat.le_of_ble_eq_true rfl⟩ rfl (Nat.le_of_ble_eq_true rfl) ea11 (k_X5_holdsRow G l e11) ?_
    refine r_if_eq (tgt := 21) dX5_refusalAsRow_14 (by decide) (fun c14 => ?_) (fun c14 => ?_)
    · replace hf := (if_pos c14).symm.trans hf
      refine r_bipush (x := (-12 : Int32)) dX5_refusalAsRow_21 (by decide) ?_
      have hf := Option.some.inj hf
      subst hf
      exact r_iret rfl dX5_refusalAsRow_23
    · replace hf := (if_neg c14).symm.trans hf
      refine r_iconst (x := (0 : Int32)) dX5_refusalAsRow_17 (by decide) ?_
      refine r_goto (tgt := 23) dX5_refusalAsRow_18 (by decide) ?_
      have hf := Option.some.inj hf
      subst hf
      exact r_iret rfl dX5_refusalAsRow_23
  · replace hf := (if_neg c4).symm.trans hf
    refine r_bipush (x := (-11 : Int32)) dX5_refusalAsRow_7 (by decide) ?_
    have hf := Option.some.inj hf
    subst hf
    exact r_iret rfl dX5_refusalAsRow_9
/-! ===== NumberedByAge$Shelf.leastOfSort()I ===== -/
abbrev M_X5_leastOfSort : Mx := (cX5_leastOfSort, 1, RX5, (false, []), (some .int), 0, 0)
def f_X5_leastOfSort (h : Hp) (this : Nat) : Option Int32 :=
    (gI h (some this) [5] 1).bind fun v1 =>
    if v1 = (0 : Int32) then
      some (-128 : Int32)
    else
    if v1 = (1 : Int32) then
      some (-32768 : Int32)
    else
      some (-2147483648 : Int32)
set_option maxRecDepth 100000 in
set_option maxHeartbeats 4000000 in
theorem k_X5_leastOfSort (G : Gx) (l : Launch) {h : Hp} {this : Nat} {r : Int32} (hf : f_X5_leastOfSort h this = some r) : KM l yX5_leastOfSort (.code yX5_leastOfSort cX5_leastOfSort 1 (some .int) :: wsK) 0 0 G [vR (some this)] h (some (vI r)) h := by
  refine r_entry (ctor := false) (own := RX5) (by decide +kernel) rfl (fun q => by cases q) (Nat.le_of_ble_eq_true rfl) ?_
  show RJ G l M_X5_leastOfSort (some (vI r)) h 0 [(0, vR (some this))] [] h
  unfold f_X5_leastOfSort at hf
  refine r_aload_n 0 dX5_leastOfSort_0 rfl ?_
  obtain ⟨v1, e1, hf⟩ := ob hf
  refine r_get dX5_leastOfSort_1 fl_5_1 kw_1_106 (Or.inl rfl) (gI_sp e1) ?_
  by_cases c4_0 : v1 = (0 : Int32)
  · replace hf := (if_pos c4_0).symm.trans hf
    refine r_lookup (off := 28) (tgt := 32) dX5_leastOfSort_4 (by decide) (by rw [c4_0]; decide +kernel) (by decide) ?_
    refine r_bipush (x := (-128 : Int32)) dX5_leastOfSort_32 (by decide) ?_
    have hf := Option.some.inj hf
    subst hf
    exact r_iret rfl dX5_leastOfSort_34
  · replace hf := (if_neg c4_0).symm.trans hf
    by_cases c4_1 : v1 = (1 : Int32)
    · replace hf := (if_pos c4_1).symm.trans hf
      refine r_lookup (off := 31) (tgt := 35) dX5_leastOfSort_4 (by decide) (by rw [c4_1]; decide +kernel) (by decide) ?_
      refine r_sipush (x := (-32768 : Int32)) dX5_leastOfSort_35 (by decide) ?_
      have hf := Option.some.inj hf
      subst hf
      exact r_iret rfl dX5_leastOfSort_38
    · replace hf := (if_neg c4_1).symm.trans hf
      refine r_lookup (off := 35) (tgt := 39) dX5_leastOfSort_4 (by decide) (by show Op.lookupswitch.offset [(0, 28), (1, 31)] 35 _ = _; rw [lv_osw (k := (0 : Int32)) c4_0 (by decide), lv_osw (k := (1 : Int32)) c4_1 (by decide)]; rfl) (by decide) ?_
      refine r_ldc (x := (-2147483648 : Int32)) dX5_leastOfSort_39 kw_3_60 ?_
      have hf := Option.some.inj hf
      subst hf
      exact r_iret rfl dX5_leastOfSort_41
/-! ===== NumberedByAge$Shelf.hold(LNumberedByAge$Law;)V ===== -/
abbrev M_X5_hold : Mx := (cX5_hold, 2, RX5, (false, []), none, 0, 0)
def f_X5_hold (h : Hp) (this : Nat) (x1 : Option Nat) : Option Hp :=
    (pF h (some this) [5] 0 (vR x1)).bind fun h2 =>
    (pF h2 (some this) [5] 1 (vI (-1 : Int32))).bind fun h7 =>
    (pF h7 (some this) [5] 2 (vI (0 : Int32))).bind fun h12 =>
    some h12
set_option maxRecDepth 100000 in
set_option maxHeartbeats 4000000 in
theorem k_X5_hold (G : Gx) (l : Launch) {h : Hp} {this : Nat} {x1 : Option Nat} {r : Hp} (hf : f_X5_hold h this x1 = some r) : KM l yX5_hold (.code yX5_hold cX5_hold 2 none :: wsK) 0 0 G [vR (some this), vR x1] h none r := by
  refine r_entry (ctor := false) (own := RX5) (by decide +kernel) rfl (fun q => by cases q) (Nat.le_of_ble_eq_true rfl) ?_
  show RJ G l M_X5_hold none r 0 [(0, vR (some this)), (1, vR x1)] [] h
  unfold f_X5_hold at hf
  refine r_aload_n 0 dX5_hold_0 rfl ?_
  refine r_aload_n 1 dX5_hold_1 rfl ?_
  obtain ⟨h2, e2, hf⟩ := ob hf
  refine r_put dX5_hold_2 fl_5_0 kw_1_104 (Or.inl rfl) (by decide +kernel) (fit_ref "NumberedByAge$Law" _) e2 ?_
  refine r_aload_n 0 dX5_hold_5 rfl ?_
  refine r_iconst (x := (-1 : Int32)) dX5_hold_6 (by decide) ?_
  obtain ⟨h7, e7, hf⟩ := ob hf
  refine r_put dX5_hold_7 fl_5_1 kw_1_106 (Or.inl rfl) (by decide +kernel) (fit_int _) e7 ?_
  refine r_aload_n 0 dX5_hold_10 rfl ?_
  refine r_iconst (x := (0 : Int32)) dX5_hold_11 (by decide) ?_
  obtain ⟨h12, e12, hf⟩ := ob hf
  refine r_put dX5_hold_12 fl_5_2 kw_1_108 (Or.inl rfl) (by decide +kernel) (fit_int _) e12 ?_
  have hf := Option.some.inj hf
  subst hf
  exact r_vret rfl dX5_hold_15
/-! ===== NumberedByAge$Shelf.kept(I)I ===== -/
abbrev M_X5_kept : Mx := (cX5_kept, 2, RX5, (false, []), (some .int), 0, 0)
def f_X5_kept (h : Hp) (this : Nat) (x1 : Int32) : Option Int32 :=
    (gI h (some this) [5] 1).bind fun v1 =>
    if v1 = (0 : Int32) then
      some x1.toInt8.toInt32
    else
    if v1 = (1 : Int32) then
      some x1.toInt16.toInt32
    else
      some x1
set_option maxRecDepth 100000 in
set_option maxHeartbeats 4000000 in
theorem k_X5_kept (G : Gx) (l : Launch) {h : Hp} {this : Nat} {x1 : Int32} {r : Int32} (hf : f_X5_kept h this x1 = some r) : KM l yX5_kept (.code yX5_kept cX5_kept 2 (some .int) :: wsK) 0 0 G [vR (some this), vI x1] h (some (vI r)) h := by
  refine r_entry (ctor := false) (own := RX5) (by decide +kernel) rfl (fun q => by cases q) (Nat.le_of_ble_eq_true rfl) ?_
  show RJ G l M_X5_kept (some (vI r)) h 0 [(0, vR (some this)), (1, vI x1)] [] h
  unfold f_X5_kept at hf
  refine r_aload_n 0 dX5_kept_0 rfl ?_
  obtain ⟨v1, e1, hf⟩ := ob hf
  refine r_get dX5_kept_1 fl_5_1 kw_1_106 (Or.inl rfl) (gI_sp e1) ?_
  by_cases c4_0 : v1 = (0 : Int32)
  · replace hf := (if_pos c4_0).symm.trans hf
    refine r_lookup (off := 28) (tgt := 32) dX5_kept_4 (by decide) (by rw [c4_0]; decide +kernel) (by decide) ?_
    refine r_iload_n 1 dX5_kept_32 rfl ?_
    refine r_i2b dX5_kept_33 ?_
    have hf := Option.some.inj hf
    subst hf
    exact r_iret rfl dX5_kept_34
  · replace hf := (if_neg c4_0).symm.trans hf
    by_cases c4_1 : v1 = (1 : Int32)
    · replace hf := (if_pos c4_1).symm.trans hf
      refine r_lookup (off := 31) (tgt := 35) dX5_kept_4 (by decide) (by rw [c4_1]; decide +kernel) (by decide) ?_
      refine r_iload_n 1 dX5_kept_35 rfl ?_
      refine r_i2s dX5_kept_36 ?_
      have hf := Option.some.inj hf
      subst hf
      exact r_iret rfl dX5_kept_37
    · replace hf := (if_neg c4_1).symm.trans hf
      refine r_lookup (off := 34) (tgt := 38) dX5_kept_4 (by decide) (by show Op.lookupswitch.offset [(0, 28), (1, 31)] 34 _ = _; rw [lv_osw (k := (0 : Int32)) c4_0 (by decide), lv_osw (k := (1 : Int32)) c4_1 (by decide)]; rfl) (by decide) ?_
      refine r_iload_n 1 dX5_kept_38 rfl ?_
      have hf := Option.some.inj hf
      subst hf
      exact r_iret rfl dX5_kept_39
/-! ===== NumberedByAge$Shelf.set(II)V ===== -/
abbrev M_X5_set : Mx := (cX5_set, 3, RX5, (false, []), none, 1, 21)
def f_X5_set (h : Hp) (this : Nat) (x1 : Int32) (x2 : Int32) : Option Hp :=
    (rcv h (some this) 5).bind fun a2 =>
    (f_X5_hasPlace h a2 x1).bind fun v2 =>
    if v2 = 0 then
      some h
    else
      if (100 : Int32) ≤ x1 then
        some h
      else
        (gR h (some this) [5] 3).bind fun v15 =>
        (rcv h (some this) 5).bind fun a21 =>
        (f_X5_kept h a21 x2).bind fun v21 =>
        (wI h v15 x1 v21).bind fun h24 =>
        some h24
set_option maxRecDepth 100000 in
set_option maxHeartbeats 4000000 in
theorem k_X5_set (G : Gx) (l : Launch) {h : Hp} {this : Nat} {x1 : Int32} {x2 : Int32} {r : Hp} (hf : f_X5_set h this x1 x2 = some r) : KM l yX5_set (.code yX5_set cX5_set 3 none :: wsK) 1 21 G [vR (some this), vI x1, vI x2] h none r := by
  refine r_entry (ctor := false) (own := RX5) (by decide +kernel) rfl (fun q => by cases q) (Nat.le_of_ble_eq_true rfl) ?_
  show RJ G l M_X5_set none r 0 [(0, vR (some this)), (1, vI x1), (2, vI x2)] [] h
  unfold f_X5_set at hf
  refine r_aload_n 0 dX5_set_0 rfl ?_
  refine r_iload_n 1 dX5_set_1 rfl ?_
  obtain ⟨a2, ea2, hf⟩ := ob hf
  obtain ⟨v2, e2, hf⟩ := ob hf
  refine r_callV (y := yX5_hasPlace) (ci := 5) (avs := [vI x1]) dX5_set_2 rfl kw_1_163 kw_1_164 kw_1_165 kw_1_4 kw_1_166 oky_X5_hasPlace ⟨Nat.le_of_ble_eq_true rfl, Nat.le_of_ble_eq_true rfl⟩ rfl (Nat.le_of_ble_eq_true rfl) ea2 (k_X5_hasPlace G l e2) ?_
  refine r_if_eq (tgt := 25) dX5_set_5 (by decide) (fun c5 => ?_) (fun c5 => ?_)
  · replace hf := (if_pos c5).symm.trans hf
    have hf := Option.some.inj hf
    subst hf
    exact r_vret rfl dX5_set_25
  · replace hf := (if_neg c5).symm.trans hf
    refine r_iload_n 1 dX5_set_8 rfl ?_
    refine r_bipush (x := (100 : Int32)) dX5_set_9 (by decide) ?_
    refine r_icmp_ge (tgt := 25) dX5_set_11 (by decide) (fun c11 => ?_) (fun c11 => ?_)
    · replace hf := (if_pos c11).symm.trans hf
      have hf := Option.some.inj hf
      subst hf
      exact r_vret rfl dX5_set_25
    · replace hf := (if_neg c11).symm.trans hf
      refine r_aload_n 0 dX5_set_14 rfl ?_
      obtain ⟨v15, e15, hf⟩ := ob hf
      refine r_get dX5_set_15 fl_5_3 kw_1_110 (Or.inl rfl) (gR_sp e15) ?_
      refine r_iload_n 1 dX5_set_18 rfl ?_
      refine r_aload_n 0 dX5_set_19 rfl ?_
      refine r_iload_n 2 dX5_set_20 rfl ?_
      obtain ⟨a21, ea21, hf⟩ := ob hf
      obtain ⟨v21, e21, hf⟩ := ob hf
      refine r_callV (y := yX5_kept) (ci := 5) (avs := [vI x2]) dX5_set_21 rfl kw_3_99 kw_3_101 kw_0_12 kw_1_4 kw_3_102 oky_X5_kept ⟨Nat.le_of_ble_eq_true rfl, Nat.le_of_ble_eq_true rfl⟩ rfl (Nat.le_of_ble_eq_true rfl) ea21 (k_X5_kept G l e21) ?_
      obtain ⟨h24, e24, hf⟩ := ob hf
      refine r_iastore dX5_set_24 e24 ?_
      have hf := Option.some.inj hf
      subst hf
      exact r_vret rfl dX5_set_25
/-! ===== NumberedByAge$Shelf.holdRow(II)V ===== -/
abbrev M_X5_holdRow : Mx := (cX5_holdRow, 3, RX5, (false, []), none, 1, 23)
def f_X5_holdRow (h : Hp) (this : Nat) (x1 : Int32) (x2 : Int32) : Option Hp :=
    (pF h (some this) [5] 0 (vR none)).bind fun h2 =>
    (pF h2 (some this) [5] 1 (vI x1)).bind fun h7 =>
    (pF h7 (some this) [5] 2 (vI x2)).bind fun h12 =>
    (gR h12 (some this) [5] 3).bind fun v16 =>
    (f_J7_fill_53178 h12 v16 (0 : Int32)).bind fun h20 =>
    some h20
set_option maxRecDepth 100000 in
set_option maxHeartbeats 4000000 in
theorem k_X5_holdRow (G : Gx) (l : Launch) {h : Hp} {this : Nat} {x1 : Int32} {x2 : Int32} {r : Hp} (hf : f_X5_holdRow h this x1 x2 = some r) : KM l yX5_holdRow (.code yX5_holdRow cX5_holdRow 3 none :: wsK) 1 23 G [vR (some this), vI x1, vI x2] h none r := by
  refine r_entry (ctor := false) (own := RX5) (by decide +kernel) rfl (fun q => by cases q) (Nat.le_of_ble_eq_true rfl) ?_
  show RJ G l M_X5_holdRow none r 0 [(0, vR (some this)), (1, vI x1), (2, vI x2)] [] h
  unfold f_X5_holdRow at hf
  refine r_aload_n 0 dX5_holdRow_0 rfl ?_
  refine r_null dX5_holdRow_1 ?_
  obtain ⟨h2, e2, hf⟩ := ob hf
  refine r_put dX5_holdRow_2 fl_5_0 kw_1_104 (Or.inl rfl) (by decide +kernel) (fit_ref "NumberedByAge$Law" _) e2 ?_
  refine r_aload_n 0 dX5_holdRow_5 rfl ?_
  refine r_iload_n 1 dX5_holdRow_6 rfl ?_
  obtain ⟨h7, e7, hf⟩ := ob hf
  refine r_put dX5_holdRow_7 fl_5_1 kw_1_106 (Or.inl rfl) (by decide +kernel) (fit_int _) e7 ?_
  refine r_aload_n 0 dX5_holdRow_10 rfl ?_
  refine r_iload_n 2 dX5_holdRow_11 rfl ?_
  obtain ⟨h12, e12, hf⟩ := ob hf
  refine r_put dX5_holdRow_12 fl_5_2 kw_1_108 (Or.inl rfl) (by decide +kernel) (fit_int _) e12 ?_
  refine r_aload_n 0 dX5_holdRow_15 rfl ?_
  obtain ⟨v16, e16, hf⟩ := ob hf
  refine r_get dX5_holdRow_16 fl_5_3 kw_1_110 (Or.inl rfl) (gR_sp e16) ?_
  refine r_iconst (x := (0 : Int32)) dX5_holdRow_19 (by decide) ?_
  obtain ⟨h20, e20, hf⟩ := ob hf
  refine r_callS (y := yJ7_fill_53178) (avs := [vR v16, vI (0 : Int32)]) dX5_holdRow_20 kw_3_89 kw_2_219 kw_1_15 kw_2_220 oky_J7_fill_53178 ⟨Nat.le_of_ble_eq_true rfl, Nat.le_of_ble_eq_true rfl⟩ rfl (Nat.le_of_ble_eq_true rfl) (k_J7_fill_53178 G l e20) ?_
  refine r_pc (pc' := 23) rfl ?_
  have hf := Option.some.inj hf
  subst hf
  exact r_vret rfl dX5_holdRow_23
/-! ===== NumberedByAge$High.levy()I ===== -/
abbrev M_X1_levy : Mx := (cX1_levy, 1, RX1, (false, []), (some .int), 1, 20)
def f_X1_levy (h : Hp) (this : Nat) : Option Int32 :=
    (rcl h (some this)).bind fun a2 =>
    (f_X3_levy h a2.1).bind fun v2 =>
    some ((2 : Int32) * v2)
set_option maxRecDepth 100000 in
set_option maxHeartbeats 4000000 in
theorem k_X1_levy (G : Gx) (l : Launch) {h : Hp} {this : Nat} {r : Int32} (hf : f_X1_levy h this = some r) : KM l yX1_levy (.code yX1_levy cX1_levy 1 (some .int) :: wsK) 1 20 G [vR (some this)] h (some (vI r)) h := by
  refine r_entry (ctor := false) (own := RX1) (by decide +kernel) rfl (fun q => by cases q) (Nat.le_of_ble_eq_true rfl) ?_
  show RJ G l M_X1_levy (some (vI r)) h 0 [(0, vR (some this))] [] h
  unfold f_X1_levy at hf
  refine r_iconst (x := (2 : Int32)) dX1_levy_0 (by decide) ?_
  refine r_aload_n 0 dX1_levy_1 rfl ?_
  obtain ⟨a2, ea2, hf⟩ := ob hf
  obtain ⟨v2, e2, hf⟩ := ob hf
  refine r_callSU (y := yX3_levy) (avs := []) dX1_levy_2 kw_3_129 kw_3_121 kw_1_221 kw_3_119 kw_1_3 kw_3_147 ⟨by decide +kernel, oky_X3_levy.2.2⟩ ⟨Nat.le_of_ble_eq_true rfl, Nat.le_of_ble_eq_true rfl⟩ rfl (Nat.le_of_ble_eq_true rfl) ea2 (k_X3_levy G l e2) ?_
  refine r_imul dX1_levy_5 ?_
  have hf := Option.some.inj hf
  subst hf
  exact r_iret rfl dX1_levy_6
/-! ===== NumberedByAge$Last.levy()I ===== -/
abbrev M_X2_levy : Mx := (cX2_levy, 1, RX2, (false, []), (some .int), 2, 40)
def f_X2_levy (h : Hp) (this : Nat) : Option Int32 :=
    (rcl h (some this)).bind fun a2 =>
    (f_X0_levy h a2.1).bind fun v2 =>
    some ((2 : Int32) * v2)
set_option maxRecDepth 100000 in
set_option maxHeartbeats 4000000 in
theorem k_X2_levy (G : Gx) (l : Launch) {h : Hp} {this : Nat} {r : Int32} (hf : f_X2_levy h this = some r) : KM l yX2_levy (.code yX2_levy cX2_levy 1 (some .int) :: wsK) 2 40 G [vR (some this)] h (some (vI r)) h := by
  refine r_entry (ctor := false) (own := RX2) (by decide +kernel) rfl (fun q => by cases q) (Nat.le_of_ble_eq_true rfl) ?_
  show RJ G l M_X2_levy (some (vI r)) h 0 [(0, vR (some this))] [] h
  unfold f_X2_levy at hf
  refine r_iconst (x := (2 : Int32)) dX2_levy_0 (by decide) ?_
  refine r_aload_n 0 dX2_levy_1 rfl ?_
  obtain ⟨a2, ea2, hf⟩ := ob hf
  obtain ⟨v2, e2, hf⟩ := ob hf
  refine r_callSU (y := yX0_levy) (avs := []) dX2_levy_2 kw_3_133 kw_5_198 kw_1_226 kw_3_123 kw_1_8 kw_3_124 ⟨by decide +kernel, oky_X0_levy.2.2⟩ ⟨Nat.le_of_ble_eq_true rfl, Nat.le_of_ble_eq_true rfl⟩ rfl (Nat.le_of_ble_eq_true rfl) ea2 (k_X0_levy G l e2) ?_
  refine r_imul dX2_levy_5 ?_
  have hf := Option.some.inj hf
  subst hf
  exact r_iret rfl dX2_levy_6
/-! ===== NumberedByAge$Quarter.levy()I ===== -/
abbrev M_X4_levy : Mx := (cX4_levy, 1, RX4, (false, []), (some .int), 1, 20)
def f_X4_levy (h : Hp) (this : Nat) : Option Int32 :=
    (rcl h (some this)).bind fun a1 =>
    (f_X3_levy h a1.1).bind fun v1 =>
    some (v1 - (1 : Int32))
set_option maxRecDepth 100000 in
set_option maxHeartbeats 4000000 in
theorem k_X4_levy (G : Gx) (l : Launch) {h : Hp} {this : Nat} {r : Int32} (hf : f_X4_levy h this = some r) : KM l yX4_levy (.code yX4_levy cX4_levy 1 (some .int) :: wsK) 1 20 G [vR (some this)] h (some (vI r)) h := by
  refine r_entry (ctor := false) (own := RX4) (by decide +kernel) rfl (fun q => by cases q) (Nat.le_of_ble_eq_true rfl) ?_
  show RJ G l M_X4_levy (some (vI r)) h 0 [(0, vR (some this))] [] h
  unfold f_X4_levy at hf
  refine r_aload_n 0 dX4_levy_0 rfl ?_
  obtain ⟨a1, ea1, hf⟩ := ob hf
  obtain ⟨v1, e1, hf⟩ := ob hf
  refine r_callSU (y := yX3_levy) (avs := []) dX4_levy_1 kw_3_137 kw_3_121 kw_2_47 kw_3_119 kw_1_3 kw_3_147 ⟨by decide +kernel, oky_X3_levy.2.2⟩ ⟨Nat.le_of_ble_eq_true rfl, Nat.le_of_ble_eq_true rfl⟩ rfl (Nat.le_of_ble_eq_true rfl) ea1 (k_X3_levy G l e1) ?_
  refine r_iconst (x := (1 : Int32)) dX4_levy_4 (by decide) ?_
  refine r_isub dX4_levy_5 ?_
  have hf := Option.some.inj hf
  subst hf
  exact r_iret rfl dX4_levy_6
/-! ===== NumberedByAge$Side.levy()I ===== -/
abbrev M_X6_levy : Mx := (cX6_levy, 1, RX6, (false, []), (some .int), 2, 40)
def f_X6_levy (h : Hp) (this : Nat) : Option Int32 :=
    (rcl h (some this)).bind fun a1 =>
    (f_X4_levy h a1.1).bind fun v1 =>
    (gI h (some this) lws 1).bind fun v5 =>
    some (v1 - v5)
set_option maxRecDepth 100000 in
set_option maxHeartbeats 4000000 in
theorem k_X6_levy (G : Gx) (l : Launch) {h : Hp} {this : Nat} {r : Int32} (hf : f_X6_levy h this = some r) : KM l yX6_levy (.code yX6_levy cX6_levy 1 (some .int) :: wsK) 2 40 G [vR (some this)] h (some (vI r)) h := by
  refine r_entry (ctor := false) (own := RX6) (by decide +kernel) rfl (fun q => by cases q) (Nat.le_of_ble_eq_true rfl) ?_
  show RJ G l M_X6_levy (some (vI r)) h 0 [(0, vR (some this))] [] h
  unfold f_X6_levy at hf
  refine r_aload_n 0 dX6_levy_0 rfl ?_
  obtain ⟨a1, ea1, hf⟩ := ob hf
  obtain ⟨v1, e1, hf⟩ := ob hf
  refine r_callSU (y := yX4_levy) (avs := []) dX6_levy_1 kw_3_141 kw_5_199 kw_2_5 kw_3_135 kw_1_9 kw_3_136 ⟨by decide +kernel, oky_X4_levy.2.2⟩ ⟨Nat.le_of_ble_eq_true rfl, Nat.le_of_ble_eq_true rfl⟩ rfl (Nat.le_of_ble_eq_true rfl) ea1 (k_X4_levy G l e1) ?_
  refine r_aload_n 0 dX6_levy_4 rfl ?_
  obtain ⟨v5, e5, hf⟩ := ob hf
  refine r_get dX6_levy_5 fl_L_1 kw_1_53 (Or.inr kw_1_54) (gI_sp e5) ?_
  refine r_isub dX6_levy_8 ?_
  have hf := Option.some.inj hf
  subst hf
  exact r_iret rfl dX6_levy_9
/-! ===== NumberedByAge$Skip.levy()I ===== -/
abbrev M_X7_levy : Mx := (cX7_levy, 1, RX7, (false, []), (some .int), 1, 20)
def f_X7_levy (h : Hp) (this : Nat) : Option Int32 :=
    (rcl h (some this)).bind fun a1 =>
    (f_X3_levy h a1.1).bind fun v1 =>
    some (v1 + (4 : Int32))
set_option maxRecDepth 100000 in
set_option maxHeartbeats 4000000 in
theorem k_X7_levy (G : Gx) (l : Launch) {h : Hp} {this : Nat} {r : Int32} (hf : f_X7_levy h this = some r) : KM l yX7_levy (.code yX7_levy cX7_levy 1 (some .int) :: wsK) 1 20 G [vR (some this)] h (some (vI r)) h := by
  refine r_entry (ctor := false) (own := RX7) (by decide +kernel) rfl (fun q => by cases q) (Nat.le_of_ble_eq_true rfl) ?_
  show RJ G l M_X7_levy (some (vI r)) h 0 [(0, vR (some this))] [] h
  unfold f_X7_levy at hf
  refine r_aload_n 0 dX7_levy_0 rfl ?_
  obtain ⟨a1, ea1, hf⟩ := ob hf
  obtain ⟨v1, e1, hf⟩ := ob hf
  refine r_callSU (y := yX3_levy) (avs := []) dX7_levy_1 kw_3_145 kw_3_121 kw_2_10 kw_3_119 kw_1_3 kw_3_147 ⟨by decide +kernel, oky_X3_levy.2.2⟩ ⟨Nat.le_of_ble_eq_true rfl, Nat.le_of_ble_eq_true rfl⟩ rfl (Nat.le_of_ble_eq_true rfl) ea1 (k_X3_levy G l e1) ?_
  refine r_iconst (x := (4 : Int32)) dX7_levy_4 (by decide) ?_
  refine r_iadd dX7_levy_5 ?_
  have hf := Option.some.inj hf
  subst hf
  exact r_iret rfl dX7_levy_6
def f_V_levy (h : Hp) (r : Option Nat)  : Option Int32 :=
  (rcl h r).bind fun q => if q.2 = 0 then f_X0_levy h q.1  else if q.2 = 1 then f_X1_levy h q.1  else if q.2 = 2 then f_X2_levy h q.1  else if q.2 = 3 then f_X3_levy h q.1  else if q.2 = 4 then f_X4_levy h q.1  else if q.2 = 6 then f_X6_levy h q.1  else if q.2 = 7 then f_X7_levy h q.1  else if q.2 = 9 then f_X3_levy h q.1  else none
set_option maxRecDepth 100000 in
set_option maxHeartbeats 4000000 in
theorem rv_levy {G : Gx} {l : Launch} {M : Mx} {Qf : List Frame → Array Value → State → Hp → State → Prop} {h' : Hp} {pc idx : Nat} {lv : List (Nat × Vv)} {st stk : List Vv} {h : Hp} {r : Option Nat}  {x : Int32} (hd : decode M.1 pc = .ok (.invokevirtual idx, 3)) (w1 : Cond.methodLink M.2.2.1 idx yX3_levy ∈ wsK) (hroom : 3 ≤ M.2.2.2.2.2.1 ∧ 60 ≤ M.2.2.2.2.2.2) (hs : [].reverse ++ vR r :: st = stk) (hst : (st.map vcat).sum ≤ 8) (e : f_V_levy h r  = some x) (K : RQ G l M Qf h' (pc + 3) lv (vI x :: st) h) : RQ G l M Qf h' pc lv stk h := by
  unfold f_V_levy at e
  obtain ⟨⟨a, ci⟩, ea, e⟩ := ob e
  dsimp only at e
  by_cases c0 : ci = 0
  · replace e := (if_pos c0).symm.trans e
    subst c0
    exact r_callO (y := yX0_levy) (x := yX3_levy) (ci := 0) (avs := []) hd rfl w1 kw_3_121 kw_3_119 kw_3_122 kw_3_123 kw_1_8 kw_3_124 kw_3_147 oky_X3_levy ⟨Nat.le_trans (Nat.le_of_ble_eq_true rfl) hroom.1, Nat.le_trans (Nat.le_of_ble_eq_true rfl) hroom.2⟩ hs hst ea (k_X0_levy G l e) K
  · replace e := (if_neg c0).symm.trans e
    by_cases c1 : ci = 1
    · replace e := (if_pos c1).symm.trans e
      subst c1
      exact r_callO (y := yX1_levy) (x := yX3_levy) (ci := 1) (avs := []) hd rfl w1 kw_3_121 kw_3_119 kw_3_126 kw_3_127 kw_1_10 kw_3_128 kw_3_147 oky_X3_levy ⟨Nat.le_trans (Nat.le_of_ble_eq_true rfl) hroom.1, Nat.le_trans (Nat.le_of_ble_eq_true rfl) hroom.2⟩ hs hst ea (k_X1_levy G l e) K
    · replace e := (if_neg c1).symm.trans e
      by_cases c2 : ci = 2
      · replace e := (if_pos c2).symm.trans e
        subst c2
        exact r_callO (y := yX2_levy) (x := yX3_levy) (ci := 2) (avs := []) hd rfl w1 kw_3_121 kw_3_119 kw_3_130 kw_3_131 kw_1_13 kw_3_132 kw_3_147 oky_X3_levy ⟨Nat.le_trans (Nat.le_of_ble_eq_true rfl) hroom.1, Nat.le_trans (Nat.le_of_ble_eq_true rfl) hroom.2⟩ hs hst ea (k_X2_levy G l e) K
      · replace e := (if_neg c2).symm.trans e
        by_cases c3 : ci = 3
        · replace e := (if_pos c3).symm.trans e
          subst c3
          exact r_callO (y := yX3_levy) (x := yX3_levy) (ci := 3) (avs := []) hd rfl w1 kw_3_121 kw_3_119 kw_3_120 kw_3_119 kw_1_3 kw_3_147 kw_3_147 oky_X3_levy ⟨Nat.le_trans (Nat.le_of_ble_eq_true rfl) hroom.1, Nat.le_trans (Nat.le_of_ble_eq_true rfl) hroom.2⟩ hs hst ea (k_X3_levy G l e) K
        · replace e := (if_neg c3).symm.trans e
          by_cases c4 : ci = 4
          · replace e := (if_pos c4).symm.trans e
            subst c4
            exact r_callO (y := yX4_levy) (x := yX3_levy) (ci := 4) (avs := []) hd rfl w1 kw_3_121 kw_3_119 kw_3_134 kw_3_135 kw_1_9 kw_3_136 kw_3_147 oky_X3_levy ⟨Nat.le_trans (Nat.le_of_ble_eq_true rfl) hroom.1, Nat.le_trans (Nat.le_of_ble_eq_true rfl) hroom.2⟩ hs hst ea (k_X4_levy G l e) K
          · replace e := (if_neg c4).symm.trans e
            by_cases c6 : ci = 6
            · replace e := (if_pos c6).symm.trans e
              subst c6
              exact r_callO (y := yX6_levy) (x := yX3_levy) (ci := 6) (avs := []) hd rfl w1 kw_3_121 kw_3_119 kw_3_138 kw_3_139 kw_1_14 kw_3_140 kw_3_147 oky_X3_levy ⟨Nat.le_trans (Nat.le_of_ble_eq_true rfl) hroom.1, Nat.le_trans (Nat.le_of_ble_eq_true rfl) hroom.2⟩ hs hst ea (k_X6_levy G l e) K
            · replace e := (if_neg c6).symm.trans e
              by_cases c7 : ci = 7
              · replace e := (if_pos c7).symm.trans e
                subst c7
                exact r_callO (y := yX7_levy) (x := yX3_levy) (ci := 7) (avs := []) hd rfl w1 kw_3_121 kw_3_119 kw_3_142 kw_3_143 kw_1_12 kw_3_144 kw_3_147 oky_X3_levy ⟨Nat.le_trans (Nat.le_of_ble_eq_true rfl) hroom.1, Nat.le_trans (Nat.le_of_ble_eq_true rfl) hroom.2⟩ hs hst ea (k_X7_levy G l e) K
              · replace e := (if_neg c7).symm.trans e
                by_cases c9 : ci = 9
                · replace e := (if_pos c9).symm.trans e
                  subst c9
                  exact r_callO (y := yX3_levy) (x := yX3_levy) (ci := 9) (avs := []) hd rfl w1 kw_3_121 kw_3_119 kw_3_146 kw_3_119 kw_1_3 kw_3_147 kw_3_147 oky_X3_levy ⟨Nat.le_trans (Nat.le_of_ble_eq_true rfl) hroom.1, Nat.le_trans (Nat.le_of_ble_eq_true rfl) hroom.2⟩ hs hst ea (k_X3_levy G l e) K
                · replace e := (if_neg c9).symm.trans e
                  cases e

/-! ===== NumberedByAge$Twice.fail()V ===== -/
abbrev M_X9_fail : Mx := (cX9_fail, 1, RX9, (false, []), none, 0, 0)
def f_X9_fail (h : Hp) (this : Nat) : Option Unit :=
    some ()
set_option maxRecDepth 100000 in
set_option maxHeartbeats 4000000 in
theorem k_X9_fail (G : Gx) (l : Launch) {h : Hp} {this : Nat} {r : Unit} (hf : f_X9_fail h this = some r) : KM l yX9_fail (.code yX9_fail cX9_fail 1 none :: wsK) 0 0 G [vR (some this)] h none h := by
  refine r_entry (ctor := false) (own := RX9) (by decide +kernel) rfl (fun q => by cases q) (Nat.le_of_ble_eq_true rfl) ?_
  show RJ G l M_X9_fail none h 0 [(0, vR (some this))] [] h
  unfold f_X9_fail at hf
  have hf := Option.some.inj hf
  subst hf
  exact r_vret rfl dX9_fail_0
