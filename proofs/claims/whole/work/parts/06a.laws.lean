/-! ===== java/util/Arrays.fill([II)V ===== -/
abbrev M_J7_fill_53178 : Mx := (cJ7_fill_53178, 4, RJ7, (false, []), none, 0, 0)
def f_J7_fill_53178_5  : Nat → Hp → (Option Nat) → Int32 → Int32 → Int32 → Option Hp
  | 0, _, _, _, _, _ => none
  | n + 1, h, x0, x1, x2, x3 =>
    if x3 ≤ x2 then
      some h
    else
      (wI h x0 x2 x1).bind fun h13 =>
      (f_J7_fill_53178_5 n) h13 x0 x1 (x2 + 1) x3
set_option maxRecDepth 100000 in
set_option maxHeartbeats 4000000 in
theorem t_J7_fill_53178_5 (G : Gx) (l : Launch)   : ∀ (n : Nat) (h : Hp) (x0 : Option Nat) (x1 : Int32) (x2 : Int32) (x3 : Int32) (r : Hp), f_J7_fill_53178_5 n h x0 x1 x2 x3 = some r → RJ G l M_J7_fill_53178 none r 5 [(0, vR x0), (1, vI x1), (2, vI x2), (3, vI x3)] [] h := by
  intro n
  induction n with
  | zero =>
    intro h x0 x1 x2 x3 r hf
    rw [f_J7_fill_53178_5] at hf
    cases hf
  | succ n ih =>
    intro h x0 x1 x2 x3 r hf
    rw [f_J7_fill_53178_5] at hf
    refine r_iload_n 2 dJ7_fill_53178_5 rfl ?_
    refine r_iload_n 3 dJ7_fill_53178_6 rfl ?_
    refine r_icmp_ge (tgt := 20) dJ7_fill_53178_7 (by decide) (fun c7 => ?_) (fun c7 => ?_)
    · replace hf := (if_pos c7).symm.trans hf
      have hf := Option.some.inj hf
      subst hf
      exact r_vret rfl dJ7_fill_53178_20
    · replace hf := (if_neg c7).symm.trans hf
      refine r_aload_n 0 dJ7_fill_53178_10 rfl ?_
      refine r_iload_n 2 dJ7_fill_53178_11 rfl ?_
      refine r_iload_n 1 dJ7_fill_53178_12 rfl ?_
      obtain ⟨h13, e13, hf⟩ := ob hf
      refine r_iastore dJ7_fill_53178_13 e13 ?_
      refine r_iinc (y := (x2 + 1)) (lv' := [(2, vI (x2 + 1)), (0, vR x0), (1, vI x1), (3, vI x3)]) 2 dJ7_fill_53178_14 rfl rfl (Nat.le_of_ble_eq_true rfl) rfl ?_
      refine r_goto (tgt := 5) dJ7_fill_53178_17 (by decide) ?_
      exact r_sub [1, 2, 0, 3] rfl (ih _ _ _ _ _ _ hf)
def f_J7_fill_53178 (h : Hp) (x0 : Option Nat) (x1 : Int32) : Option Hp :=
    (lenI h x0).bind fun v3 =>
    f_J7_fill_53178_5 10000 h x0 x1 (0 : Int32) v3
set_option maxRecDepth 100000 in
set_option maxHeartbeats 4000000 in
theorem k_J7_fill_53178 (G : Gx) (l : Launch) {h : Hp} {x0 : Option Nat} {x1 : Int32} {r : Hp} (hf : f_J7_fill_53178 h x0 x1 = some r) : KM l yJ7_fill_53178 (.code yJ7_fill_53178 cJ7_fill_53178 4 none :: wsK) 0 0 G [vR x0, vI x1] h none r := by
  refine r_entry (ctor := false) (own := RJ7) (by decide +kernel) rfl (fun q => by cases q) (Nat.le_of_ble_eq_true rfl) ?_
  show RJ G l M_J7_fill_53178 none r 0 [(0, vR x0), (1, vI x1)] [] h
  unfold f_J7_fill_53178 at hf
  refine r_iconst (x := (0 : Int32)) dJ7_fill_53178_0 (by decide) ?_
  refine r_istore_n (lv' := [(2, vI (0 : Int32)), (0, vR x0), (1, vI x1)]) dJ7_fill_53178_1 (Nat.le_of_ble_eq_true rfl) rfl ?_
  refine r_aload_n 1 dJ7_fill_53178_2 rfl ?_
  obtain ⟨v3, e3, hf⟩ := ob hf
  refine r_lenI dJ7_fill_53178_3 e3 ?_
  refine r_istore_n (lv' := [(3, vI v3), (2, vI (0 : Int32)), (0, vR x0), (1, vI x1)]) dJ7_fill_53178_4 (Nat.le_of_ble_eq_true rfl) rfl ?_
  exact r_sub [2, 3, 1, 0] rfl (t_J7_fill_53178_5 G l _ _ _ _ _ _ _ hf)
/-! ===== NumberedByAge$Law.<init>(II)V ===== -/
abbrev M_X3_init : Mx := (cX3_init, 3, RX3, (true, []), none, 1, 20)
def f_X3_init (h : Hp) (this : Nat) (x1 : Int32) (x2 : Int32) : Option Hp :=
    (pF h (some this) lws 0 (vI x1)).bind fun h6 =>
    (pF h6 (some this) lws 1 (vI x2)).bind fun h11 =>
    some h11
set_option maxRecDepth 100000 in
set_option maxHeartbeats 4000000 in
theorem k_X3_init (G : Gx) (l : Launch) {h : Hp} {this : Nat} {x1 : Int32} {x2 : Int32} {r : Hp} (hf : f_X3_init h this x1 x2 = some r) : KM l yX3_init (.code yX3_init cX3_init 3 none :: wsK) 1 20 G [vR (some this), vI x1, vI x2] h none r := by
  refine r_entry (ctor := true) (own := RX3) (by decide +kernel) rfl (fun _ => rfl) (Nat.le_of_ble_eq_true rfl) ?_
  show RJ G l M_X3_init none r 0 [(0, vR (some this)), (1, vI x1), (2, vI x2)] [] h
  unfold f_X3_init at hf
  refine r_aload_n 0 dX3_init_0 rfl ?_
  refine r_objInit dX3_init_1 kw_1_41 kw_1_28 kw_1_29 ⟨Nat.le_of_ble_eq_true rfl, Nat.le_of_ble_eq_true rfl⟩ (Nat.le_of_ble_eq_true rfl) ?_
  refine r_aload_n 0 dX3_init_4 rfl ?_
  refine r_iload_n 1 dX3_init_5 rfl ?_
  obtain ⟨h6, e6, hf⟩ := ob hf
  refine r_putF dX3_init_6 fl_L_0 kw_1_42 (Or.inl rfl) rfl rfl (by decide +kernel) (fit_int _) e6 ?_
  refine r_aload_n 0 dX3_init_9 rfl ?_
  refine r_iload_n 2 dX3_init_10 rfl ?_
  obtain ⟨h11, e11, hf⟩ := ob hf
  refine r_putF dX3_init_11 fl_L_1 kw_1_44 (Or.inl rfl) rfl rfl (by decide +kernel) (fit_int _) e11 ?_
  have hf := Option.some.inj hf
  subst hf
  exact r_vret rfl dX3_init_14
/-! ===== NumberedByAge$Gap.<init>(II)V ===== -/
abbrev M_X0_init : Mx := (cX0_init, 3, RX0, (true, []), none, 2, 42)
def f_X0_init (h : Hp) (this : Nat) (x1 : Int32) (x2 : Int32) : Option Hp :=
    (f_X3_init h this x1 x2).bind fun h3 =>
    some h3
set_option maxRecDepth 100000 in
set_option maxHeartbeats 4000000 in
theorem k_X0_init (G : Gx) (l : Launch) {h : Hp} {this : Nat} {x1 : Int32} {x2 : Int32} {r : Hp} (hf : f_X0_init h this x1 x2 = some r) : KM l yX0_init (.code yX0_init cX0_init 3 none :: wsK) 2 42 G [vR (some this), vI x1, vI x2] h none r := by
  refine r_entry (ctor := true) (own := RX0) (by decide +kernel) rfl (fun _ => rfl) (Nat.le_of_ble_eq_true rfl) ?_
  show RJ G l M_X0_init none r 0 [(0, vR (some this)), (1, vI x1), (2, vI x2)] [] h
  unfold f_X0_init at hf
  refine r_aload_n 0 dX0_init_0 rfl ?_
  refine r_iload_n 1 dX0_init_1 rfl ?_
  refine r_iload_n 2 dX0_init_2 rfl ?_
  obtain ⟨h3, e3, hf⟩ := ob hf
  refine r_callI (y := yX3_init) (avs := [vI x1, vI x2]) dX0_init_3 kw_2_35 kw_1_39 kw_1_3 kw_1_40 rfl oky_X3_init ⟨Nat.le_of_ble_eq_true rfl, Nat.le_of_ble_eq_true rfl⟩ rfl (Nat.le_of_ble_eq_true rfl) (k_X3_init G l e3) ?_
  have hf := Option.some.inj hf
  subst hf
  exact r_vret rfl dX0_init_6
/-! ===== NumberedByAge$Law.levy()I ===== -/
abbrev M_X3_levy : Mx := (cX3_levy, 1, RX3, (false, []), (some .int), 0, 0)
def f_X3_levy (h : Hp) (this : Nat) : Option Int32 :=
    some (3 : Int32)
set_option maxRecDepth 100000 in
set_option maxHeartbeats 4000000 in
theorem k_X3_levy (G : Gx) (l : Launch) {h : Hp} {this : Nat} {r : Int32} (hf : f_X3_levy h this = some r) : KM l yX3_levy (.code yX3_levy cX3_levy 1 (some .int) :: wsK) 0 0 G [vR (some this)] h (some (vI r)) h := by
  refine r_entry (ctor := false) (own := RX3) (by decide +kernel) rfl (fun q => by cases q) (Nat.le_of_ble_eq_true rfl) ?_
  show RJ G l M_X3_levy (some (vI r)) h 0 [(0, vR (some this))] [] h
  unfold f_X3_levy at hf
  refine r_iconst (x := (3 : Int32)) dX3_levy_0 (by decide) ?_
  have hf := Option.some.inj hf
  subst hf
  exact r_iret rfl dX3_levy_1
/-! ===== NumberedByAge$Gap.levy()I ===== -/
abbrev M_X0_levy : Mx := (cX0_levy, 1, RX0, (false, []), (some .int), 1, 20)
def f_X0_levy (h : Hp) (this : Nat) : Option Int32 :=
    (rcl h (some this)).bind fun a1 =>
    (f_X3_levy h a1.1).bind fun v1 =>
    (gI h (some this) lws 1).bind fun v5 =>
    some (v1 + v5)
set_option maxRecDepth 100000 in
set_option maxHeartbeats 4000000 in
theorem k_X0_levy (G : Gx) (l : Launch) {h : Hp} {this : Nat} {r : Int32} (hf : f_X0_levy h this = some r) : KM l yX0_levy (.code yX0_levy cX0_levy 1 (some .int) :: wsK) 1 20 G [vR (some this)] h (some (vI r)) h := by
  refine r_entry (ctor := false) (own := RX0) (by decide +kernel) rfl (fun q => by cases q) (Nat.le_of_ble_eq_true rfl) ?_
  show RJ G l M_X0_levy (some (vI r)) h 0 [(0, vR (some this))] [] h
  unfold f_X0_levy at hf
  refine r_aload_n 0 dX0_levy_0 rfl ?_
  obtain ⟨a1, ea1, hf⟩ := ob hf
  obtain ⟨v1, e1, hf⟩ := ob hf
  refine r_callSU (y := yX3_levy) (avs := []) dX0_levy_1 kw_3_125 kw_3_121 kw_2_38 kw_3_119 kw_1_3 kw_3_147 ⟨by decide +kernel, oky_X3_levy.2.2⟩ ⟨Nat.le_of_ble_eq_true rfl, Nat.le_of_ble_eq_true rfl⟩ rfl (Nat.le_of_ble_eq_true rfl) ea1 (k_X3_levy G l e1) ?_
  refine r_aload_n 0 dX0_levy_4 rfl ?_
  obtain ⟨v5, e5, hf⟩ := ob hf
  refine r_get dX0_levy_5 fl_L_1 kw_1_51 (Or.inr kw_1_52) (gI_sp e5) ?_
  refine r_iadd dX0_levy_8 ?_
  have hf := Option.some.inj hf
  subst hf
  exact r_iret rfl dX0_levy_9
/-! ===== NumberedByAge$Street.leastFree()I ===== -/
abbrev M_X8_leastFree : Mx := (cX8_leastFree, 3, RX8, (false, []), (some .int), 0, 0)
def f_X8_leastFree_32 (h : Hp) (this : Nat) (k4 : Int32 → Int32 → Option Int32) (x1 : Int32) (x2 : Int32) : Option Int32 :=
    k4 x1 (x2 + 1)
set_option maxRecDepth 100000 in
set_option maxHeartbeats 4000000 in
theorem t_X8_leastFree_32 (G : Gx) (l : Launch) (h : Hp) (this : Nat) (k4 : Int32 → Int32 → Option Int32) (hk4 : ∀ (x1 : Int32) (x2 : Int32) (r : Int32), k4 x1 x2 = some r → RJ G l M_X8_leastFree (some (vI r)) h 4 [(0, vR (some this)), (1, vI x1), (2, vI x2)] [] h) (x1 : Int32) (x2 : Int32) (r : Int32) (hf : f_X8_leastFree_32 h this k4 x1 x2 = some r) : RJ G l M_X8_leastFree (some (vI r)) h 32 [(0, vR (some this)), (1, vI x1), (2, vI x2)] [] h := by
  unfold f_X8_leastFree_32 at hf
  refine r_iinc (y := (x2 + 1)) (lv' := [(2, vI (x2 + 1)), (0, vR (some this)), (1, vI x1)]) 2 dX8_leastFree_32 rfl rfl (Nat.le_of_ble_eq_true rfl) rfl ?_
  refine r_goto (tgt := 4) dX8_leastFree_35 (by decide) ?_
  exact r_sub [1, 2, 0] rfl (hk4 _ _ _ hf)
def f_X8_leastFree_40 (h : Hp) (this : Nat) : Nat → Int32 → Int32 → Option Int32
  | 0, _, _ => none
  | n + 1, x1, x2 =>
    if (12 : Int32) < x2 then
      some (13 : Int32)
    else
      if (x1 &&& ((1 : Int32) <<< (x2 &&& 31))) = 0 then
        some x2
      else
        (f_X8_leastFree_40 h this n) x1 (x2 + 1)
set_option maxRecDepth 100000 in
set_option maxHeartbeats 4000000 in
theorem t_X8_leastFree_40 (G : Gx) (l : Launch) (h : Hp) (this : Nat)  : ∀ (n : Nat) (x1 : Int32) (x2 : Int32) (r : Int32), f_X8_leastFree_40 h this n x1 x2 = some r → RJ G l M_X8_leastFree (some (vI r)) h 40 [(0, vR (some this)), (1, vI x1), (2, vI x2)] [] h := by
  intro n
  induction n with
  | zero =>
    intro x1 x2 r hf
    rw [f_X8_leastFree_40] at hf
    cases hf
  | succ n ih =>
    intro x1 x2 r hf
    rw [f_X8_leastFree_40] at hf
    refine r_iload_n 2 dX8_leastFree_40 rfl ?_
    refine r_bipush (x := (12 : Int32)) dX8_leastFree_41 (by decide) ?_
    refine r_icmp_gt (tgt := 62) dX8_leastFree_43 (by decide) (fun c43 => ?_) (fun c43 => ?_)
    · replace hf := (if_pos c43).symm.trans hf
      refine r_bipush (x := (13 : Int32)) dX8_leastFree_62 (by decide) ?_
      have hf := Option.some.inj hf
      subst hf
      exact r_iret rfl dX8_leastFree_64
    · replace hf := (if_neg c43).symm.trans hf
      refine r_iload_n 1 dX8_leastFree_46 rfl ?_
      refine r_iconst (x := (1 : Int32)) dX8_leastFree_47 (by decide) ?_
      refine r_iload_n 2 dX8_leastFree_48 rfl ?_
      refine r_ishl dX8_leastFree_49 ?_
      refine r_iand dX8_leastFree_50 ?_
      refine r_if_ne (tgt := 56) dX8_leastFree_51 (by decide) (fun c51 => ?_) (fun c51 => ?_)
      · replace hf := (if_pos c51).symm.trans hf
        refine r_iload_n 2 dX8_leastFree_54 rfl ?_
        have hf := Option.some.inj hf
        subst hf
        exact r_iret rfl dX8_leastFree_55
      · replace hf := (if_neg c51).symm.trans hf
        refine r_iinc (y := (x2 + 1)) (lv' := [(2, vI (x2 + 1)), (0, vR (some this)), (1, vI x1)]) 2 dX8_leastFree_56 rfl rfl (Nat.le_of_ble_eq_true rfl) rfl ?_
        refine r_goto (tgt := 40) dX8_leastFree_59 (by decide) ?_
        exact r_sub [1, 2, 0] rfl (ih _ _ _ hf)
def f_X8_leastFree_4 (h : Hp) (this : Nat) : Nat → Int32 → Int32 → Option Int32
  | 0, _, _ => none
  | n + 1, x1, x2 =>
    if (12 : Int32) ≤ x2 then
      f_X8_leastFree_40 h this 10000 x1 (1 : Int32)
    else
      (gR h (some this) [8] 0).bind fun v11 =>
      (aI h v11 x2).bind fun v15 =>
      if (12 : Int32) < v15 then
        f_X8_leastFree_32 h this (f_X8_leastFree_4 h this n) x1 x2
      else
        (gR h (some this) [8] 0).bind fun v24 =>
        (aI h v24 x2).bind fun v28 =>
        f_X8_leastFree_32 h this (f_X8_leastFree_4 h this n) (x1 ||| ((1 : Int32) <<< (v28 &&& 31))) x2
set_option maxRecDepth 100000 in
set_option maxHeartbeats 4000000 in
theorem t_X8_leastFree_4 (G : Gx) (l : Launch) (h : Hp) (this : Nat)  : ∀ (n : Nat) (x1 : Int32) (x2 : Int32) (r : Int32), f_X8_leastFree_4 h this n x1 x2 = some r → RJ G l M_X8_leastFree (some (vI r)) h 4 [(0, vR (some this)), (1, vI x1), (2, vI x2)] [] h := by
  intro n
  induction n with
  | zero =>
    intro x1 x2 r hf
    rw [f_X8_leastFree_4] at hf
    cases hf
  | succ n ih =>
    intro x1 x2 r hf
    rw [f_X8_leastFree_4] at hf
    refine r_iload_n 2 dX8_leastFree_4 rfl ?_
    refine r_bipush (x := (12 : Int32)) dX8_leastFree_5 (by decide) ?_
    refine r_icmp_ge (tgt := 38) dX8_leastFree_7 (by decide) (fun c7 => ?_) (fun c7 => ?_)
    · replace hf := (if_pos c7).symm.trans hf
      refine r_iconst (x := (1 : Int32)) dX8_leastFree_38 (by decide) ?_
      refine r_istore_n (lv' := [(2, vI (1 : Int32)), (0, vR (some this)), (1, vI x1)]) dX8_leastFree_39 (Nat.le_of_ble_eq_true rfl) rfl ?_
      exact r_sub [1, 2, 0] rfl (t_X8_leastFree_40 G l _ _ _ _ _ _ hf)
    · replace hf := (if_neg c7).symm.trans hf
      refine r_aload_n 0 dX8_leastFree_10 rfl ?_
      obtain ⟨v11, e11, hf⟩ := ob hf
      refine r_get dX8_leastFree_11 fl_8_0 kw_1_62 (Or.inl rfl) (gR_sp e11) ?_
      refine r_iload_n 2 dX8_leastFree_14 rfl ?_
      obtain ⟨v15, e15, hf⟩ := ob hf
      refine r_iaload dX8_leastFree_15 e15 ?_
      refine r_bipush (x := (12 : Int32)) dX8_leastFree_16 (by decide) ?_
      refine r_icmp_gt (tgt := 32) dX8_leastFree_18 (by decide) (fun c18 => ?_) (fun c18 => ?_)
      · replace hf := (if_pos c18).symm.trans hf
        exact r_sub [0, 1, 2] rfl (t_X8_leastFree_32 G l _ _ (f_X8_leastFree_4 h this n) ih _ _ _ hf)
      · replace hf := (if_neg c18).symm.trans hf
        refine r_iload_n 1 dX8_leastFree_21 rfl ?_
        refine r_iconst (x := (1 : Int32)) dX8_leastFree_22 (by decide) ?_
        refine r_aload_n 0 dX8_leastFree_23 rfl ?_
        obtain ⟨v24, e24, hf⟩ := ob hf
        refine r_get dX8_leastFree_24 fl_8_0 kw_1_62 (Or.inl rfl) (gR_sp e24) ?_
        refine r_iload_n 2 dX8_leastFree_27 rfl ?_
        obtain ⟨v28, e28, hf⟩ := ob hf
        refine r_iaload dX8_leastFree_28 e28 ?_
        refine r_ishl dX8_leastFree_29 ?_
        refine r_ior dX8_leastFree_30 ?_
        refine r_istore_n (lv' := [(1, vI (x1 ||| ((1 : Int32) <<< (v28 &&& 31)))), (0, vR (some this)), (2, vI x2)]) dX8_leastFree_31 (Nat.le_of_ble_eq_true rfl) rfl ?_
        exact r_sub [1, 0, 2] rfl (t_X8_leastFree_32 G l _ _ (f_X8_leastFree_4 h this n) ih _ _ _ hf)
def f_X8_leastFree (h : Hp) (this : Nat) : Option Int32 :=
    f_X8_leastFree_4 h this 10000 (0 : Int32) (0 : Int32)
set_option maxRecDepth 100000 in
set_option maxHeartbeats 4000000 in
theorem k_X8_leastFree (G : Gx) (l : Launch) {h : Hp} {this : Nat} {r : Int32} (hf : f_X8_leastFree h this = some r) : KM l yX8_leastFree (.code yX8_leastFree cX8_leastFree 3 (some .int) :: wsK) 0 0 G [vR (some this)] h (some (vI r)) h := by
  refine r_entry (ctor := false) (own := RX8) (by decide +kernel) rfl (fun q => by cases q) (Nat.le_of_ble_eq_true rfl) ?_
  show RJ G l M_X8_leastFree (some (vI r)) h 0 [(0, vR (some this))] [] h
  unfold f_X8_leastFree at hf
  refine r_iconst (x := (0 : Int32)) dX8_leastFree_0 (by decide) ?_
  refine r_istore_n (lv' := [(1, vI (0 : Int32)), (0, vR (some this))]) dX8_leastFree_1 (Nat.le_of_ble_eq_true rfl) rfl ?_
  refine r_iconst (x := (0 : Int32)) dX8_leastFree_2 (by decide) ?_
  refine r_istore_n (lv' := [(2, vI (0 : Int32)), (1, vI (0 : Int32)), (0, vR (some this))]) dX8_leastFree_3 (Nat.le_of_ble_eq_true rfl) rfl ?_
  exact r_sub [2, 1, 0] rfl (t_X8_leastFree_4 G l _ _ _ _ _ _ hf)
/-! ===== NumberedByAge$Gap.numberFor(LNumberedByAge$Street;II)I ===== -/
abbrev M_X0_numberFor : Mx := (cX0_numberFor, 4, RX0, (false, []), (some .int), 1, 22)
def f_X0_numberFor (h : Hp) (this : Nat) (x1 : Option Nat) (x2 : Int32) (x3 : Int32) : Option Int32 :=
    (rcv h x1 8).bind fun a1 =>
    (f_X8_leastFree h a1).bind fun v1 =>
    some v1
set_option maxRecDepth 100000 in
set_option maxHeartbeats 4000000 in
theorem k_X0_numberFor (G : Gx) (l : Launch) {h : Hp} {this : Nat} {x1 : Option Nat} {x2 : Int32} {x3 : Int32} {r : Int32} (hf : f_X0_numberFor h this x1 x2 x3 = some r) : KM l yX0_numberFor (.code yX0_numberFor cX0_numberFor 4 (some .int) :: wsK) 1 22 G [vR (some this), vR x1, vI x2, vI x3] h (some (vI r)) h := by
  refine r_entry (ctor := false) (own := RX0) (by decide +kernel) rfl (fun q => by cases q) (Nat.le_of_ble_eq_true rfl) ?_
  show RJ G l M_X0_numberFor (some (vI r)) h 0 [(0, vR (some this)), (1, vR x1), (2, vI x2), (3, vI x3)] [] h
  unfold f_X0_numberFor at hf
  refine r_aload_n 1 dX0_numberFor_0 rfl ?_
  obtain ⟨a1, ea1, hf⟩ := ob hf
  obtain ⟨v1, e1, hf⟩ := ob hf
  refine r_callV (y := yX8_leastFree) (ci := 8) (avs := []) dX0_numberFor_1 rfl kw_1_213 kw_1_214 kw_1_215 kw_1_2 kw_1_216 oky_X8_leastFree ⟨Nat.le_of_ble_eq_true rfl, Nat.le_of_ble_eq_true rfl⟩ rfl (Nat.le_of_ble_eq_true rfl) ea1 (k_X8_leastFree G l e1) ?_
  have hf := Option.some.inj hf
  subst hf
  exact r_iret rfl dX0_numberFor_4
/-! ===== NumberedByAge.isPlot(I)Z ===== -/
abbrev M_X10_isPlot : Mx := (cX10_isPlot, 1, RX10, (false, []), (some .boolean), 0, 0)
def f_X10_isPlot_14 (h : Hp)  : Option Int32 :=
    okZ (0 : Int32)
set_option maxRecDepth 100000 in
set_option maxHeartbeats 4000000 in
theorem t_X10_isPlot_14 (G : Gx) (l : Launch) (h : Hp)   (r : Int32) (hf : f_X10_isPlot_14 h = some r) : RJ G l M_X10_isPlot (some (vI r)) h 14 [] [] h := by
  unfold f_X10_isPlot_14 at hf
  refine r_iconst (x := (0 : Int32)) dX10_isPlot_14 (by decide) ?_
  exact r_zret rfl dX10_isPlot_15 hf
def f_X10_isPlot (h : Hp) (x0 : Int32) : Option Int32 :=
    if x0 < 0 then
      f_X10_isPlot_14 h 
    else
      if (12 : Int32) ≤ x0 then
        f_X10_isPlot_14 h 
      else
        okZ (1 : Int32)
set_option maxRecDepth 100000 in
set_option maxHeartbeats 4000000 in
theorem k_X10_isPlot (G : Gx) (l : Launch) {h : Hp} {x0 : Int32} {r : Int32} (hf : f_X10_isPlot h x0 = some r) : KM l yX10_isPlot (.code yX10_isPlot cX10_isPlot 1 (some .boolean) :: wsK) 0 0 G [vI x0] h (some (vI r)) h := by
  refine r_entry (ctor := false) (own := RX10) (by decide +kernel) rfl (fun q => by cases q) (Nat.le_of_ble_eq_true rfl) ?_
  show RJ G l M_X10_isPlot (some (vI r)) h 0 [(0, vI x0)] [] h
  unfold f_X10_isPlot at hf
  refine r_iload_n 0 dX10_isPlot_0 rfl ?_
  refine r_if_lt (tgt := 14) dX10_isPlot_1 (by decide) (fun c1 => ?_) (fun c1 => ?_)
  · replace hf := (if_pos c1).symm.trans hf
    exact r_sub [] rfl (t_X10_isPlot_14 G l _  _ hf)
  · replace hf := (if_neg c1).symm.trans hf
    refine r_iload_n 0 dX10_isPlot_4 rfl ?_
    refine r_bipush (x := (12 : Int32)) dX10_isPlot_5 (by decide) ?_
    refine r_icmp_ge (tgt := 14) dX10_isPlot_7 (by decide) (fun c7 => ?_) (fun c7 => ?_)
    · replace hf := (if_pos c7).symm.trans hf
      exact r_sub [] rfl (t_X10_isPlot_14 G l _  _ hf)
    · replace hf := (if_neg c7).symm.trans hf
      refine r_iconst (x := (1 : Int32)) dX10_isPlot_10 (by decide) ?_
      refine r_goto (tgt := 15) dX10_isPlot_11 (by decide) ?_
      exact r_zret rfl dX10_isPlot_15 hf
/-! ===== NumberedByAge.isHeight(I)Z ===== -/
abbrev M_X10_isHeight : Mx := (cX10_isHeight, 1, RX10, (false, []), (some .boolean), 0, 0)
def f_X10_isHeight_15 (h : Hp)  : Option Int32 :=
    okZ (0 : Int32)
set_option maxRecDepth 100000 in
set_option maxHeartbeats 4000000 in
theorem t_X10_isHeight_15 (G : Gx) (l : Launch) (h : Hp)   (r : Int32) (hf : f_X10_isHeight_15 h = some r) : RJ G l M_X10_isHeight (some (vI r)) h 15 [] [] h := by
  unfold f_X10_isHeight_15 at hf
  refine r_iconst (x := (0 : Int32)) dX10_isHeight_15 (by decide) ?_
  exact r_zret rfl dX10_isHeight_16 hf
def f_X10_isHeight (h : Hp) (x0 : Int32) : Option Int32 :=
    if x0 < (1 : Int32) then
      f_X10_isHeight_15 h 
    else
      if (9 : Int32) < x0 then
        f_X10_isHeight_15 h 
      else
        okZ (1 : Int32)
set_option maxRecDepth 100000 in
set_option maxHeartbeats 4000000 in
theorem k_X10_isHeight (G : Gx) (l : Launch) {h : Hp} {x0 : Int32} {r : Int32} (hf : f_X10_isHeight h x0 = some r) : KM l yX10_isHeight (.code yX10_isHeight cX10_isHeight 1 (some .boolean) :: wsK) 0 0 G [vI x0] h (some (vI r)) h := by
  refine r_entry (ctor := false) (own := RX10) (by decide +kernel) rfl (fun q => by cases q) (Nat.le_of_ble_eq_true rfl) ?_
  show RJ G l M_X10_isHeight (some (vI r)) h 0 [(0, vI x0)] [] h
  unfold f_X10_isHeight at hf
  refine r_iload_n 0 dX10_isHeight_0 rfl ?_
  refine r_iconst (x := (1 : Int32)) dX10_isHeight_1 (by decide) ?_
  refine r_icmp_lt (tgt := 15) dX10_isHeight_2 (by decide) (fun c2 => ?_) (fun c2 => ?_)
  · replace hf := (if_pos c2).symm.trans hf
    exact r_sub [] rfl (t_X10_isHeight_15 G l _  _ hf)
  · replace hf := (if_neg c2).symm.trans hf
    refine r_iload_n 0 dX10_isHeight_5 rfl ?_
    refine r_bipush (x := (9 : Int32)) dX10_isHeight_6 (by decide) ?_
    refine r_icmp_gt (tgt := 15) dX10_isHeight_8 (by decide) (fun c8 => ?_) (fun c8 => ?_)
    · replace hf := (if_pos c8).symm.trans hf
      exact r_sub [] rfl (t_X10_isHeight_15 G l _  _ hf)
    · replace hf := (if_neg c8).symm.trans hf
      refine r_iconst (x := (1 : Int32)) dX10_isHeight_11 (by decide) ?_
      refine r_goto (tgt := 16) dX10_isHeight_12 (by decide) ?_
      exact r_zret rfl dX10_isHeight_16 hf
/-! ===== NumberedByAge$Law.numberFor(LNumberedByAge$Street;II)I ===== -/
abbrev M_X3_numberFor : Mx := (cX3_numberFor, 4, RX3, (false, []), (some .int), 0, 0)
def f_X3_numberFor (h : Hp) (this : Nat) (x1 : Option Nat) (x2 : Int32) (x3 : Int32) : Option Int32 :=
    (gI h x1 [8] 8).bind fun v1 =>
    some (v1 + (1 : Int32))
set_option maxRecDepth 100000 in
set_option maxHeartbeats 4000000 in
theorem k_X3_numberFor (G : Gx) (l : Launch) {h : Hp} {this : Nat} {x1 : Option Nat} {x2 : Int32} {x3 : Int32} {r : Int32} (hf : f_X3_numberFor h this x1 x2 x3 = some r) : KM l yX3_numberFor (.code yX3_numberFor cX3_numberFor 4 (some .int) :: wsK) 0 0 G [vR (some this), vR x1, vI x2, vI x3] h (some (vI r)) h := by
  refine r_entry (ctor := false) (own := RX3) (by decide +kernel) rfl (fun q => by cases q) (Nat.le_of_ble_eq_true rfl) ?_
  show RJ G l M_X3_numberFor (some (vI r)) h 0 [(0, vR (some this)), (1, vR x1), (2, vI x2), (3, vI x3)] [] h
  unfold f_X3_numberFor at hf
  refine r_aload_n 1 dX3_numberFor_0 rfl ?_
  obtain ⟨v1, e1, hf⟩ := ob hf
  refine r_getN dX3_numberFor_1 fl_8_8 (by decide) (gI_sp e1) ?_
  refine r_iconst (x := (1 : Int32)) dX3_numberFor_4 (by decide) ?_
  refine r_iadd dX3_numberFor_5 ?_
  have hf := Option.some.inj hf
  subst hf
  exact r_iret rfl dX3_numberFor_6
/-! ===== NumberedByAge$High.numberFor(LNumberedByAge$Street;II)I ===== -/
abbrev M_X1_numberFor : Mx := (cX1_numberFor, 4, RX1, (false, []), (some .int), 1, 23)
def f_X1_numberFor (h : Hp) (this : Nat) (x1 : Option Nat) (x2 : Int32) (x3 : Int32) : Option Int32 :=
    (rcl h (some this)).bind fun a4 =>
    (f_X3_numberFor h a4.1 x1 x2 x3).bind fun v4 =>
    (gI h (some this) lws 1).bind fun v8 =>
    some (v4 + (v8 * x3))
set_option maxRecDepth 100000 in
set_option maxHeartbeats 4000000 in
theorem k_X1_numberFor (G : Gx) (l : Launch) {h : Hp} {this : Nat} {x1 : Option Nat} {x2 : Int32} {x3 : Int32} {r : Int32} (hf : f_X1_numberFor h this x1 x2 x3 = some r) : KM l yX1_numberFor (.code yX1_numberFor cX1_numberFor 4 (some .int) :: wsK) 1 23 G [vR (some this), vR x1, vI x2, vI x3] h (some (vI r)) h := by
  refine r_entry (ctor := false) (own := RX1) (by decide +kernel) rfl (fun q => by cases q) (Nat.le_of_ble_eq_true rfl) ?_
  show RJ G l M_X1_numberFor (some (vI r)) h 0 [(0, vR (some this)), (1, vR x1), (2, vI x2), (3, vI x3)] [] h
  unfold f_X1_numberFor at hf
  refine r_aload_n 0 dX1_numberFor_0 rfl ?_
  refine r_aload_n 1 dX1_numberFor_1 rfl ?_
  refine r_iload_n 2 dX1_numberFor_2 rfl ?_
  refine r_iload_n 3 dX1_numberFor_3 rfl ?_
  obtain ⟨a4, ea4, hf⟩ := ob hf
  obtain ⟨v4, e4, hf⟩ := ob hf
  refine r_callSU (y := yX3_numberFor) (avs := [vR x1, vI x2, vI x3]) dX1_numberFor_4 kw_1_220 kw_1_209 kw_1_221 kw_1_207 kw_1_3 kw_2_16 ⟨by decide +kernel, oky_X3_numberFor.2.2⟩ ⟨Nat.le_of_ble_eq_true rfl, Nat.le_of_ble_eq_true rfl⟩ rfl (Nat.le_of_ble_eq_true rfl) ea4 (k_X3_numberFor G l e4) ?_
  refine r_aload_n 0 dX1_numberFor_7 rfl ?_
  obtain ⟨v8, e8, hf⟩ := ob hf
  refine r_get dX1_numberFor_8 fl_L_1 kw_1_45 (Or.inr kw_1_46) (gI_sp e8) ?_
  refine r_iload_n 3 dX1_numberFor_11 rfl ?_
  refine r_imul dX1_numberFor_12 ?_
  refine r_iadd dX1_numberFor_13 ?_
  have hf := Option.some.inj hf
  subst hf
  exact r_iret rfl dX1_numberFor_14
/-! ===== NumberedByAge$Street.greatest()I ===== -/
abbrev M_X8_greatest : Mx := (cX8_greatest, 3, RX8, (false, []), (some .int), 1, 21)
def f_X8_greatest_4 (h : Hp) (this : Nat) : Nat → Int32 → Int32 → Option Int32
  | 0, _, _ => none
  | n + 1, x1, x2 =>
    if (12 : Int32) ≤ x2 then
      some x1
    else
      (gR h (some this) [8] 0).bind fun v12 =>
      (aI h v12 x2).bind fun v16 =>
      (f_X8_greatest_4 h this n) (mxI x1 v16) (x2 + 1)
set_option maxRecDepth 100000 in
set_option maxHeartbeats 4000000 in
theorem t_X8_greatest_4 (G : Gx) (l : Launch) (h : Hp) (this : Nat)  : ∀ (n : Nat) (x1 : Int32) (x2 : Int32) (r : Int32), f_X8_greatest_4 h this n x1 x2 = some r → RJ G l M_X8_greatest (some (vI r)) h 4 [(0, vR (some this)), (1, vI x1), (2, vI x2)] [] h := by
  intro n
  induction n with
  | zero =>
    intro x1 x2 r hf
    rw [f_X8_greatest_4] at hf
    cases hf
  | succ n ih =>
    intro x1 x2 r hf
    rw [f_X8_greatest_4] at hf
    refine r_iload_n 2 dX8_greatest_4 rfl ?_
    refine r_bipush (x := (12 : Int32)) dX8_greatest_5 (by decide) ?_
    refine r_icmp_ge (tgt := 27) dX8_greatest_7 (by decide) (fun c7 => ?_) (fun c7 => ?_)
    · replace hf := (if_pos c7).symm.trans hf
      refine r_iload_n 1 dX8_greatest_27 rfl ?_
      have hf := Option.some.inj hf
      subst hf
      exact r_iret rfl dX8_greatest_28
    · replace hf := (if_neg c7).symm.trans hf
      refine r_iload_n 1 dX8_greatest_10 rfl ?_
      refine r_aload_n 0 dX8_greatest_11 rfl ?_
      obtain ⟨v12, e12, hf⟩ := ob hf
      refine r_get dX8_greatest_12 fl_8_0 kw_1_62 (Or.inl rfl) (gR_sp e12) ?_
      refine r_iload_n 2 dX8_greatest_15 rfl ?_
      obtain ⟨v16, e16, hf⟩ := ob hf
      refine r_iaload dX8_greatest_16 e16 ?_
      refine r_max dX8_greatest_17 kw_1_231 kw_1_232 kw_1_7 kw_1_233 ⟨Nat.le_of_ble_eq_true rfl, Nat.le_of_ble_eq_true rfl⟩ (Nat.le_of_ble_eq_true rfl) ?_
      refine r_istore_n (lv' := [(1, vI (mxI x1 v16)), (0, vR (some this)), (2, vI x2)]) dX8_greatest_20 (Nat.le_of_ble_eq_true rfl) rfl ?_
      refine r_iinc (y := (x2 + 1)) (lv' := [(2, vI (x2 + 1)), (1, vI (mxI x1 v16)), (0, vR (some this))]) 2 dX8_greatest_21 rfl rfl (Nat.le_of_ble_eq_true rfl) rfl ?_
      refine r_goto (tgt := 4) dX8_greatest_24 (by decide) ?_
      exact r_sub [2, 1, 0] rfl (ih _ _ _ hf)
def f_X8_greatest (h : Hp) (this : Nat) : Option Int32 :=
    f_X8_greatest_4 h this 10000 (0 : Int32) (0 : Int32)
set_option maxRecDepth 100000 in
set_option maxHeartbeats 4000000 in
theorem k_X8_greatest (G : Gx) (l : Launch) {h : Hp} {this : Nat} {r : Int32} (hf : f_X8_greatest h this = some r) : KM l yX8_greatest (.code yX8_greatest cX8_greatest 3 (some .int) :: wsK) 1 21 G [vR (some this)] h (some (vI r)) h := by
  refine r_entry (ctor := false) (own := RX8) (by decide +kernel) rfl (fun q => by cases q) (Nat.le_of_ble_eq_true rfl) ?_
  show RJ G l M_X8_greatest (some (vI r)) h 0 [(0, vR (some this))] [] h
  unfold f_X8_greatest at hf
  refine r_iconst (x := (0 : Int32)) dX8_greatest_0 (by decide) ?_
  refine r_istore_n (lv' := [(1, vI (0 : Int32)), (0, vR (some this))]) dX8_greatest_1 (Nat.le_of_ble_eq_true rfl) rfl ?_
  refine r_iconst (x := (0 : Int32)) dX8_greatest_2 (by decide) ?_
  refine r_istore_n (lv' := [(2, vI (0 : Int32)), (1, vI (0 : Int32)), (0, vR (some this))]) dX8_greatest_3 (Nat.le_of_ble_eq_true rfl) rfl ?_
  exact r_sub [2, 1, 0] rfl (t_X8_greatest_4 G l _ _ _ _ _ _ hf)
/-! ===== NumberedByAge$Last.numberFor(LNumberedByAge$Street;II)I ===== -/
abbrev M_X2_numberFor : Mx := (cX2_numberFor, 5, RX2, (false, []), (some .int), 2, 45)
def f_X2_numberFor (h : Hp) (this : Nat) (x1 : Option Nat) (x2 : Int32) (x3 : Int32) : Option Int32 :=
    (rcl h (some this)).bind fun a4 =>
    (f_X0_numberFor h a4.1 x1 x2 x3).bind fun v4 =>
    (gI h (some this) lws 1).bind fun v12 =>
    if v12 ≤ v4 then
      (rcv h x1 8).bind fun a24 =>
      (f_X8_greatest h a24).bind fun v24 =>
      some (v24 + (1 : Int32))
    else
      some v4
set_option maxRecDepth 100000 in
set_option maxHeartbeats 4000000 in
theorem k_X2_numberFor (G : Gx) (l : Launch) {h : Hp} {this : Nat} {x1 : Option Nat} {x2 : Int32} {x3 : Int32} {r : Int32} (hf : f_X2_numberFor h this x1 x2 x3 = some r) : KM l yX2_numberFor (.code yX2_numberFor cX2_numberFor 5 (some .int) :: wsK) 2 45 G [vR (some this), vR x1, vI x2, vI x3] h (some (vI r)) h := by
  refine r_entry (ctor := false) (own := RX2) (by decide +kernel) rfl (fun q => by cases q) (Nat.le_of_ble_eq_true rfl) ?_
  show RJ G l M_X2_numberFor (some (vI r)) h 0 [(0, vR (some this)), (1, vR x1), (2, vI x2), (3, vI x3)] [] h
  unfold f_X2_numberFor at hf
  refine r_aload_n 0 dX2_numberFor_0 rfl ?_
  refine r_aload_n 1 dX2_numberFor_1 rfl ?_
  refine r_iload_n 2 dX2_numberFor_2 rfl ?_
  refine r_iload_n 3 dX2_numberFor_3 rfl ?_
  obtain ⟨a4, ea4, hf⟩ := ob hf
  obtain ⟨v4, e4, hf⟩ := ob hf
  refine r_callSU (y := yX0_numberFor) (avs := [vR x1, vI x2, vI x3]) dX2_numberFor_4 kw_1_225 kw_5_196 kw_1_226 kw_1_211 kw_1_8 kw_1_212 ⟨by decide +kernel, oky_X0_numberFor.2.2⟩ ⟨Nat.le_of_ble_eq_true rfl, Nat.le_of_ble_eq_true rfl⟩ rfl (Nat.le_of_ble_eq_true rfl) ea4 (k_X0_numberFor G l e4) ?_
  refine r_istore (lv' := [(4, vI v4), (0, vR (some this)), (1, vR x1), (2, vI x2), (3, vI x3)]) dX2_numberFor_7 (Nat.le_of_ble_eq_true rfl) rfl ?_
  refine r_iload 0 dX2_numberFor_9 rfl ?_
  refine r_aload_n 1 dX2_numberFor_11 rfl ?_
  obtain ⟨v12, e12, hf⟩ := ob hf
  refine r_get dX2_numberFor_12 fl_L_1 kw_1_49 (Or.inr kw_1_50) (gI_sp e12) ?_
  refine r_icmp_ge (tgt := 23) dX2_numberFor_15 (by decide) (fun c15 => ?_) (fun c15 => ?_)
  · replace hf := (if_pos c15).symm.trans hf
    refine r_aload_n 2 dX2_numberFor_23 rfl ?_
    obtain ⟨a24, ea24, hf⟩ := ob hf
    obtain ⟨v24, e24, hf⟩ := ob hf
    refine r_callV (y := yX8_greatest) (ci := 8) (avs := []) dX2_numberFor_24 rfl kw_1_227 kw_1_228 kw_1_229 kw_1_2 kw_1_230 oky_X8_greatest ⟨Nat.le_of_ble_eq_true rfl, Nat.le_of_ble_eq_true rfl⟩ rfl (Nat.le_of_ble_eq_true rfl) ea24 (k_X8_greatest G l e24) ?_
    refine r_iconst (x := (1 : Int32)) dX2_numberFor_27 (by decide) ?_
    refine r_iadd dX2_numberFor_28 ?_
    have hf := Option.some.inj hf
    subst hf
    exact r_iret rfl dX2_numberFor_29
  · replace hf := (if_neg c15).symm.trans hf
    refine r_iload 0 dX2_numberFor_18 rfl ?_
    refine r_goto (tgt := 29) dX2_numberFor_20 (by decide) ?_
    have hf := Option.some.inj hf
    subst hf
    exact r_iret rfl dX2_numberFor_29
/-! ===== NumberedByAge$Street.builtInQuarterOf(I)I ===== -/
abbrev M_X8_builtInQuarterOf : Mx := (cX8_builtInQuarterOf, 3, RX8, (false, []), (some .int), 0, 0)
def f_X8_builtInQuarterOf_22 (h : Hp) (this : Nat)  : Option Int32 :=
    some (0 : Int32)
set_option maxRecDepth 100000 in
set_option maxHeartbeats 4000000 in
theorem t_X8_builtInQuarterOf_22 (G : Gx) (l : Launch) (h : Hp) (this : Nat)   (r : Int32) (hf : f_X8_builtInQuarterOf_22 h this = some r) : RJ G l M_X8_builtInQuarterOf (some (vI r)) h 22 [(0, vR (some this))] [] h := by
  unfold f_X8_builtInQuarterOf_22 at hf
  refine r_iconst (x := (0 : Int32)) dX8_builtInQuarterOf_22 (by decide) ?_
  have hf := Option.some.inj hf
  subst hf
  exact r_iret rfl dX8_builtInQuarterOf_23
def f_X8_builtInQuarterOf (h : Hp) (this : Nat) (x1 : Int32) : Option Int32 :=
    (dvI x1 (4 : Int32)).bind fun v2 =>
    if v2 < 0 then
      f_X8_builtInQuarterOf_22 h this 
    else
      if (3 : Int32) ≤ v2 then
        f_X8_builtInQuarterOf_22 h this 
      else
        (gR h (some this) [8] 3).bind fun v14 =>
        (aI h v14 v2).bind fun v18 =>
        some v18
set_option maxRecDepth 100000 in
set_option maxHeartbeats 4000000 in
theorem k_X8_builtInQuarterOf (G : Gx) (l : Launch) {h : Hp} {this : Nat} {x1 : Int32} {r : Int32} (hf : f_X8_builtInQuarterOf h this x1 = some r) : KM l yX8_builtInQuarterOf (.code yX8_builtInQuarterOf cX8_builtInQuarterOf 3 (some .int) :: wsK) 0 0 G [vR (some this), vI x1] h (some (vI r)) h := by
  refine r_entry (ctor := false) (own := RX8) (by decide +kernel) rfl (fun q => by cases q) (Nat.le_of_ble_eq_true rfl) ?_
  show RJ G l M_X8_builtInQuarterOf (some (vI r)) h 0 [(0, vR (some this)), (1, vI x1)] [] h
  unfold f_X8_builtInQuarterOf at hf
  refine r_iload_n 1 dX8_builtInQuarterOf_0 rfl ?_
  refine r_iconst (x := (4 : Int32)) dX8_builtInQuarterOf_1 (by decide) ?_
  obtain ⟨v2, e2, hf⟩ := ob hf
  refine r_idiv dX8_builtInQuarterOf_2 e2 ?_
  refine r_istore_n (lv' := [(2, vI v2), (0, vR (some this)), (1, vI x1)]) dX8_builtInQuarterOf_3 (Nat.le_of_ble_eq_true rfl) rfl ?_
  refine r_iload_n 0 dX8_builtInQuarterOf_4 rfl ?_
  refine r_if_lt (tgt := 22) dX8_builtInQuarterOf_5 (by decide) (fun c5 => ?_) (fun c5 => ?_)
  · replace hf := (if_pos c5).symm.trans hf
    exact r_sub [1] rfl (t_X8_builtInQuarterOf_22 G l _ _  _ hf)
  · replace hf := (if_neg c5).symm.trans hf
    refine r_iload_n 0 dX8_builtInQuarterOf_8 rfl ?_
    refine r_iconst (x := (3 : Int32)) dX8_builtInQuarterOf_9 (by decide) ?_
    refine r_icmp_ge (tgt := 22) dX8_builtInQuarterOf_10 (by decide) (fun c10 => ?_) (fun c10 => ?_)
    · replace hf := (if_pos c10).symm.trans hf
      exact r_sub [1] rfl (t_X8_builtInQuarterOf_22 G l _ _  _ hf)
    · replace hf := (if_neg c10).symm.trans hf
      refine r_aload_n 1 dX8_builtInQuarterOf_13 rfl ?_
      obtain ⟨v14, e14, hf⟩ := ob hf
      refine r_get dX8_builtInQuarterOf_14 fl_8_3 kw_1_65 (Or.inl rfl) (gR_sp e14) ?_
      refine r_iload_n 0 dX8_builtInQuarterOf_17 rfl ?_
      obtain ⟨v18, e18, hf⟩ := ob hf
      refine r_iaload dX8_builtInQuarterOf_18 e18 ?_
      refine r_goto (tgt := 23) dX8_builtInQuarterOf_19 (by decide) ?_
      have hf := Option.some.inj hf
      subst hf
      exact r_iret rfl dX8_builtInQuarterOf_23
/-! ===== NumberedByAge$Quarter.numberFor(LNumberedByAge$Street;II)I ===== -/
abbrev M_X4_numberFor : Mx := (cX4_numberFor, 4, RX4, (false, []), (some .int), 1, 22)
def f_X4_numberFor (h : Hp) (this : Nat) (x1 : Option Nat) (x2 : Int32) (x3 : Int32) : Option Int32 :=
    (rcv h x1 8).bind fun a2 =>
    (f_X8_builtInQuarterOf h a2 x2).bind fun v2 =>
    some (v2 + (1 : Int32))
set_option maxRecDepth 100000 in
set_option maxHeartbeats 4000000 in
theorem k_X4_numberFor (G : Gx) (l : Launch) {h : Hp} {this : Nat} {x1 : Option Nat} {x2 : Int32} {x3 : Int32} {r : Int32} (hf : f_X4_numberFor h this x1 x2 x3 = some r) : KM l yX4_numberFor (.code yX4_numberFor cX4_numberFor 4 (some .int) :: wsK) 1 22 G [vR (some this), vR x1, vI x2, vI x3] h (some (vI r)) h := by
  refine r_entry (ctor := false) (own := RX4) (by decide +kernel) rfl (fun q => by cases q) (Nat.le_of_ble_eq_true rfl) ?_
  show RJ G l M_X4_numberFor (some (vI r)) h 0 [(0, vR (some this)), (1, vR x1), (2, vI x2), (3, vI x3)] [] h
  unfold f_X4_numberFor at hf
  refine r_aload_n 1 dX4_numberFor_0 rfl ?_
  refine r_iload_n 2 dX4_numberFor_1 rfl ?_
  obtain ⟨a2, ea2, hf⟩ := ob hf
  obtain ⟨v2, e2, hf⟩ := ob hf
  refine r_callV (y := yX8_builtInQuarterOf) (ci := 8) (avs := [vI x2]) dX4_numberFor_2 rfl kw_1_237 kw_1_238 kw_1_239 kw_1_2 kw_2_0 oky_X8_builtInQuarterOf ⟨Nat.le_of_ble_eq_true rfl, Nat.le_of_ble_eq_true rfl⟩ rfl (Nat.le_of_ble_eq_true rfl) ea2 (k_X8_builtInQuarterOf G l e2) ?_
  refine r_iconst (x := (1 : Int32)) dX4_numberFor_5 (by decide) ?_
  refine r_iadd dX4_numberFor_6 ?_
  have hf := Option.some.inj hf
  subst hf
  exact r_iret rfl dX4_numberFor_7
/-! ===== NumberedByAge$Side.numberFor(LNumberedByAge$Street;II)I ===== -/
abbrev M_X6_numberFor : Mx := (cX6_numberFor, 5, RX6, (false, []), (some .int), 2, 45)
def f_X6_numberFor (h : Hp) (this : Nat) (x1 : Option Nat) (x2 : Int32) (x3 : Int32) : Option Int32 :=
    (rcl h (some this)).bind fun a5 =>
    (f_X4_numberFor h a5.1 x1 x2 x3).bind fun v5 =>
    (rmI x2 (2 : Int32)).bind fun v13 =>
    if v13 = 0 then
      some (((2 : Int32) * v5) - (1 : Int32))
    else
      some ((2 : Int32) * v5)
set_option maxRecDepth 100000 in
set_option maxHeartbeats 4000000 in
theorem k_X6_numberFor (G : Gx) (l : Launch) {h : Hp} {this : Nat} {x1 : Option Nat} {x2 : Int32} {x3 : Int32} {r : Int32} (hf : f_X6_numberFor h this x1 x2 x3 = some r) : KM l yX6_numberFor (.code yX6_numberFor cX6_numberFor 5 (some .int) :: wsK) 2 45 G [vR (some this), vR x1, vI x2, vI x3] h (some (vI r)) h := by
  refine r_entry (ctor := false) (own := RX6) (by decide +kernel) rfl (fun q => by cases q) (Nat.le_of_ble_eq_true rfl) ?_
  show RJ G l M_X6_numberFor (some (vI r)) h 0 [(0, vR (some this)), (1, vR x1), (2, vI x2), (3, vI x3)] [] h
  unfold f_X6_numberFor at hf
  refine r_iconst (x := (2 : Int32)) dX6_numberFor_0 (by decide) ?_
  refine r_aload_n 0 dX6_numberFor_1 rfl ?_
  refine r_aload_n 1 dX6_numberFor_2 rfl ?_
  refine r_iload_n 2 dX6_numberFor_3 rfl ?_
  refine r_iload_n 3 dX6_numberFor_4 rfl ?_
  obtain ⟨a5, ea5, hf⟩ := ob hf
  obtain ⟨v5, e5, hf⟩ := ob hf
  refine r_callSU (y := yX4_numberFor) (avs := [vR x1, vI x2, vI x3]) dX6_numberFor_5 kw_2_4 kw_5_197 kw_2_5 kw_1_235 kw_1_9 kw_1_236 ⟨by decide +kernel, oky_X4_numberFor.2.2⟩ ⟨Nat.le_of_ble_eq_true rfl, Nat.le_of_ble_eq_true rfl⟩ rfl (Nat.le_of_ble_eq_true rfl) ea5 (k_X4_numberFor G l e5) ?_
  refine r_imul dX6_numberFor_8 ?_
  refine r_istore (lv' := [(4, vI ((2 : Int32) * v5)), (0, vR (some this)), (1, vR x1), (2, vI x2), (3, vI x3)]) dX6_numberFor_9 (Nat.le_of_ble_eq_true rfl) rfl ?_
  refine r_iload_n 3 dX6_numberFor_11 rfl ?_
  refine r_iconst (x := (2 : Int32)) dX6_numberFor_12 (by decide) ?_
  obtain ⟨v13, e13, hf⟩ := ob hf
  refine r_irem dX6_numberFor_13 e13 ?_
  refine r_if_ne (tgt := 24) dX6_numberFor_14 (by decide) (fun c14 => ?_) (fun c14 => ?_)
  · replace hf := (if_pos c14).symm.trans hf
    refine r_iload 0 dX6_numberFor_17 rfl ?_
    refine r_iconst (x := (1 : Int32)) dX6_numberFor_19 (by decide) ?_
    refine r_isub dX6_numberFor_20 ?_
    refine r_goto (tgt := 26) dX6_numberFor_21 (by decide) ?_
    have hf := Option.some.inj hf
    subst hf
    exact r_iret rfl dX6_numberFor_26
  · replace hf := (if_neg c14).symm.trans hf
    refine r_iload 0 dX6_numberFor_24 rfl ?_
    have hf := Option.some.inj hf
    subst hf
    exact r_iret rfl dX6_numberFor_26
/-! ===== NumberedByAge$Skip.numberFor(LNumberedByAge$Street;II)I ===== -/
abbrev M_X7_numberFor : Mx := (cX7_numberFor, 5, RX7, (false, []), (some .int), 1, 23)
def f_X7_numberFor (h : Hp) (this : Nat) (x1 : Option Nat) (x2 : Int32) (x3 : Int32) : Option Int32 :=
    (rcl h (some this)).bind fun a4 =>
    (f_X3_numberFor h a4.1 x1 x2 x3).bind fun v4 =>
    (gI h (some this) lws 1).bind fun v10 =>
    if (2 : Int32) ≤ v10 then
      (gI h (some this) lws 1).bind fun v29 =>
      (dvI (v4 - (1 : Int32)) (v29 - (1 : Int32))).bind fun v34 =>
      some (v4 + v34)
    else
      some v4
set_option maxRecDepth 100000 in
set_option maxHeartbeats 4000000 in
theorem k_X7_numberFor (G : Gx) (l : Launch) {h : Hp} {this : Nat} {x1 : Option Nat} {x2 : Int32} {x3 : Int32} {r : Int32} (hf : f_X7_numberFor h this x1 x2 x3 = some r) : KM l yX7_numberFor (.code yX7_numberFor cX7_numberFor 5 (some .int) :: wsK) 1 23 G [vR (some this), vR x1, vI x2, vI x3] h (some (vI r)) h := by
  refine r_entry (ctor := false) (own := RX7) (by decide +kernel) rfl (fun q => by cases q) (Nat.le_of_ble_eq_true rfl) ?_
  show RJ G l M_X7_numberFor (some (vI r)) h 0 [(0, vR (some this)), (1, vR x1), (2, vI x2), (3, vI x3)] [] h
  unfold f_X7_numberFor at hf
  refine r_aload_n 0 dX7_numberFor_0 rfl ?_
  refine r_aload_n 1 dX7_numberFor_1 rfl ?_
  refine r_iload_n 2 dX7_numberFor_2 rfl ?_
  refine r_iload_n 3 dX7_numberFor_3 rfl ?_
  obtain ⟨a4, ea4, hf⟩ := ob hf
  obtain ⟨v4, e4, hf⟩ := ob hf
  refine r_callSU (y := yX3_numberFor) (avs := [vR x1, vI x2, vI x3]) dX7_numberFor_4 kw_2_9 kw_1_209 kw_2_10 kw_1_207 kw_1_3 kw_2_16 ⟨by decide +kernel, oky_X3_numberFor.2.2⟩ ⟨Nat.le_of_ble_eq_true rfl, Nat.le_of_ble_eq_true rfl⟩ rfl (Nat.le_of_ble_eq_true rfl) ea4 (k_X3_numberFor G l e4) ?_
  refine r_istore (lv' := [(4, vI v4), (0, vR (some this)), (1, vR x1), (2, vI x2), (3, vI x3)]) dX7_numberFor_7 (Nat.le_of_ble_eq_true rfl) rfl ?_
  refine r_aload_n 1 dX7_numberFor_9 rfl ?_
  obtain ⟨v10, e10, hf⟩ := ob hf
  refine r_get dX7_numberFor_10 fl_L_1 kw_1_47 (Or.inr kw_1_48) (gI_sp e10) ?_
  refine r_iconst (x := (2 : Int32)) dX7_numberFor_13 (by decide) ?_
  refine r_icmp_ge (tgt := 22) dX7_numberFor_14 (by decide) (fun c14 => ?_) (fun c14 => ?_)
  · replace hf := (if_pos c14).symm.trans hf
    refine r_iload 0 dX7_numberFor_22 rfl ?_
    refine r_iload 0 dX7_numberFor_24 rfl ?_
    refine r_iconst (x := (1 : Int32)) dX7_numberFor_26 (by decide) ?_
    refine r_isub dX7_numberFor_27 ?_
    refine r_aload_n 1 dX7_numberFor_28 rfl ?_
    obtain ⟨v29, e29, hf⟩ := ob hf
    refine r_get dX7_numberFor_29 fl_L_1 kw_1_47 (Or.inr kw_1_48) (gI_sp e29) ?_
    refine r_iconst (x := (1 : Int32)) dX7_numberFor_32 (by decide) ?_
    refine r_isub dX7_numberFor_33 ?_
    obtain ⟨v34, e34, hf⟩ := ob hf
    refine r_idiv dX7_numberFor_34 e34 ?_
    refine r_iadd dX7_numberFor_35 ?_
    have hf := Option.some.inj hf
    subst hf
    exact r_iret rfl dX7_numberFor_36
  · replace hf := (if_neg c14).symm.trans hf
    refine r_iload 0 dX7_numberFor_17 rfl ?_
    refine r_goto (tgt := 36) dX7_numberFor_19 (by decide) ?_
    have hf := Option.some.inj hf
    subst hf
    exact r_iret rfl dX7_numberFor_36
/-! ===== NumberedByAge$Twice.numberFor(LNumberedByAge$Street;II)I ===== -/
abbrev M_X9_numberFor : Mx := (cX9_numberFor, 4, RX9, (false, []), (some .int), 1, 23)
def f_X9_numberFor (h : Hp) (this : Nat) (x1 : Option Nat) (x2 : Int32) (x3 : Int32) : Option Int32 :=
    (rcl h (some this)).bind fun a5 =>
    (f_X3_numberFor h a5.1 x1 x2 x3).bind fun v5 =>
    some ((2 : Int32) * v5)
set_option maxRecDepth 100000 in
set_option maxHeartbeats 4000000 in
theorem k_X9_numberFor (G : Gx) (l : Launch) {h : Hp} {this : Nat} {x1 : Option Nat} {x2 : Int32} {x3 : Int32} {r : Int32} (hf : f_X9_numberFor h this x1 x2 x3 = some r) : KM l yX9_numberFor (.code yX9_numberFor cX9_numberFor 4 (some .int) :: wsK) 1 23 G [vR (some this), vR x1, vI x2, vI x3] h (some (vI r)) h := by
  refine r_entry (ctor := false) (own := RX9) (by decide +kernel) rfl (fun q => by cases q) (Nat.le_of_ble_eq_true rfl) ?_
  show RJ G l M_X9_numberFor (some (vI r)) h 0 [(0, vR (some this)), (1, vR x1), (2, vI x2), (3, vI x3)] [] h
  unfold f_X9_numberFor at hf
  refine r_iconst (x := (2 : Int32)) dX9_numberFor_0 (by decide) ?_
  refine r_aload_n 0 dX9_numberFor_1 rfl ?_
  refine r_aload_n 1 dX9_numberFor_2 rfl ?_
  refine r_iload_n 2 dX9_numberFor_3 rfl ?_
  refine r_iload_n 3 dX9_numberFor_4 rfl ?_
  obtain ⟨a5, ea5, hf⟩ := ob hf
  obtain ⟨v5, e5, hf⟩ := ob hf
  refine r_callSU (y := yX3_numberFor) (avs := [vR x1, vI x2, vI x3]) dX9_numberFor_5 kw_2_14 kw_1_209 kw_2_15 kw_1_207 kw_1_3 kw_2_16 ⟨by decide +kernel, oky_X3_numberFor.2.2⟩ ⟨Nat.le_of_ble_eq_true rfl, Nat.le_of_ble_eq_true rfl⟩ rfl (Nat.le_of_ble_eq_true rfl) ea5 (k_X3_numberFor G l e5) ?_
  refine r_imul dX9_numberFor_8 ?_
  have hf := Option.some.inj hf
  subst hf
  exact r_iret rfl dX9_numberFor_9
def f_V_numberFor (h : Hp) (r : Option Nat) (x1 : Option Nat) (x2 : Int32) (x3 : Int32) : Option Int32 :=
  (rcl h r).bind fun q => if q.2 = 0 then f_X0_numberFor h q.1 x1 x2 x3 else if q.2 = 1 then f_X1_numberFor h q.1 x1 x2 x3 else if q.2 = 2 then f_X2_numberFor h q.1 x1 x2 x3 else if q.2 = 3 then f_X3_numberFor h q.1 x1 x2 x3 else if q.2 = 4 then f_X4_numberFor h q.1 x1 x2 x3 else if q.2 = 6 then f_X6_numberFor h q.1 x1 x2 x3 else if q.2 = 7 then f_X7_numberFor h q.1 x1 x2 x3 else if q.2 = 9 then f_X9_numberFor h q.1 x1 x2 x3 else none
set_option maxRecDepth 100000 in
set_option maxHeartbeats 4000000 in
theorem rv_numberFor {G : Gx} {l : Launch} {M : Mx} {Qf : List Frame → Array Value → State → Hp → State → Prop} {h' : Hp} {pc idx : Nat} {lv : List (Nat × Vv)} {st stk : List Vv} {h : Hp} {r : Option Nat} {x1 : Option Nat} {x2 : Int32} {x3 : Int32} {x : Int32} (hd : decode M.1 pc = .ok (.invokevirtual idx, 3)) (w1 : Cond.methodLink M.2.2.1 idx yX3_numberFor ∈ wsK) (hroom : 3 ≤ M.2.2.2.2.2.1 ∧ 69 ≤ M.2.2.2.2.2.2) (hs : [vR x1, vI x2, vI x3].reverse ++ vR r :: st = stk) (hst : (st.map vcat).sum ≤ 8) (e : f_V_numberFor h r x1 x2 x3 = some x) (K : RQ G l M Qf h' (pc + 3) lv (vI x :: st) h) : RQ G l M Qf h' pc lv stk h := by
  unfold f_V_numberFor at e
  obtain ⟨⟨a, ci⟩, ea, e⟩ := ob e
  dsimp only at e
  by_cases c0 : ci = 0
  · replace e := (if_pos c0).symm.trans e
    subst c0
    exact r_callO (y := yX0_numberFor) (x := yX3_numberFor) (ci := 0) (avs := [vR x1, vI x2, vI x3]) hd rfl w1 kw_1_209 kw_1_207 kw_1_210 kw_1_211 kw_1_8 kw_1_212 kw_2_16 oky_X3_numberFor ⟨Nat.le_trans (Nat.le_of_ble_eq_true rfl) hroom.1, Nat.le_trans (Nat.le_of_ble_eq_true rfl) hroom.2⟩ hs hst ea (k_X0_numberFor G l e) K
  · replace e := (if_neg c0).symm.trans e
    by_cases c1 : ci = 1
    · replace e := (if_pos c1).symm.trans e
      subst c1
      exact r_callO (y := yX1_numberFor) (x := yX3_numberFor) (ci := 1) (avs := [vR x1, vI x2, vI x3]) hd rfl w1 kw_1_209 kw_1_207 kw_1_217 kw_1_218 kw_1_10 kw_1_219 kw_2_16 oky_X3_numberFor ⟨Nat.le_trans (Nat.le_of_ble_eq_true rfl) hroom.1, Nat.le_trans (Nat.le_of_ble_eq_true rfl) hroom.2⟩ hs hst ea (k_X1_numberFor G l e) K
    · replace e := (if_neg c1).symm.trans e
      by_cases c2 : ci = 2
      · replace e := (if_pos c2).symm.trans e
        subst c2
        exact r_callO (y := yX2_numberFor) (x := yX3_numberFor) (ci := 2) (avs := [vR x1, vI x2, vI x3]) hd rfl w1 kw_1_209 kw_1_207 kw_1_222 kw_1_223 kw_1_13 kw_1_224 kw_2_16 oky_X3_numberFor ⟨Nat.le_trans (Nat.le_of_ble_eq_true rfl) hroom.1, Nat.le_trans (Nat.le_of_ble_eq_true rfl) hroom.2⟩ hs hst ea (k_X2_numberFor G l e) K
      · replace e := (if_neg c2).symm.trans e
        by_cases c3 : ci = 3
        · replace e := (if_pos c3).symm.trans e
          subst c3
          exact r_callO (y := yX3_numberFor) (x := yX3_numberFor) (ci := 3) (avs := [vR x1, vI x2, vI x3]) hd rfl w1 kw_1_209 kw_1_207 kw_1_208 kw_1_207 kw_1_3 kw_2_16 kw_2_16 oky_X3_numberFor ⟨Nat.le_trans (Nat.le_of_ble_eq_true rfl) hroom.1, Nat.le_trans (Nat.le_of_ble_eq_true rfl) hroom.2⟩ hs hst ea (k_X3_numberFor G l e) K
        · replace e := (if_neg c3).symm.trans e
          by_cases c4 : ci = 4
          · replace e := (if_pos c4).symm.trans e
            subst c4
            exact r_callO (y := yX4_numberFor) (x := yX3_numberFor) (ci := 4) (avs := [vR x1, vI x2, vI x3]) hd rfl w1 kw_1_209 kw_1_207 kw_1_234 kw_1_235 kw_1_9 kw_1_236 kw_2_16 oky_X3_numberFor ⟨Nat.le_trans (Nat.le_of_ble_eq_true rfl) hroom.1, Nat.le_trans (Nat.le_of_ble_eq_true rfl) hroom.2⟩ hs hst ea (k_X4_numberFor G l e) K
          · replace e := (if_neg c4).symm.trans e
            by_cases c6 : ci = 6
            · replace e := (if_pos c6).symm.trans e
              subst c6
              exact r_callO (y := yX6_numberFor) (x := yX3_numberFor) (ci := 6) (avs := [vR x1, vI x2, vI x3]) hd rfl w1 kw_1_209 kw_1_207 kw_2_1 kw_2_2 kw_1_14 kw_2_3 kw_2_16 oky_X3_numberFor ⟨Nat.le_trans (Nat.le_of_ble_eq_true rfl) hroom.1, Nat.le_trans (Nat.le_of_ble_eq_true rfl) hroom.2⟩ hs hst ea (k_X6_numberFor G l e) K
            · replace e := (if_neg c6).symm.trans e
              by_cases c7 : ci = 7
              · replace e := (if_pos c7).symm.trans e
                subst c7
                exact r_callO (y := yX7_numberFor) (x := yX3_numberFor) (ci := 7) (avs := [vR x1, vI x2, vI x3]) hd rfl w1 kw_1_209 kw_1_207 kw_2_6 kw_2_7 kw_1_12 kw_2_8 kw_2_16 oky_X3_numberFor ⟨Nat.le_trans (Nat.le_of_ble_eq_true rfl) hroom.1, Nat.le_trans (Nat.le_of_ble_eq_true rfl) hroom.2⟩ hs hst ea (k_X7_numberFor G l e) K
              · replace e := (if_neg c7).symm.trans e
                by_cases c9 : ci = 9
                · replace e := (if_pos c9).symm.trans e
                  subst c9
                  exact r_callO (y := yX9_numberFor) (x := yX3_numberFor) (ci := 9) (avs := [vR x1, vI x2, vI x3]) hd rfl w1 kw_1_209 kw_1_207 kw_2_11 kw_2_12 kw_1_11 kw_2_13 kw_2_16 oky_X3_numberFor ⟨Nat.le_trans (Nat.le_of_ble_eq_true rfl) hroom.1, Nat.le_trans (Nat.le_of_ble_eq_true rfl) hroom.2⟩ hs hst ea (k_X9_numberFor G l e) K
                · replace e := (if_neg c9).symm.trans e
                  cases e

/-! ===== NumberedByAge$Quarter.<init>(II)V ===== -/
abbrev M_X4_init : Mx := (cX4_init, 3, RX4, (true, []), none, 2, 42)
def f_X4_init (h : Hp) (this : Nat) (x1 : Int32) (x2 : Int32) : Option Hp :=
    (f_X3_init h this x1 x2).bind fun h3 =>
    some h3
set_option maxRecDepth 100000 in
set_option maxHeartbeats 4000000 in
theorem k_X4_init (G : Gx) (l : Launch) {h : Hp} {this : Nat} {x1 : Int32} {x2 : Int32} {r : Hp} (hf : f_X4_init h this x1 x2 = some r) : KM l yX4_init (.code yX4_init cX4_init 3 none :: wsK) 2 42 G [vR (some this), vI x1, vI x2] h none r := by
  refine r_entry (ctor := true) (own := RX4) (by decide +kernel) rfl (fun _ => rfl) (Nat.le_of_ble_eq_true rfl) ?_
  show RJ G l M_X4_init none r 0 [(0, vR (some this)), (1, vI x1), (2, vI x2)] [] h
  unfold f_X4_init at hf
  refine r_aload_n 0 dX4_init_0 rfl ?_
  refine r_iload_n 1 dX4_init_1 rfl ?_
  refine r_iload_n 2 dX4_init_2 rfl ?_
  obtain ⟨h3, e3, hf⟩ := ob hf
  refine r_callI (y := yX3_init) (avs := [vI x1, vI x2]) dX4_init_3 kw_2_44 kw_1_39 kw_1_3 kw_1_40 rfl oky_X3_init ⟨Nat.le_of_ble_eq_true rfl, Nat.le_of_ble_eq_true rfl⟩ rfl (Nat.le_of_ble_eq_true rfl) (k_X3_init G l e3) ?_
  have hf := Option.some.inj hf
  subst hf
  exact r_vret rfl dX4_init_6
/-! ===== NumberedByAge$High.<init>(II)V ===== -/
abbrev M_X1_init : Mx := (cX1_init, 3, RX1, (true, []), none, 2, 42)
def f_X1_init (h : Hp) (this : Nat) (x1 : Int32) (x2 : Int32) : Option Hp :=
    (f_X3_init h this x1 x2).bind fun h3 =>
    some h3
set_option maxRecDepth 100000 in
set_option maxHeartbeats 4000000 in
theorem k_X1_init (G : Gx) (l : Launch) {h : Hp} {this : Nat} {x1 : Int32} {x2 : Int32} {r : Hp} (hf : f_X1_init h this x1 x2 = some r) : KM l yX1_init (.code yX1_init cX1_init 3 none :: wsK) 2 42 G [vR (some this), vI x1, vI x2] h none r := by
  refine r_entry (ctor := true) (own := RX1) (by decide +kernel) rfl (fun _ => rfl) (Nat.le_of_ble_eq_true rfl) ?_
  show RJ G l M_X1_init none r 0 [(0, vR (some this)), (1, vI x1), (2, vI x2)] [] h
  unfold f_X1_init at hf
  refine r_aload_n 0 dX1_init_0 rfl ?_
  refine r_iload_n 1 dX1_init_1 rfl ?_
  refine r_iload_n 2 dX1_init_2 rfl ?_
  obtain ⟨h3, e3, hf⟩ := ob hf
  refine r_callI (y := yX3_init) (avs := [vI x1, vI x2]) dX1_init_3 kw_2_53 kw_1_39 kw_1_3 kw_1_40 rfl oky_X3_init ⟨Nat.le_of_ble_eq_true rfl, Nat.le_of_ble_eq_true rfl⟩ rfl (Nat.le_of_ble_eq_true rfl) (k_X3_init G l e3) ?_
  have hf := Option.some.inj hf
  subst hf
  exact r_vret rfl dX1_init_6
/-! ===== NumberedByAge$Twice.<init>(II)V ===== -/
abbrev M_X9_init : Mx := (cX9_init, 3, RX9, (true, []), none, 2, 42)
def f_X9_init (h : Hp) (this : Nat) (x1 : Int32) (x2 : Int32) : Option Hp :=
    (f_X3_init h this x1 x2).bind fun h3 =>
    some h3
set_option maxRecDepth 100000 in
set_option maxHeartbeats 4000000 in
theorem k_X9_init (G : Gx) (l : Launch) {h : Hp} {this : Nat} {x1 : Int32} {x2 : Int32} {r : Hp} (hf : f_X9_init h this x1 x2 = some r) : KM l yX9_init (.code yX9_init cX9_init 3 none :: wsK) 2 42 G [vR (some this), vI x1, vI x2] h none r := by
  refine r_entry (ctor := true) (own := RX9) (by decide +kernel) rfl (fun _ => rfl) (Nat.le_of_ble_eq_true rfl) ?_
  show RJ G l M_X9_init none r 0 [(0, vR (some this)), (1, vI x1), (2, vI x2)] [] h
  unfold f_X9_init at hf
  refine r_aload_n 0 dX9_init_0 rfl ?_
  refine r_iload_n 1 dX9_init_1 rfl ?_
  refine r_iload_n 2 dX9_init_2 rfl ?_
  obtain ⟨h3, e3, hf⟩ := ob hf
  refine r_callI (y := yX3_init) (avs := [vI x1, vI x2]) dX9_init_3 kw_2_61 kw_1_39 kw_1_3 kw_1_40 rfl oky_X3_init ⟨Nat.le_of_ble_eq_true rfl, Nat.le_of_ble_eq_true rfl⟩ rfl (Nat.le_of_ble_eq_true rfl) (k_X3_init G l e3) ?_
  have hf := Option.some.inj hf
  subst hf
  exact r_vret rfl dX9_init_6
/-! ===== NumberedByAge$Skip.<init>(II)V ===== -/
abbrev M_X7_init : Mx := (cX7_init, 3, RX7, (true, []), none, 2, 42)
def f_X7_init (h : Hp) (this : Nat) (x1 : Int32) (x2 : Int32) : Option Hp :=
    (f_X3_init h this x1 x2).bind fun h3 =>
    some h3
set_option maxRecDepth 100000 in
set_option maxHeartbeats 4000000 in
theorem k_X7_init (G : Gx) (l : Launch) {h : Hp} {this : Nat} {x1 : Int32} {x2 : Int32} {r : Hp} (hf : f_X7_init h this x1 x2 = some r) : KM l yX7_init (.code yX7_init cX7_init 3 none :: wsK) 2 42 G [vR (some this), vI x1, vI x2] h none r := by
  refine r_entry (ctor := true) (own := RX7) (by decide +kernel) rfl (fun _ => rfl) (Nat.le_of_ble_eq_true rfl) ?_
  show RJ G l M_X7_init none r 0 [(0, vR (some this)), (1, vI x1), (2, vI x2)] [] h
  unfold f_X7_init at hf
  refine r_aload_n 0 dX7_init_0 rfl ?_
  refine r_iload_n 1 dX7_init_1 rfl ?_
  refine r_iload_n 2 dX7_init_2 rfl ?_
  obtain ⟨h3, e3, hf⟩ := ob hf
  refine r_callI (y := yX3_init) (avs := [vI x1, vI x2]) dX7_init_3 kw_2_69 kw_1_39 kw_1_3 kw_1_40 rfl oky_X3_init ⟨Nat.le_of_ble_eq_true rfl, Nat.le_of_ble_eq_true rfl⟩ rfl (Nat.le_of_ble_eq_true rfl) (k_X3_init G l e3) ?_
  have hf := Option.some.inj hf
  subst hf
  exact r_vret rfl dX7_init_6
/-! ===== NumberedByAge$Last.<init>(II)V ===== -/
abbrev M_X2_init : Mx := (cX2_init, 3, RX2, (true, []), none, 3, 64)
def f_X2_init (h : Hp) (this : Nat) (x1 : Int32) (x2 : Int32) : Option Hp :=
    (f_X0_init h this x1 x2).bind fun h3 =>
    some h3
set_option maxRecDepth 100000 in
set_option maxHeartbeats 4000000 in
theorem k_X2_init (G : Gx) (l : Launch) {h : Hp} {this : Nat} {x1 : Int32} {x2 : Int32} {r : Hp} (hf : f_X2_init h this x1 x2 = some r) : KM l yX2_init (.code yX2_init cX2_init 3 none :: wsK) 3 64 G [vR (some this), vI x1, vI x2] h none r := by
  refine r_entry (ctor := true) (own := RX2) (by decide +kernel) rfl (fun _ => rfl) (Nat.le_of_ble_eq_true rfl) ?_
  show RJ G l M_X2_init none r 0 [(0, vR (some this)), (1, vI x1), (2, vI x2)] [] h
  unfold f_X2_init at hf
  refine r_aload_n 0 dX2_init_0 rfl ?_
  refine r_iload_n 1 dX2_init_1 rfl ?_
  refine r_iload_n 2 dX2_init_2 rfl ?_
  obtain ⟨h3, e3, hf⟩ := ob hf
  refine r_callI (y := yX0_init) (avs := [vI x1, vI x2]) dX2_init_3 kw_2_77 kw_2_33 kw_1_8 kw_2_34 rfl oky_X0_init ⟨Nat.le_of_ble_eq_true rfl, Nat.le_of_ble_eq_true rfl⟩ rfl (Nat.le_of_ble_eq_true rfl) (k_X0_init G l e3) ?_
  have hf := Option.some.inj hf
  subst hf
  exact r_vret rfl dX2_init_6
/-! ===== NumberedByAge$Side.<init>(II)V ===== -/
abbrev M_X6_init : Mx := (cX6_init, 3, RX6, (true, []), none, 3, 64)
def f_X6_init (h : Hp) (this : Nat) (x1 : Int32) (x2 : Int32) : Option Hp :=
    (f_X4_init h this x1 x2).bind fun h3 =>
    some h3
set_option maxRecDepth 100000 in
set_option maxHeartbeats 4000000 in
theorem k_X6_init (G : Gx) (l : Launch) {h : Hp} {this : Nat} {x1 : Int32} {x2 : Int32} {r : Hp} (hf : f_X6_init h this x1 x2 = some r) : KM l yX6_init (.code yX6_init cX6_init 3 none :: wsK) 3 64 G [vR (some this), vI x1, vI x2] h none r := by
  refine r_entry (ctor := true) (own := RX6) (by decide +kernel) rfl (fun _ => rfl) (Nat.le_of_ble_eq_true rfl) ?_
  show RJ G l M_X6_init none r 0 [(0, vR (some this)), (1, vI x1), (2, vI x2)] [] h
  unfold f_X6_init at hf
  refine r_aload_n 0 dX6_init_0 rfl ?_
  refine r_iload_n 1 dX6_init_1 rfl ?_
  refine r_iload_n 2 dX6_init_2 rfl ?_
  obtain ⟨h3, e3, hf⟩ := ob hf
  refine r_callI (y := yX4_init) (avs := [vI x1, vI x2]) dX6_init_3 kw_2_85 kw_2_42 kw_1_9 kw_2_43 rfl oky_X4_init ⟨Nat.le_of_ble_eq_true rfl, Nat.le_of_ble_eq_true rfl⟩ rfl (Nat.le_of_ble_eq_true rfl) (k_X4_init G l e3) ?_
  have hf := Option.some.inj hf
  subst hf
  exact r_vret rfl dX6_init_6
/-! ===== NumberedByAge$Shelf.hasPlace(I)Z ===== -/
abbrev M_X5_hasPlace : Mx := (cX5_hasPlace, 2, RX5, (false, []), (some .boolean), 0, 0)
def f_X5_hasPlace_16 (h : Hp) (this : Nat)  : Option Int32 :=
    okZ (0 : Int32)
set_option maxRecDepth 100000 in
set_option maxHeartbeats 4000000 in
theorem t_X5_hasPlace_16 (G : Gx) (l : Launch) (h : Hp) (this : Nat)   (r : Int32) (hf : f_X5_hasPlace_16 h this = some r) : RJ G l M_X5_hasPlace (some (vI r)) h 16 [(0, vR (some this))] [] h := by
  unfold f_X5_hasPlace_16 at hf
  refine r_iconst (x := (0 : Int32)) dX5_hasPlace_16 (by decide) ?_
  exact r_zret rfl dX5_hasPlace_17 hf
def f_X5_hasPlace (h : Hp) (this : Nat) (x1 : Int32) : Option Int32 :=
    if x1 < 0 then
      f_X5_hasPlace_16 h this 
    else
      (gI h (some this) [5] 2).bind fun v6 =>
      if v6 ≤ x1 then
        f_X5_hasPlace_16 h this 
      else
        okZ (1 : Int32)
set_option maxRecDepth 100000 in
set_option maxHeartbeats 4000000 in
theorem k_X5_hasPlace (G : Gx) (l : Launch) {h : Hp} {this : Nat} {x1 : Int32} {r : Int32} (hf : f_X5_hasPlace h this x1 = some r) : KM l yX5_hasPlace (.code yX5_hasPlace cX5_hasPlace 2 (some .boolean) :: wsK) 0 0 G [vR (some this), vI x1] h (some (vI r)) h := by
  refine r_entry (ctor := false) (own := RX5) (by decide +kernel) rfl (fun q => by cases q) (Nat.le_of_ble_eq_true rfl) ?_
  show RJ G l M_X5_hasPlace (some (vI r)) h 0 [(0, vR (some this)), (1, vI x1)] [] h
  unfold f_X5_hasPlace at hf
  refine r_iload_n 1 dX5_hasPlace_0 rfl ?_
  refine r_if_lt (tgt := 16) dX5_hasPlace_1 (by decide) (fun c1 => ?_) (fun c1 => ?_)
  · replace hf := (if_pos c1).symm.trans hf
    exact r_sub [0] rfl (t_X5_hasPlace_16 G l _ _  _ hf)
  · replace hf := (if_neg c1).symm.trans hf
    refine r_iload_n 1 dX5_hasPlace_4 rfl ?_
    refine r_aload_n 0 dX5_hasPlace_5 rfl ?_
    obtain ⟨v6, e6, hf⟩ := ob hf
    refine r_get dX5_hasPlace_6 fl_5_2 kw_1_108 (Or.inl rfl) (gI_sp e6) ?_
    refine r_icmp_ge (tgt := 16) dX5_hasPlace_9 (by decide) (fun c9 => ?_) (fun c9 => ?_)
    · replace hf := (if_pos c9).symm.trans hf
      exact r_sub [0] rfl (t_X5_hasPlace_16 G l _ _  _ hf)
    · replace hf := (if_neg c9).symm.trans hf
      refine r_iconst (x := (1 : Int32)) dX5_hasPlace_12 (by decide) ?_
      refine r_goto (tgt := 17) dX5_hasPlace_13 (by decide) ?_
      exact r_zret rfl dX5_hasPlace_17 hf
