/-! ===== NumberedByAge.laws(I)I ===== -/
abbrev M_X10_laws : Mx := (cX10_laws, 5, RX10, (false, []), (some .int), 5, 115)
def f_X10_laws_57 (this : Nat) (k4 : Hp → Int32 → Int32 → Int32 → Option (Int32 × Hp)) (h : Hp) (x1 : Int32) (x2 : Int32) (x3 : Int32) : Option (Int32 × Hp) :=
    k4 h x1 x2 (x3 + 1)
set_option maxRecDepth 100000 in
set_option maxHeartbeats 4000000 in
theorem t_X10_laws_57 (G : Gx) (l : Launch) (this : Nat) (k4 : Hp → Int32 → Int32 → Int32 → Option (Int32 × Hp)) (hk4 : ∀ (h : Hp) (x1 : Int32) (x2 : Int32) (x3 : Int32) (r : (Int32 × Hp)), k4 h x1 x2 x3 = some r → RJ G l M_X10_laws (some (vI r.1)) r.2 4 [(0, vR (some this)), (1, vI x1), (2, vI x2), (3, vI x3)] [] h) (h : Hp) (x1 : Int32) (x2 : Int32) (x3 : Int32) (r : (Int32 × Hp)) (hf : f_X10_laws_57 this k4 h x1 x2 x3 = some r) : RJ G l M_X10_laws (some (vI r.1)) r.2 57 [(0, vR (some this)), (1, vI x1), (2, vI x2), (3, vI x3)] [] h := by
  unfold f_X10_laws_57 at hf
  refine r_iinc (y := (x3 + 1)) (lv' := [(3, vI (x3 + 1)), (0, vR (some this)), (1, vI x1), (2, vI x2)]) 3 dX10_laws_57 rfl rfl (Nat.le_of_ble_eq_true rfl) rfl ?_
  refine r_goto (tgt := 4) dX10_laws_60 (by decide) ?_
  exact r_sub [1, 2, 3, 0] rfl (hk4 _ _ _ _ _ hf)
def f_X10_laws_4 (this : Nat) : Nat → Hp → Int32 → Int32 → Int32 → Option (Int32 × Hp)
  | 0, _, _, _, _ => none
  | n + 1, h, x1, x2, x3 =>
    if (8 : Int32) ≤ x3 then
      some (x2, h)
    else
      (f_X10_lawOf h x3 x1).bind fun q12 =>
      if q12.1 = none then
        some ((-1 : Int32), q12.2)
      else
        (gR q12.2 (some this) [10] 1).bind fun v25 =>
        (gR q12.2 (some this) [10] 0).bind fun v29 =>
        (rcv q12.2 v25 8).bind fun a34 =>
        (f_X8_goThrough q12.2 a34 v29 q12.1).bind fun h34 =>
        (gR h34 (some this) [10] 1).bind fun v38 =>
        (gR h34 (some this) [10] 0).bind fun v42 =>
        (rcv h34 v38 8).bind fun a45 =>
        (f_X8_hasNumbersOf h34 a45 v42).bind fun v45 =>
        if v45 = 0 then
          f_X10_laws_57 this (f_X10_laws_4 this n) h34 x1 x2 x3
        else
          f_X10_laws_57 this (f_X10_laws_4 this n) h34 x1 (x2 ||| ((1 : Int32) <<< (x3 &&& 31))) x3
set_option maxRecDepth 100000 in
set_option maxHeartbeats 4000000 in
theorem t_X10_laws_4 (G : Gx) (l : Launch) (this : Nat)  : ∀ (n : Nat) (h : Hp) (x1 : Int32) (x2 : Int32) (x3 : Int32) (r : (Int32 × Hp)), f_X10_laws_4 this n h x1 x2 x3 = some r → RJ G l M_X10_laws (some (vI r.1)) r.2 4 [(0, vR (some this)), (1, vI x1), (2, vI x2), (3, vI x3)] [] h := by
  intro n
  induction n with
  | zero =>
    intro h x1 x2 x3 r hf
    rw [f_X10_laws_4] at hf
    cases hf
  | succ n ih =>
    intro h x1 x2 x3 r hf
    rw [f_X10_laws_4] at hf
    refine r_iload_n 3 dX10_laws_4 rfl ?_
    refine r_bipush (x := (8 : Int32)) dX10_laws_5 (by decide) ?_
    refine r_icmp_ge (tgt := 63) dX10_laws_7 (by decide) (fun c7 => ?_) (fun c7 => ?_)
    · replace hf := (if_pos c7).symm.trans hf
      refine r_iload_n 2 dX10_laws_63 rfl ?_
      have hf := Option.some.inj hf
      subst hf
      exact r_iret rfl dX10_laws_64
    · replace hf := (if_neg c7).symm.trans hf
      refine r_iload_n 3 dX10_laws_10 rfl ?_
      refine r_iload_n 1 dX10_laws_11 rfl ?_
      obtain ⟨q12, e12, hf⟩ := ob hf
      refine r_callS (y := yX10_lawOf) (avs := [vI x3, vI x1]) dX10_laws_12 kw_2_25 kw_2_26 kw_1_1 kw_2_27 oky_X10_lawOf ⟨Nat.le_of_ble_eq_true rfl, Nat.le_of_ble_eq_true rfl⟩ rfl (Nat.le_of_ble_eq_true rfl) (k_X10_lawOf G l e12) ?_
      refine r_astore (lv' := [(4, vR q12.1), (0, vR (some this)), (1, vI x1), (2, vI x2), (3, vI x3)]) dX10_laws_15 (Nat.le_of_ble_eq_true rfl) rfl ?_
      refine r_aload 0 dX10_laws_17 rfl ?_
      refine r_ifnonnull (tgt := 24) dX10_laws_19 (by decide) (fun c19 => ?_) (fun c19 => ?_)
      · replace hf := (if_pos c19).symm.trans hf
        refine r_iconst (x := (-1 : Int32)) dX10_laws_22 (by decide) ?_
        have hf := Option.some.inj hf
        subst hf
        exact r_iret rfl dX10_laws_23
      · replace hf := (if_neg c19).symm.trans hf
        refine r_aload_n 1 dX10_laws_24 rfl ?_
        obtain ⟨v25, e25, hf⟩ := ob hf
        refine r_get dX10_laws_25 fl_10_1 kw_1_122 (Or.inl rfl) (gR_sp e25) ?_
        refine r_aload_n 1 dX10_laws_28 rfl ?_
        obtain ⟨v29, e29, hf⟩ := ob hf
        refine r_get dX10_laws_29 fl_10_0 kw_1_121 (Or.inl rfl) (gR_sp e29) ?_
        refine r_aload 0 dX10_laws_32 rfl ?_
        obtain ⟨a34, ea34, hf⟩ := ob hf
        obtain ⟨h34, e34, hf⟩ := ob hf
        refine r_callV (y := yX8_goThrough) (ci := 8) (avs := [vR v29, vR q12.1]) dX10_laws_34 rfl kw_2_210 kw_2_211 kw_2_212 kw_1_2 kw_2_213 oky_X8_goThrough ⟨Nat.le_of_ble_eq_true rfl, Nat.le_of_ble_eq_true rfl⟩ rfl (Nat.le_of_ble_eq_true rfl) ea34 (k_X8_goThrough G l e34) ?_
        refine r_aload_n 1 dX10_laws_37 rfl ?_
        obtain ⟨v38, e38, hf⟩ := ob hf
        refine r_get dX10_laws_38 fl_10_1 kw_1_122 (Or.inl rfl) (gR_sp e38) ?_
        refine r_aload_n 1 dX10_laws_41 rfl ?_
        obtain ⟨v42, e42, hf⟩ := ob hf
        refine r_get dX10_laws_42 fl_10_0 kw_1_121 (Or.inl rfl) (gR_sp e42) ?_
        obtain ⟨a45, ea45, hf⟩ := ob hf
        obtain ⟨v45, e45, hf⟩ := ob hf
        refine r_callV (y := yX8_hasNumbersOf) (ci := 8) (avs := [vR v42]) dX10_laws_45 rfl kw_2_227 kw_2_228 kw_2_229 kw_1_2 kw_2_230 oky_X8_hasNumbersOf ⟨Nat.le_of_ble_eq_true rfl, Nat.le_of_ble_eq_true rfl⟩ rfl (Nat.le_of_ble_eq_true rfl) ea45 (k_X8_hasNumbersOf G l e45) ?_
        refine r_if_eq (tgt := 57) dX10_laws_48 (by decide) (fun c48 => ?_) (fun c48 => ?_)
        · replace hf := (if_pos c48).symm.trans hf
          exact r_sub [1, 2, 3, 4] rfl (t_X10_laws_57 G l _ (f_X10_laws_4 this n) ih _ _ _ _ _ hf)
        · replace hf := (if_neg c48).symm.trans hf
          refine r_iload_n 3 dX10_laws_51 rfl ?_
          refine r_iconst (x := (1 : Int32)) dX10_laws_52 (by decide) ?_
          refine r_iload_n 4 dX10_laws_53 rfl ?_
          refine r_ishl dX10_laws_54 ?_
          refine r_ior dX10_laws_55 ?_
          refine r_istore_n (lv' := [(2, vI (x2 ||| ((1 : Int32) <<< (x3 &&& 31)))), (4, vR q12.1), (0, vR (some this)), (1, vI x1), (3, vI x3)]) dX10_laws_56 (Nat.le_of_ble_eq_true rfl) rfl ?_
          exact r_sub [2, 3, 0, 4] rfl (t_X10_laws_57 G l _ (f_X10_laws_4 this n) ih _ _ _ _ _ hf)
def f_X10_laws (h : Hp) (this : Nat) (x1 : Int32) : Option (Int32 × Hp) :=
    f_X10_laws_4 this 10000 h x1 (0 : Int32) (0 : Int32)
set_option maxRecDepth 100000 in
set_option maxHeartbeats 4000000 in
theorem k_X10_laws (G : Gx) (l : Launch) {h : Hp} {this : Nat} {x1 : Int32} {r : (Int32 × Hp)} (hf : f_X10_laws h this x1 = some r) : KM l yX10_laws (.code yX10_laws cX10_laws 5 (some .int) :: wsK) 5 115 G [vR (some this), vI x1] h (some (vI r.1)) r.2 := by
  refine r_entry (ctor := false) (own := RX10) (by decide +kernel) rfl (fun q => by cases q) (Nat.le_of_ble_eq_true rfl) ?_
  show RJ G l M_X10_laws (some (vI r.1)) r.2 0 [(0, vR (some this)), (1, vI x1)] [] h
  unfold f_X10_laws at hf
  refine r_iconst (x := (0 : Int32)) dX10_laws_0 (by decide) ?_
  refine r_istore_n (lv' := [(2, vI (0 : Int32)), (0, vR (some this)), (1, vI x1)]) dX10_laws_1 (Nat.le_of_ble_eq_true rfl) rfl ?_
  refine r_iconst (x := (0 : Int32)) dX10_laws_2 (by decide) ?_
  refine r_istore_n (lv' := [(3, vI (0 : Int32)), (2, vI (0 : Int32)), (0, vR (some this)), (1, vI x1)]) dX10_laws_3 (Nat.le_of_ble_eq_true rfl) rfl ?_
  exact r_sub [2, 3, 1, 0] rfl (t_X10_laws_4 G l _ _ _ _ _ _ _ hf)
/-! ===== NumberedByAge.plotsBetween(II)I ===== -/
abbrev M_X10_plotsBetween : Mx := (cX10_plotsBetween, 2, RX10, (false, []), (some .int), 0, 0)
def f_X10_plotsBetween (h : Hp) (x0 : Int32) (x1 : Int32) : Option Int32 :=
    some (((4095 : Int32) >>> (((11 : Int32) - x1) &&& 31)) &&& ((4095 : Int32) <<< (x0 &&& 31)))
set_option maxRecDepth 100000 in
set_option maxHeartbeats 4000000 in
theorem k_X10_plotsBetween (G : Gx) (l : Launch) {h : Hp} {x0 : Int32} {x1 : Int32} {r : Int32} (hf : f_X10_plotsBetween h x0 x1 = some r) : KM l yX10_plotsBetween (.code yX10_plotsBetween cX10_plotsBetween 2 (some .int) :: wsK) 0 0 G [vI x0, vI x1] h (some (vI r)) h := by
  refine r_entry (ctor := false) (own := RX10) (by decide +kernel) rfl (fun q => by cases q) (Nat.le_of_ble_eq_true rfl) ?_
  show RJ G l M_X10_plotsBetween (some (vI r)) h 0 [(0, vI x0), (1, vI x1)] [] h
  unfold f_X10_plotsBetween at hf
  refine r_sipush (x := (4095 : Int32)) dX10_plotsBetween_0 (by decide) ?_
  refine r_bipush (x := (11 : Int32)) dX10_plotsBetween_3 (by decide) ?_
  refine r_iload_n 1 dX10_plotsBetween_5 rfl ?_
  refine r_isub dX10_plotsBetween_6 ?_
  refine r_ishr dX10_plotsBetween_7 ?_
  refine r_sipush (x := (4095 : Int32)) dX10_plotsBetween_8 (by decide) ?_
  refine r_iload_n 0 dX10_plotsBetween_11 rfl ?_
  refine r_ishl dX10_plotsBetween_12 ?_
  refine r_iand dX10_plotsBetween_13 ?_
  have hf := Option.some.inj hf
  subst hf
  exact r_iret rfl dX10_plotsBetween_14
/-! ===== NumberedByAge.leastWay(LNumberedByAge$Shelf;I)I ===== -/
abbrev M_X10_leastWay : Mx := (cX10_leastWay, 7, RX10, (false, []), (some .int), 3, 65)
def f_X10_leastWay_65 (h : Hp) (this : Nat) (k6 : (Option Nat) → Int32 → Int32 → Int32 → Option Int32) (k15 : (Option Nat) → Int32 → Int32 → Int32 → Int32 → Option Int32) (x1 : Option Nat) (x2 : Int32) (x3 : Int32) (x4 : Int32) (x5 : Int32) : Option Int32 :=
    k15 x1 x2 x3 x4 (x5 + 1)
set_option maxRecDepth 100000 in
set_option maxHeartbeats 4000000 in
theorem t_X10_leastWay_65 (G : Gx) (l : Launch) (h : Hp) (this : Nat) (k6 : (Option Nat) → Int32 → Int32 → Int32 → Option Int32) (hk6 : ∀ (x1 : Option Nat) (x2 : Int32) (x3 : Int32) (x4 : Int32) (r : Int32), k6 x1 x2 x3 x4 = some r → RJ G l M_X10_leastWay (some (vI r)) h 6 [(0, vR (some this)), (1, vR x1), (2, vI x2), (3, vI x3), (4, vI x4)] [] h) (k15 : (Option Nat) → Int32 → Int32 → Int32 → Int32 → Option Int32) (hk15 : ∀ (x1 : Option Nat) (x2 : Int32) (x3 : Int32) (x4 : Int32) (x5 : Int32) (r : Int32), k15 x1 x2 x3 x4 x5 = some r → RJ G l M_X10_leastWay (some (vI r)) h 15 [(0, vR (some this)), (1, vR x1), (2, vI x2), (3, vI x3), (4, vI x4), (5, vI x5)] [] h) (x1 : Option Nat) (x2 : Int32) (x3 : Int32) (x4 : Int32) (x5 : Int32) (r : Int32) (hf : f_X10_leastWay_65 h this k6 k15 x1 x2 x3 x4 x5 = some r) : RJ G l M_X10_leastWay (some (vI r)) h 65 [(0, vR (some this)), (1, vR x1), (2, vI x2), (3, vI x3), (4, vI x4), (5, vI x5)] [] h := by
  unfold f_X10_leastWay_65 at hf
  refine r_iinc (y := (x5 + 1)) (lv' := [(5, vI (x5 + 1)), (0, vR (some this)), (1, vR x1), (2, vI x2), (3, vI x3), (4, vI x4)]) 5 dX10_leastWay_65 rfl rfl (Nat.le_of_ble_eq_true rfl) rfl ?_
  refine r_goto (tgt := 15) dX10_leastWay_68 (by decide) ?_
  exact r_sub [1, 2, 3, 4, 5, 0] rfl (hk15 _ _ _ _ _ _ hf)
def f_X10_leastWay_15 (h : Hp) (this : Nat) (k6 : (Option Nat) → Int32 → Int32 → Int32 → Option Int32) : Nat → (Option Nat) → Int32 → Int32 → Int32 → Int32 → Option Int32
  | 0, _, _, _, _, _ => none
  | n + 1, x1, x2, x3, x4, x5 =>
    if (12 : Int32) ≤ x5 then
      k6 x1 x2 x3 (x4 + 1)
    else
      if x3 ≤ ((x5 - x4) + (mnI (x2 - x4) (x5 - x2))) then
        f_X10_leastWay_65 h this k6 (f_X10_leastWay_15 h this k6 n) x1 x2 x3 x4 x5
      else
        (f_X10_plotsBetween h x4 x5).bind fun v53 =>
        (rcv h (some this) 10).bind fun a56 =>
        (f_X10_comesByAll h a56 x1 v53).bind fun v56 =>
        if v56 = 0 then
          f_X10_leastWay_65 h this k6 (f_X10_leastWay_15 h this k6 n) x1 x2 x3 x4 x5
        else
          f_X10_leastWay_65 h this k6 (f_X10_leastWay_15 h this k6 n) x1 x2 ((x5 - x4) + (mnI (x2 - x4) (x5 - x2))) x4 x5
set_option maxRecDepth 100000 in
set_option maxHeartbeats 4000000 in
theorem t_X10_leastWay_15 (G : Gx) (l : Launch) (h : Hp) (this : Nat) (k6 : (Option Nat) → Int32 → Int32 → Int32 → Option Int32) (hk6 : ∀ (x1 : Option Nat) (x2 : Int32) (x3 : Int32) (x4 : Int32) (r : Int32), k6 x1 x2 x3 x4 = some r → RJ G l M_X10_leastWay (some (vI r)) h 6 [(0, vR (some this)), (1, vR x1), (2, vI x2), (3, vI x3), (4, vI x4)] [] h) : ∀ (n : Nat) (x1 : Option Nat) (x2 : Int32) (x3 : Int32) (x4 : Int32) (x5 : Int32) (r : Int32), f_X10_leastWay_15 h this k6 n x1 x2 x3 x4 x5 = some r → RJ G l M_X10_leastWay (some (vI r)) h 15 [(0, vR (some this)), (1, vR x1), (2, vI x2), (3, vI x3), (4, vI x4), (5, vI x5)] [] h := by
  intro n
  induction n with
  | zero =>
    intro x1 x2 x3 x4 x5 r hf
    rw [f_X10_leastWay_15] at hf
    cases hf
  | succ n ih =>
    intro x1 x2 x3 x4 x5 r hf
    rw [f_X10_leastWay_15] at hf
    refine r_iload 5 dX10_leastWay_15 rfl ?_
    refine r_bipush (x := (12 : Int32)) dX10_leastWay_17 (by decide) ?_
    refine r_icmp_ge (tgt := 71) dX10_leastWay_19 (by decide) (fun c19 => ?_) (fun c19 => ?_)
    · replace hf := (if_pos c19).symm.trans hf
      refine r_iinc (y := (x4 + 1)) (lv' := [(4, vI (x4 + 1)), (0, vR (some this)), (1, vR x1), (2, vI x2), (3, vI x3), (5, vI x5)]) 4 dX10_leastWay_71 rfl rfl (Nat.le_of_ble_eq_true rfl) rfl ?_
      refine r_goto (tgt := 6) dX10_leastWay_74 (by decide) ?_
      exact r_sub [1, 2, 3, 4, 0] rfl (hk6 _ _ _ _ _ hf)
    · replace hf := (if_neg c19).symm.trans hf
      refine r_iload 5 dX10_leastWay_22 rfl ?_
      refine r_iload 4 dX10_leastWay_24 rfl ?_
      refine r_isub dX10_leastWay_26 ?_
      refine r_iload_n 2 dX10_leastWay_27 rfl ?_
      refine r_iload 4 dX10_leastWay_28 rfl ?_
      refine r_isub dX10_leastWay_30 ?_
      refine r_iload 5 dX10_leastWay_31 rfl ?_
      refine r_iload_n 2 dX10_leastWay_33 rfl ?_
      refine r_isub dX10_leastWay_34 ?_
      refine r_min dX10_leastWay_35 kw_2_172 kw_2_173 kw_1_7 kw_2_174 ⟨Nat.le_of_ble_eq_true rfl, Nat.le_of_ble_eq_true rfl⟩ (Nat.le_of_ble_eq_true rfl) ?_
      refine r_iadd dX10_leastWay_38 ?_
      refine r_istore (lv' := [(6, vI ((x5 - x4) + (mnI (x2 - x4) (x5 - x2)))), (0, vR (some this)), (1, vR x1), (2, vI x2), (3, vI x3), (4, vI x4), (5, vI x5)]) dX10_leastWay_39 (Nat.le_of_ble_eq_true rfl) rfl ?_
      refine r_iload 0 dX10_leastWay_41 rfl ?_
      refine r_pc (pc' := 43) rfl ?_
      refine r_iload_n 4 dX10_leastWay_43 rfl ?_
      refine r_icmp_ge (tgt := 65) dX10_leastWay_44 (by decide) (fun c44 => ?_) (fun c44 => ?_)
      · replace hf := (if_pos c44).symm.trans hf
        exact r_sub [1, 2, 3, 4, 5, 6] rfl (t_X10_leastWay_65 G l _ _ k6 hk6 (f_X10_leastWay_15 h this k6 n) ih _ _ _ _ _ _ hf)
      · replace hf := (if_neg c44).symm.trans hf
        refine r_aload_n 1 dX10_leastWay_47 rfl ?_
        refine r_aload_n 2 dX10_leastWay_48 rfl ?_
        refine r_iload 5 dX10_leastWay_49 rfl ?_
        refine r_iload 6 dX10_leastWay_51 rfl ?_
        obtain ⟨v53, e53, hf⟩ := ob hf
        refine r_callS (y := yX10_plotsBetween) (avs := [vI x4, vI x5]) dX10_leastWay_53 kw_2_175 kw_2_176 kw_1_1 kw_2_177 oky_X10_plotsBetween ⟨Nat.le_of_ble_eq_true rfl, Nat.le_of_ble_eq_true rfl⟩ rfl (Nat.le_of_ble_eq_true rfl) (k_X10_plotsBetween G l e53) ?_
        obtain ⟨a56, ea56, hf⟩ := ob hf
        obtain ⟨v56, e56, hf⟩ := ob hf
        refine r_callV (y := yX10_comesByAll) (ci := 10) (avs := [vR x1, vI v53]) dX10_leastWay_56 rfl kw_2_164 kw_2_166 kw_0_5 kw_1_1 kw_2_167 oky_X10_comesByAll ⟨Nat.le_of_ble_eq_true rfl, Nat.le_of_ble_eq_true rfl⟩ rfl (Nat.le_of_ble_eq_true rfl) ea56 (k_X10_comesByAll G l e56) ?_
        refine r_if_eq (tgt := 65) dX10_leastWay_59 (by decide) (fun c59 => ?_) (fun c59 => ?_)
        · replace hf := (if_pos c59).symm.trans hf
          exact r_sub [1, 2, 3, 4, 5, 6] rfl (t_X10_leastWay_65 G l _ _ k6 hk6 (f_X10_leastWay_15 h this k6 n) ih _ _ _ _ _ _ hf)
        · replace hf := (if_neg c59).symm.trans hf
          refine r_iload 0 dX10_leastWay_62 rfl ?_
          refine r_istore_n (lv' := [(3, vI ((x5 - x4) + (mnI (x2 - x4) (x5 - x2)))), (6, vI ((x5 - x4) + (mnI (x2 - x4) (x5 - x2)))), (0, vR (some this)), (1, vR x1), (2, vI x2), (4, vI x4), (5, vI x5)]) dX10_leastWay_64 (Nat.le_of_ble_eq_true rfl) rfl ?_
          exact r_sub [2, 3, 4, 0, 5, 6] rfl (t_X10_leastWay_65 G l _ _ k6 hk6 (f_X10_leastWay_15 h this k6 n) ih _ _ _ _ _ _ hf)
def f_X10_leastWay_6 (h : Hp) (this : Nat) : Nat → (Option Nat) → Int32 → Int32 → Int32 → Option Int32
  | 0, _, _, _, _ => none
  | n + 1, x1, x2, x3, x4 =>
    if x2 < x4 then
      some x3
    else
      f_X10_leastWay_15 h this (f_X10_leastWay_6 h this n) 10000 x1 x2 x3 x4 x2
set_option maxRecDepth 100000 in
set_option maxHeartbeats 4000000 in
theorem t_X10_leastWay_6 (G : Gx) (l : Launch) (h : Hp) (this : Nat)  : ∀ (n : Nat) (x1 : Option Nat) (x2 : Int32) (x3 : Int32) (x4 : Int32) (r : Int32), f_X10_leastWay_6 h this n x1 x2 x3 x4 = some r → RJ G l M_X10_leastWay (some (vI r)) h 6 [(0, vR (some this)), (1, vR x1), (2, vI x2), (3, vI x3), (4, vI x4)] [] h := by
  intro n
  induction n with
  | zero =>
    intro x1 x2 x3 x4 r hf
    rw [f_X10_leastWay_6] at hf
    cases hf
  | succ n ih =>
    intro x1 x2 x3 x4 r hf
    rw [f_X10_leastWay_6] at hf
    refine r_iload 4 dX10_leastWay_6 rfl ?_
    refine r_iload_n 2 dX10_leastWay_8 rfl ?_
    refine r_icmp_gt (tgt := 77) dX10_leastWay_9 (by decide) (fun c9 => ?_) (fun c9 => ?_)
    · replace hf := (if_pos c9).symm.trans hf
      refine r_iload_n 3 dX10_leastWay_77 rfl ?_
      have hf := Option.some.inj hf
      subst hf
      exact r_iret rfl dX10_leastWay_78
    · replace hf := (if_neg c9).symm.trans hf
      refine r_iload_n 2 dX10_leastWay_12 rfl ?_
      refine r_istore (lv' := [(5, vI x2), (0, vR (some this)), (1, vR x1), (2, vI x2), (3, vI x3), (4, vI x4)]) dX10_leastWay_13 (Nat.le_of_ble_eq_true rfl) rfl ?_
      exact r_sub [1, 2, 3, 4, 5, 0] rfl (t_X10_leastWay_15 G l _ _ (f_X10_leastWay_6 h this n) ih _ _ _ _ _ _ _ hf)
def f_X10_leastWay (h : Hp) (this : Nat) (x1 : Option Nat) (x2 : Int32) : Option Int32 :=
    f_X10_leastWay_6 h this 10000 x1 x2 (24 : Int32) (0 : Int32)
set_option maxRecDepth 100000 in
set_option maxHeartbeats 4000000 in
theorem k_X10_leastWay (G : Gx) (l : Launch) {h : Hp} {this : Nat} {x1 : Option Nat} {x2 : Int32} {r : Int32} (hf : f_X10_leastWay h this x1 x2 = some r) : KM l yX10_leastWay (.code yX10_leastWay cX10_leastWay 7 (some .int) :: wsK) 3 65 G [vR (some this), vR x1, vI x2] h (some (vI r)) h := by
  refine r_entry (ctor := false) (own := RX10) (by decide +kernel) rfl (fun q => by cases q) (Nat.le_of_ble_eq_true rfl) ?_
  show RJ G l M_X10_leastWay (some (vI r)) h 0 [(0, vR (some this)), (1, vR x1), (2, vI x2)] [] h
  unfold f_X10_leastWay at hf
  refine r_bipush (x := (24 : Int32)) dX10_leastWay_0 (by decide) ?_
  refine r_istore_n (lv' := [(3, vI (24 : Int32)), (0, vR (some this)), (1, vR x1), (2, vI x2)]) dX10_leastWay_2 (Nat.le_of_ble_eq_true rfl) rfl ?_
  refine r_iconst (x := (0 : Int32)) dX10_leastWay_3 (by decide) ?_
  refine r_istore (lv' := [(4, vI (0 : Int32)), (3, vI (24 : Int32)), (0, vR (some this)), (1, vR x1), (2, vI x2)]) dX10_leastWay_4 (Nat.le_of_ble_eq_true rfl) rfl ?_
  exact r_sub [2, 3, 4, 1, 0] rfl (t_X10_leastWay_6 G l _ _ _ _ _ _ _ _ hf)
/-! ===== NumberedByAge.letter(I)I ===== -/
abbrev M_X10_letter : Mx := (cX10_letter, 3, RX10, (false, []), (some .int), 4, 86)
def f_X10_letter_48 (h : Hp) (this : Nat) (k15 : Int32 → Int32 → Option Int32) (x1 : Int32) (x2 : Int32) : Option Int32 :=
    k15 x1 (x2 + 1)
set_option maxRecDepth 100000 in
set_option maxHeartbeats 4000000 in
theorem t_X10_letter_48 (G : Gx) (l : Launch) (h : Hp) (this : Nat) (k15 : Int32 → Int32 → Option Int32) (hk15 : ∀ (x1 : Int32) (x2 : Int32) (r : Int32), k15 x1 x2 = some r → RJ G l M_X10_letter (some (vI r)) h 15 [(0, vR (some this)), (1, vI x1), (2, vI x2)] [] h) (x1 : Int32) (x2 : Int32) (r : Int32) (hf : f_X10_letter_48 h this k15 x1 x2 = some r) : RJ G l M_X10_letter (some (vI r)) h 48 [(0, vR (some this)), (1, vI x1), (2, vI x2)] [] h := by
  unfold f_X10_letter_48 at hf
  refine r_iinc (y := (x2 + 1)) (lv' := [(2, vI (x2 + 1)), (0, vR (some this)), (1, vI x1)]) 2 dX10_letter_48 rfl rfl (Nat.le_of_ble_eq_true rfl) rfl ?_
  refine r_goto (tgt := 15) dX10_letter_51 (by decide) ?_
  exact r_sub [1, 2, 0] rfl (hk15 _ _ _ hf)
def f_X10_letter_15 (h : Hp) (this : Nat) : Nat → Int32 → Int32 → Option Int32
  | 0, _, _ => none
  | n + 1, x1, x2 =>
    if (12 : Int32) ≤ x2 then
      some (-4 : Int32)
    else
      (gR h (some this) [10] 0).bind fun v22 =>
      (rcv h v22 8).bind fun a26 =>
      (f_X8_hasHouse h a26 x2).bind fun v26 =>
      if v26 = 0 then
        f_X10_letter_48 h this (f_X10_letter_15 h this n) x1 x2
      else
        (gR h (some this) [10] 0).bind fun v33 =>
        (rcv h v33 8).bind fun a37 =>
        (f_X8_builtAheadOf h a37 x2).bind fun v37 =>
        if v37 = (x1 - (1 : Int32)) then
          some x2
        else
          f_X10_letter_48 h this (f_X10_letter_15 h this n) x1 x2
set_option maxRecDepth 100000 in
set_option maxHeartbeats 4000000 in
theorem t_X10_letter_15 (G : Gx) (l : Launch) (h : Hp) (this : Nat)  : ∀ (n : Nat) (x1 : Int32) (x2 : Int32) (r : Int32), f_X10_letter_15 h this n x1 x2 = some r → RJ G l M_X10_letter (some (vI r)) h 15 [(0, vR (some this)), (1, vI x1), (2, vI x2)] [] h := by
  intro n
  induction n with
  | zero =>
    intro x1 x2 r hf
    rw [f_X10_letter_15] at hf
    cases hf
  | succ n ih =>
    intro x1 x2 r hf
    rw [f_X10_letter_15] at hf
    refine r_iload_n 2 dX10_letter_15 rfl ?_
    refine r_bipush (x := (12 : Int32)) dX10_letter_16 (by decide) ?_
    refine r_icmp_ge (tgt := 54) dX10_letter_18 (by decide) (fun c18 => ?_) (fun c18 => ?_)
    · replace hf := (if_pos c18).symm.trans hf
      refine r_bipush (x := (-4 : Int32)) dX10_letter_54 (by decide) ?_
      have hf := Option.some.inj hf
      subst hf
      exact r_iret rfl dX10_letter_56
    · replace hf := (if_neg c18).symm.trans hf
      refine r_aload_n 0 dX10_letter_21 rfl ?_
      obtain ⟨v22, e22, hf⟩ := ob hf
      refine r_get dX10_letter_22 fl_10_0 kw_1_121 (Or.inl rfl) (gR_sp e22) ?_
      refine r_iload_n 2 dX10_letter_25 rfl ?_
      obtain ⟨a26, ea26, hf⟩ := ob hf
      obtain ⟨v26, e26, hf⟩ := ob hf
      refine r_callV (y := yX8_hasHouse) (ci := 8) (avs := [vI x2]) dX10_letter_26 rfl kw_2_109 kw_1_199 kw_1_200 kw_1_2 kw_1_201 oky_X8_hasHouse ⟨Nat.le_of_ble_eq_true rfl, Nat.le_of_ble_eq_true rfl⟩ rfl (Nat.le_of_ble_eq_true rfl) ea26 (k_X8_hasHouse G l e26) ?_
      refine r_if_eq (tgt := 48) dX10_letter_29 (by decide) (fun c29 => ?_) (fun c29 => ?_)
      · replace hf := (if_pos c29).symm.trans hf
        exact r_sub [0, 1, 2] rfl (t_X10_letter_48 G l _ _ (f_X10_letter_15 h this n) ih _ _ _ hf)
      · replace hf := (if_neg c29).symm.trans hf
        refine r_aload_n 0 dX10_letter_32 rfl ?_
        obtain ⟨v33, e33, hf⟩ := ob hf
        refine r_get dX10_letter_33 fl_10_0 kw_1_121 (Or.inl rfl) (gR_sp e33) ?_
        refine r_iload_n 2 dX10_letter_36 rfl ?_
        obtain ⟨a37, ea37, hf⟩ := ob hf
        obtain ⟨v37, e37, hf⟩ := ob hf
        refine r_callV (y := yX8_builtAheadOf) (ci := 8) (avs := [vI x2]) dX10_letter_37 rfl kw_2_141 kw_2_142 kw_2_143 kw_1_2 kw_2_144 oky_X8_builtAheadOf ⟨Nat.le_of_ble_eq_true rfl, Nat.le_of_ble_eq_true rfl⟩ rfl (Nat.le_of_ble_eq_true rfl) ea37 (k_X8_builtAheadOf G l e37) ?_
        refine r_iload_n 1 dX10_letter_40 rfl ?_
        refine r_iconst (x := (1 : Int32)) dX10_letter_41 (by decide) ?_
        refine r_isub dX10_letter_42 ?_
        refine r_icmp_ne (tgt := 48) dX10_letter_43 (by decide) (fun c43 => ?_) (fun c43 => ?_)
        · replace hf := (if_pos c43).symm.trans hf
          refine r_iload_n 2 dX10_letter_46 rfl ?_
          have hf := Option.some.inj hf
          subst hf
          exact r_iret rfl dX10_letter_47
        · replace hf := (if_neg c43).symm.trans hf
          exact r_sub [0, 1, 2] rfl (t_X10_letter_48 G l _ _ (f_X10_letter_15 h this n) ih _ _ _ hf)
def f_X10_letter (h : Hp) (this : Nat) (x1 : Int32) : Option Int32 :=
    if x1 < (1 : Int32) then
      some (-1 : Int32)
    else
      if x1 ≤ (12 : Int32) then
        f_X10_letter_15 h this 10000 x1 (0 : Int32)
      else
        some (-1 : Int32)
set_option maxRecDepth 100000 in
set_option maxHeartbeats 4000000 in
theorem k_X10_letter (G : Gx) (l : Launch) {h : Hp} {this : Nat} {x1 : Int32} {r : Int32} (hf : f_X10_letter h this x1 = some r) : KM l yX10_letter (.code yX10_letter cX10_letter 3 (some .int) :: wsK) 4 86 G [vR (some this), vI x1] h (some (vI r)) h := by
  refine r_entry (ctor := false) (own := RX10) (by decide +kernel) rfl (fun q => by cases q) (Nat.le_of_ble_eq_true rfl) ?_
  show RJ G l M_X10_letter (some (vI r)) h 0 [(0, vR (some this)), (1, vI x1)] [] h
  unfold f_X10_letter at hf
  refine r_iload_n 1 dX10_letter_0 rfl ?_
  refine r_iconst (x := (1 : Int32)) dX10_letter_1 (by decide) ?_
  refine r_icmp_lt (tgt := 11) dX10_letter_2 (by decide) (fun c2 => ?_) (fun c2 => ?_)
  · replace hf := (if_pos c2).symm.trans hf
    refine r_iconst (x := (-1 : Int32)) dX10_letter_11 (by decide) ?_
    have hf := Option.some.inj hf
    subst hf
    exact r_iret rfl dX10_letter_12
  · replace hf := (if_neg c2).symm.trans hf
    refine r_iload_n 1 dX10_letter_5 rfl ?_
    refine r_bipush (x := (12 : Int32)) dX10_letter_6 (by decide) ?_
    refine r_icmp_le (tgt := 13) dX10_letter_8 (by decide) (fun c8 => ?_) (fun c8 => ?_)
    · replace hf := (if_pos c8).symm.trans hf
      refine r_iconst (x := (0 : Int32)) dX10_letter_13 (by decide) ?_
      refine r_istore_n (lv' := [(2, vI (0 : Int32)), (0, vR (some this)), (1, vI x1)]) dX10_letter_14 (Nat.le_of_ble_eq_true rfl) rfl ?_
      exact r_sub [1, 2, 0] rfl (t_X10_letter_15 G l _ _ _ _ _ _ hf)
    · replace hf := (if_neg c8).symm.trans hf
      refine r_iconst (x := (-1 : Int32)) dX10_letter_11 (by decide) ?_
      have hf := Option.some.inj hf
      subst hf
      exact r_iret rfl dX10_letter_12
/-! ===== NumberedByAge.nextSeed(I)I ===== -/
abbrev M_X10_nextSeed : Mx := (cX10_nextSeed, 1, RX10, (false, []), (some .int), 0, 0)
def f_X10_nextSeed (h : Hp) (x0 : Int32) : Option Int32 :=
    some ((x0 * (1103515245 : Int32)) + (12345 : Int32))
set_option maxRecDepth 100000 in
set_option maxHeartbeats 4000000 in
theorem k_X10_nextSeed (G : Gx) (l : Launch) {h : Hp} {x0 : Int32} {r : Int32} (hf : f_X10_nextSeed h x0 = some r) : KM l yX10_nextSeed (.code yX10_nextSeed cX10_nextSeed 1 (some .int) :: wsK) 0 0 G [vI x0] h (some (vI r)) h := by
  refine r_entry (ctor := false) (own := RX10) (by decide +kernel) rfl (fun q => by cases q) (Nat.le_of_ble_eq_true rfl) ?_
  show RJ G l M_X10_nextSeed (some (vI r)) h 0 [(0, vI x0)] [] h
  unfold f_X10_nextSeed at hf
  refine r_iload_n 0 dX10_nextSeed_0 rfl ?_
  refine r_ldcw (x := (1103515245 : Int32)) dX10_nextSeed_1 kw_3_39 ?_
  refine r_imul dX10_nextSeed_4 ?_
  refine r_sipush (x := (12345 : Int32)) dX10_nextSeed_5 (by decide) ?_
  refine r_iadd dX10_nextSeed_8 ?_
  have hf := Option.some.inj hf
  subst hf
  exact r_iret rfl dX10_nextSeed_9
/-! ===== NumberedByAge.orders(I)I ===== -/
abbrev M_X10_orders : Mx := (cX10_orders, 3, RX10, (false, []), (some .int), 15, 355)
def f_X10_orders (h : Hp) (this : Nat) (x1 : Int32) : Option (Int32 × Hp) :=
    if x1 < 0 then
      some ((-1 : Int32), h)
    else
      if x1 ≤ (1 : Int32) then
        (gR h (some this) [10] 0).bind fun v12 =>
        (rcv h v12 8).bind fun a15 =>
        (f_X8_houses h a15).bind fun v15 =>
        if v15 ≤ (7 : Int32) then
          (gR h (some this) [10] 1).bind fun v29 =>
          (gR h (some this) [10] 0).bind fun v33 =>
          (gR h v33 [8] 9).bind fun v36 =>
          (rcv h v29 8).bind fun a39 =>
          (f_X8_clear h a39 v36).bind fun h39 =>
          if x1 = 0 then
            (gR h39 (some this) [10] 1).bind fun v47 =>
            (gR h39 (some this) [10] 0).bind fun v51 =>
            (f_X10_ordersFrom 9 h39 v47 v51 v15).bind fun q55 =>
            some (q55.1, q55.2)
          else
            (rcv h39 (some this) 10).bind fun a63 =>
            (f_X10_firstInOrder h39 a63 v15).bind fun q63 =>
            some (q63.1, q63.2)
        else
          some ((-2 : Int32), h)
      else
        some ((-1 : Int32), h)
set_option maxRecDepth 100000 in
set_option maxHeartbeats 4000000 in
theorem k_X10_orders (G : Gx) (l : Launch) {h : Hp} {this : Nat} {x1 : Int32} {r : (Int32 × Hp)} (hf : f_X10_orders h this x1 = some r) : KM l yX10_orders (.code yX10_orders cX10_orders 3 (some .int) :: wsK) 15 355 G [vR (some this), vI x1] h (some (vI r.1)) r.2 := by
  refine r_entry (ctor := false) (own := RX10) (by decide +kernel) rfl (fun q => by cases q) (Nat.le_of_ble_eq_true rfl) ?_
  show RJ G l M_X10_orders (some (vI r.1)) r.2 0 [(0, vR (some this)), (1, vI x1)] [] h
  unfold f_X10_orders at hf
  refine r_iload_n 1 dX10_orders_0 rfl ?_
  refine r_if_lt (tgt := 9) dX10_orders_1 (by decide) (fun c1 => ?_) (fun c1 => ?_)
  · replace hf := (if_pos c1).symm.trans hf
    refine r_iconst (x := (-1 : Int32)) dX10_orders_9 (by decide) ?_
    have hf := Option.some.inj hf
    subst hf
    exact r_iret rfl dX10_orders_10
  · replace hf := (if_neg c1).symm.trans hf
    refine r_iload_n 1 dX10_orders_4 rfl ?_
    refine r_iconst (x := (1 : Int32)) dX10_orders_5 (by decide) ?_
    refine r_icmp_le (tgt := 11) dX10_orders_6 (by decide) (fun c6 => ?_) (fun c6 => ?_)
    · replace hf := (if_pos c6).symm.trans hf
      refine r_aload_n 0 dX10_orders_11 rfl ?_
      obtain ⟨v12, e12, hf⟩ := ob hf
      refine r_get dX10_orders_12 fl_10_0 kw_1_121 (Or.inl rfl) (gR_sp e12) ?_
      obtain ⟨a15, ea15, hf⟩ := ob hf
      obtain ⟨v15, e15, hf⟩ := ob hf
      refine r_callV (y := yX8_houses) (ci := 8) (avs := []) dX10_orders_15 rfl kw_2_235 kw_2_236 kw_2_237 kw_1_2 kw_2_238 oky_X8_houses ⟨Nat.le_of_ble_eq_true rfl, Nat.le_of_ble_eq_true rfl⟩ rfl (Nat.le_of_ble_eq_true rfl) ea15 (k_X8_houses G l e15) ?_
      refine r_istore_n (lv' := [(2, vI v15), (0, vR (some this)), (1, vI x1)]) dX10_orders_18 (Nat.le_of_ble_eq_true rfl) rfl ?_
      refine r_iload_n 0 dX10_orders_19 rfl ?_
      refine r_bipush (x := (7 : Int32)) dX10_orders_20 (by decide) ?_
      refine r_icmp_le (tgt := 28) dX10_orders_22 (by decide) (fun c22 => ?_) (fun c22 => ?_)
      · replace hf := (if_pos c22).symm.trans hf
        refine r_aload_n 1 dX10_orders_28 rfl ?_
        obtain ⟨v29, e29, hf⟩ := ob hf
        refine r_get dX10_orders_29 fl_10_1 kw_1_122 (Or.inl rfl) (gR_sp e29) ?_
        refine r_aload_n 1 dX10_orders_32 rfl ?_
        obtain ⟨v33, e33, hf⟩ := ob hf
        refine r_get dX10_orders_33 fl_10_0 kw_1_121 (Or.inl rfl) (gR_sp e33) ?_
        obtain ⟨v36, e36, hf⟩ := ob hf
        refine r_getN dX10_orders_36 fl_8_9 (by decide) (gR_sp e36) ?_
        obtain ⟨a39, ea39, hf⟩ := ob hf
        obtain ⟨h39, e39, hf⟩ := ob hf
        refine r_callV (y := yX8_clear) (ci := 8) (avs := [vR v36]) dX10_orders_39 rfl kw_2_239 kw_2_215 kw_2_216 kw_1_2 kw_2_217 oky_X8_clear ⟨Nat.le_of_ble_eq_true rfl, Nat.le_of_ble_eq_true rfl⟩ rfl (Nat.le_of_ble_eq_true rfl) ea39 (k_X8_clear G l e39) ?_
        refine r_iload_n 2 dX10_orders_42 rfl ?_
        refine r_if_ne (tgt := 61) dX10_orders_43 (by decide) (fun c43 => ?_) (fun c43 => ?_)
        · replace hf := (if_pos c43).symm.trans hf
          refine r_aload_n 1 dX10_orders_46 rfl ?_
          obtain ⟨v47, e47, hf⟩ := ob hf
          refine r_get dX10_orders_47 fl_10_1 kw_1_122 (Or.inl rfl) (gR_sp e47) ?_
          refine r_aload_n 1 dX10_orders_50 rfl ?_
          obtain ⟨v51, e51, hf⟩ := ob hf
          refine r_get dX10_orders_51 fl_10_0 kw_1_121 (Or.inl rfl) (gR_sp e51) ?_
          refine r_iload_n 0 dX10_orders_54 rfl ?_
          obtain ⟨q55, e55, hf⟩ := ob hf
          refine r_callS (y := yX10_ordersFrom) (avs := [vR v47, vR v51, vI v15]) dX10_orders_55 kw_3_0 kw_3_1 kw_1_1 kw_3_2 oky_X10_ordersFrom ⟨Nat.le_of_ble_eq_true rfl, Nat.le_of_ble_eq_true rfl⟩ rfl (Nat.le_of_ble_eq_true rfl) (k_X10_ordersFrom G l 9 e55) ?_
          refine r_goto (tgt := 66) dX10_orders_58 (by decide) ?_
          have hf := Option.some.inj hf
          subst hf
          exact r_iret rfl dX10_orders_66
        · replace hf := (if_neg c43).symm.trans hf
          refine r_aload_n 1 dX10_orders_61 rfl ?_
          refine r_iload_n 0 dX10_orders_62 rfl ?_
          obtain ⟨a63, ea63, hf⟩ := ob hf
          obtain ⟨q63, e63, hf⟩ := ob hf
          refine r_callV (y := yX10_firstInOrder) (ci := 10) (avs := [vI v15]) dX10_orders_63 rfl kw_3_12 kw_3_14 kw_0_9 kw_1_1 kw_3_15 oky_X10_firstInOrder ⟨Nat.le_of_ble_eq_true rfl, Nat.le_of_ble_eq_true rfl⟩ rfl (Nat.le_of_ble_eq_true rfl) ea63 (k_X10_firstInOrder G l e63) ?_
          have hf := Option.some.inj hf
          subst hf
          exact r_iret rfl dX10_orders_66
      · replace hf := (if_neg c22).symm.trans hf
        refine r_bipush (x := (-2 : Int32)) dX10_orders_25 (by decide) ?_
        have hf := Option.some.inj hf
        subst hf
        exact r_iret rfl dX10_orders_27
    · replace hf := (if_neg c6).symm.trans hf
      refine r_iconst (x := (-1 : Int32)) dX10_orders_9 (by decide) ?_
      have hf := Option.some.inj hf
      subst hf
      exact r_iret rfl dX10_orders_10
/-! ===== NumberedByAge.put(III)I ===== -/
abbrev M_X10_put : Mx := (cX10_put, 6, RX10, (false, []), (some .int), 2, 43)
def f_X10_put (h : Hp) (this : Nat) (x1 : Int32) (x2 : Int32) (x3 : Int32) : Option (Int32 × Hp) :=
    (rcv h (some this) 10).bind fun a2 =>
    (f_X10_shelfAt h a2 x1).bind fun v2 =>
    if v2 = none then
      some ((-1 : Int32), h)
    else
      (rcv h v2 5).bind fun a16 =>
      (f_X5_refusalAsRow h a16).bind fun v16 =>
      if v16 = 0 then
        (rcv h v2 5).bind fun a32 =>
        (f_X5_hasPlace h a32 x2).bind fun v32 =>
        if v32 = 0 then
          some ((-13 : Int32), h)
        else
          (rcv h v2 5).bind fun a45 =>
          (f_X5_set h a45 x2 x3).bind fun h45 =>
          some ((0 : Int32), h45)
      else
        some (v16, h)
set_option maxRecDepth 100000 in
set_option maxHeartbeats 4000000 in
theorem k_X10_put (G : Gx) (l : Launch) {h : Hp} {this : Nat} {x1 : Int32} {x2 : Int32} {x3 : Int32} {r : (Int32 × Hp)} (hf : f_X10_put h this x1 x2 x3 = some r) : KM l yX10_put (.code yX10_put cX10_put 6 (some .int) :: wsK) 2 43 G [vR (some this), vI x1, vI x2, vI x3] h (some (vI r.1)) r.2 := by
  refine r_entry (ctor := false) (own := RX10) (by decide +kernel) rfl (fun q => by cases q) (Nat.le_of_ble_eq_true rfl) ?_
  show RJ G l M_X10_put (some (vI r.1)) r.2 0 [(0, vR (some this)), (1, vI x1), (2, vI x2), (3, vI x3)] [] h
  unfold f_X10_put at hf
  refine r_aload_n 0 dX10_put_0 rfl ?_
  refine r_iload_n 1 dX10_put_1 rfl ?_
  obtain ⟨a2, ea2, hf⟩ := ob hf
  obtain ⟨v2, e2, hf⟩ := ob hf
  refine r_callV (y := yX10_shelfAt) (ci := 10) (avs := [vI x1]) dX10_put_2 rfl kw_1_141 kw_1_143 kw_0_0 kw_1_1 kw_1_144 oky_X10_shelfAt ⟨Nat.le_of_ble_eq_true rfl, Nat.le_of_ble_eq_true rfl⟩ rfl (Nat.le_of_ble_eq_true rfl) ea2 (k_X10_shelfAt G l e2) ?_
  refine r_astore (lv' := [(4, vR v2), (0, vR (some this)), (1, vI x1), (2, vI x2), (3, vI x3)]) dX10_put_5 (Nat.le_of_ble_eq_true rfl) rfl ?_
  refine r_aload 0 dX10_put_7 rfl ?_
  refine r_ifnonnull (tgt := 14) dX10_put_9 (by decide) (fun c9 => ?_) (fun c9 => ?_)
  · replace hf := (if_pos c9).symm.trans hf
    refine r_iconst (x := (-1 : Int32)) dX10_put_12 (by decide) ?_
    have hf := Option.some.inj hf
    subst hf
    exact r_iret rfl dX10_put_13
  · replace hf := (if_neg c9).symm.trans hf
    refine r_aload 0 dX10_put_14 rfl ?_
    obtain ⟨a16, ea16, hf⟩ := ob hf
    obtain ⟨v16, e16, hf⟩ := ob hf
    refine r_callV (y := yX5_refusalAsRow) (ci := 5) (avs := []) dX10_put_16 rfl kw_3_48 kw_3_49 kw_3_50 kw_1_4 kw_3_51 oky_X5_refusalAsRow ⟨Nat.le_of_ble_eq_true rfl, Nat.le_of_ble_eq_true rfl⟩ rfl (Nat.le_of_ble_eq_true rfl) ea16 (k_X5_refusalAsRow G l e16) ?_
    refine r_istore (lv' := [(5, vI v16), (4, vR v2), (0, vR (some this)), (1, vI x1), (2, vI x2), (3, vI x3)]) dX10_put_19 (Nat.le_of_ble_eq_true rfl) rfl ?_
    refine r_iload 0 dX10_put_21 rfl ?_
    refine r_if_eq (tgt := 29) dX10_put_23 (by decide) (fun c23 => ?_) (fun c23 => ?_)
    · replace hf := (if_pos c23).symm.trans hf
      refine r_aload 1 dX10_put_29 rfl ?_
      refine r_iload_n 4 dX10_put_31 rfl ?_
      obtain ⟨a32, ea32, hf⟩ := ob hf
      obtain ⟨v32, e32, hf⟩ := ob hf
      refine r_callV (y := yX5_hasPlace) (ci := 5) (avs := [vI x2]) dX10_put_32 rfl kw_3_94 kw_1_164 kw_1_165 kw_1_4 kw_1_166 oky_X5_hasPlace ⟨Nat.le_of_ble_eq_true rfl, Nat.le_of_ble_eq_true rfl⟩ rfl (Nat.le_of_ble_eq_true rfl) ea32 (k_X5_hasPlace G l e32) ?_
      refine r_if_ne (tgt := 41) dX10_put_35 (by decide) (fun c35 => ?_) (fun c35 => ?_)
      · replace hf := (if_pos c35).symm.trans hf
        refine r_bipush (x := (-13 : Int32)) dX10_put_38 (by decide) ?_
        have hf := Option.some.inj hf
        subst hf
        exact r_iret rfl dX10_put_40
      · replace hf := (if_neg c35).symm.trans hf
        refine r_aload 1 dX10_put_41 rfl ?_
        refine r_iload_n 4 dX10_put_43 rfl ?_
        refine r_iload_n 5 dX10_put_44 rfl ?_
        obtain ⟨a45, ea45, hf⟩ := ob hf
        obtain ⟨h45, e45, hf⟩ := ob hf
        refine r_callV (y := yX5_set) (ci := 5) (avs := [vI x2, vI x3]) dX10_put_45 rfl kw_3_95 kw_3_96 kw_3_97 kw_1_4 kw_3_98 oky_X5_set ⟨Nat.le_of_ble_eq_true rfl, Nat.le_of_ble_eq_true rfl⟩ rfl (Nat.le_of_ble_eq_true rfl) ea45 (k_X5_set G l e45) ?_
        refine r_iconst (x := (0 : Int32)) dX10_put_48 (by decide) ?_
        have hf := Option.some.inj hf
        subst hf
        exact r_iret rfl dX10_put_49
    · replace hf := (if_neg c23).symm.trans hf
      refine r_iload 0 dX10_put_26 rfl ?_
      have hf := Option.some.inj hf
      subst hf
      exact r_iret rfl dX10_put_28
/-! ===== NumberedByAge.restore()I ===== -/
abbrev M_X10_restore : Mx := (cX10_restore, 1, RX10, (false, []), (some .int), 2, 61)
def f_X10_restore (h : Hp) (this : Nat) : Option (Int32 × Hp) :=
    (gI h (some this) [10] 3).bind fun v1 =>
    if v1 = 0 then
      some ((-3 : Int32), h)
    else
      (gR h (some this) [10] 0).bind fun v11 =>
      (gR h (some this) [10] 2).bind fun v15 =>
      (rcv h v11 8).bind fun a18 =>
      (f_X8_become h a18 v15).bind fun h18 =>
      (gR h18 (some this) [10] 0).bind fun v22 =>
      (gI h18 v22 [8] 7).bind fun v25 =>
      some (v25, h18)
set_option maxRecDepth 100000 in
set_option maxHeartbeats 4000000 in
theorem k_X10_restore (G : Gx) (l : Launch) {h : Hp} {this : Nat} {r : (Int32 × Hp)} (hf : f_X10_restore h this = some r) : KM l yX10_restore (.code yX10_restore cX10_restore 1 (some .int) :: wsK) 2 61 G [vR (some this)] h (some (vI r.1)) r.2 := by
  refine r_entry (ctor := false) (own := RX10) (by decide +kernel) rfl (fun q => by cases q) (Nat.le_of_ble_eq_true rfl) ?_
  show RJ G l M_X10_restore (some (vI r.1)) r.2 0 [(0, vR (some this))] [] h
  unfold f_X10_restore at hf
  refine r_aload_n 0 dX10_restore_0 rfl ?_
  obtain ⟨v1, e1, hf⟩ := ob hf
  refine r_get dX10_restore_1 fl_10_3 kw_1_124 (Or.inl rfl) (gI_sp e1) ?_
  refine r_if_ne (tgt := 10) dX10_restore_4 (by decide) (fun c4 => ?_) (fun c4 => ?_)
  · replace hf := (if_pos c4).symm.trans hf
    refine r_bipush (x := (-3 : Int32)) dX10_restore_7 (by decide) ?_
    have hf := Option.some.inj hf
    subst hf
    exact r_iret rfl dX10_restore_9
  · replace hf := (if_neg c4).symm.trans hf
    refine r_aload_n 0 dX10_restore_10 rfl ?_
    obtain ⟨v11, e11, hf⟩ := ob hf
    refine r_get dX10_restore_11 fl_10_0 kw_1_121 (Or.inl rfl) (gR_sp e11) ?_
    refine r_aload_n 0 dX10_restore_14 rfl ?_
    obtain ⟨v15, e15, hf⟩ := ob hf
    refine r_get dX10_restore_15 fl_10_2 kw_1_123 (Or.inl rfl) (gR_sp e15) ?_
    obtain ⟨a18, ea18, hf⟩ := ob hf
    obtain ⟨h18, e18, hf⟩ := ob hf
    refine r_callV (y := yX8_become) (ci := 8) (avs := [vR v15]) dX10_restore_18 rfl kw_1_177 kw_1_178 kw_1_179 kw_1_2 kw_1_180 oky_X8_become ⟨Nat.le_of_ble_eq_true rfl, Nat.le_of_ble_eq_true rfl⟩ rfl (Nat.le_of_ble_eq_true rfl) ea18 (k_X8_become G l e18) ?_
    refine r_aload_n 0 dX10_restore_21 rfl ?_
    obtain ⟨v22, e22, hf⟩ := ob hf
    refine r_get dX10_restore_22 fl_10_0 kw_1_121 (Or.inl rfl) (gR_sp e22) ?_
    obtain ⟨v25, e25, hf⟩ := ob hf
    refine r_getN dX10_restore_25 fl_8_7 (by decide) (gI_sp e25) ?_
    have hf := Option.some.inj hf
    subst hf
    exact r_iret rfl dX10_restore_28
/-! ===== NumberedByAge.rise()I ===== -/
abbrev M_X10_rise : Mx := (cX10_rise, 1, RX10, (false, []), (some .int), 4, 86)
def f_X10_rise (h : Hp) (this : Nat) : Option (Int32 × Hp) :=
    (gR h (some this) [10] 0).bind fun v1 =>
    (rcv h v1 8).bind fun a4 =>
    (f_X8_longestRise h a4).bind fun q4 =>
    some (q4.1, q4.2)
set_option maxRecDepth 100000 in
set_option maxHeartbeats 4000000 in
theorem k_X10_rise (G : Gx) (l : Launch) {h : Hp} {this : Nat} {r : (Int32 × Hp)} (hf : f_X10_rise h this = some r) : KM l yX10_rise (.code yX10_rise cX10_rise 1 (some .int) :: wsK) 4 86 G [vR (some this)] h (some (vI r.1)) r.2 := by
  refine r_entry (ctor := false) (own := RX10) (by decide +kernel) rfl (fun q => by cases q) (Nat.le_of_ble_eq_true rfl) ?_
  show RJ G l M_X10_rise (some (vI r.1)) r.2 0 [(0, vR (some this))] [] h
  unfold f_X10_rise at hf
  refine r_aload_n 0 dX10_rise_0 rfl ?_
  obtain ⟨v1, e1, hf⟩ := ob hf
  refine r_get dX10_rise_1 fl_10_0 kw_1_121 (Or.inl rfl) (gR_sp e1) ?_
  obtain ⟨a4, ea4, hf⟩ := ob hf
  obtain ⟨q4, e4, hf⟩ := ob hf
  refine r_callV (y := yX8_longestRise) (ci := 8) (avs := []) dX10_rise_4 rfl kw_2_190 kw_2_191 kw_2_192 kw_1_2 kw_2_193 oky_X8_longestRise ⟨Nat.le_of_ble_eq_true rfl, Nat.le_of_ble_eq_true rfl⟩ rfl (Nat.le_of_ble_eq_true rfl) ea4 (k_X8_longestRise G l e4) ?_
  have hf := Option.some.inj hf
  subst hf
  exact r_iret rfl dX10_rise_7
/-! ===== NumberedByAge.row(III)I ===== -/
abbrev M_X10_row : Mx := (cX10_row, 5, RX10, (false, []), (some .int), 2, 45)
def f_X10_row (h : Hp) (this : Nat) (x1 : Int32) (x2 : Int32) (x3 : Int32) : Option (Int32 × Hp) :=
    (rcv h (some this) 10).bind fun a2 =>
    (f_X10_shelfAt h a2 x1).bind fun v2 =>
    if v2 = none then
      some ((-1 : Int32), h)
    else
      if x2 < 0 then
        some ((-1 : Int32), h)
      else
        if (2 : Int32) < x2 then
          some ((-1 : Int32), h)
        else
          if x3 ≤ (100 : Int32) then
            if 0 ≤ x3 then
              (rcv h v2 5).bind fun a40 =>
              (f_X5_holdRow h a40 x2 x3).bind fun h40 =>
              some ((0 : Int32), h40)
            else
              some ((-14 : Int32), h)
          else
            some ((-1 : Int32), h)
set_option maxRecDepth 100000 in
set_option maxHeartbeats 4000000 in
theorem k_X10_row (G : Gx) (l : Launch) {h : Hp} {this : Nat} {x1 : Int32} {x2 : Int32} {x3 : Int32} {r : (Int32 × Hp)} (hf : f_X10_row h this x1 x2 x3 = some r) : KM l yX10_row (.code yX10_row cX10_row 5 (some .int) :: wsK) 2 45 G [vR (some this), vI x1, vI x2, vI x3] h (some (vI r.1)) r.2 := by
  refine r_entry (ctor := false) (own := RX10) (by decide +kernel) rfl (fun q => by cases q) (Nat.le_of_ble_eq_true rfl) ?_
  show RJ G l M_X10_row (some (vI r.1)) r.2 0 [(0, vR (some this)), (1, vI x1), (2, vI x2), (3, vI x3)] [] h
  unfold f_X10_row at hf
  refine r_aload_n 0 dX10_row_0 rfl ?_
  refine r_iload_n 1 dX10_row_1 rfl ?_
  obtain ⟨a2, ea2, hf⟩ := ob hf
  obtain ⟨v2, e2, hf⟩ := ob hf
  refine r_callV (y := yX10_shelfAt) (ci := 10) (avs := [vI x1]) dX10_row_2 rfl kw_1_141 kw_1_143 kw_0_0 kw_1_1 kw_1_144 oky_X10_shelfAt ⟨Nat.le_of_ble_eq_true rfl, Nat.le_of_ble_eq_true rfl⟩ rfl (Nat.le_of_ble_eq_true rfl) ea2 (k_X10_shelfAt G l e2) ?_
  refine r_astore (lv' := [(4, vR v2), (0, vR (some this)), (1, vI x1), (2, vI x2), (3, vI x3)]) dX10_row_5 (Nat.le_of_ble_eq_true rfl) rfl ?_
  refine r_aload 0 dX10_row_7 rfl ?_
  refine r_ifnull (tgt := 27) dX10_row_9 (by decide) (fun c9 => ?_) (fun c9 => ?_)
  · replace hf := (if_pos c9).symm.trans hf
    refine r_iconst (x := (-1 : Int32)) dX10_row_27 (by decide) ?_
    have hf := Option.some.inj hf
    subst hf
    exact r_iret rfl dX10_row_28
  · replace hf := (if_neg c9).symm.trans hf
    refine r_iload_n 3 dX10_row_12 rfl ?_
    refine r_if_lt (tgt := 27) dX10_row_13 (by decide) (fun c13 => ?_) (fun c13 => ?_)
    · replace hf := (if_pos c13).symm.trans hf
      refine r_iconst (x := (-1 : Int32)) dX10_row_27 (by decide) ?_
      have hf := Option.some.inj hf
      subst hf
      exact r_iret rfl dX10_row_28
    · replace hf := (if_neg c13).symm.trans hf
      refine r_iload_n 3 dX10_row_16 rfl ?_
      refine r_iconst (x := (2 : Int32)) dX10_row_17 (by decide) ?_
      refine r_icmp_gt (tgt := 27) dX10_row_18 (by decide) (fun c18 => ?_) (fun c18 => ?_)
      · replace hf := (if_pos c18).symm.trans hf
        refine r_iconst (x := (-1 : Int32)) dX10_row_27 (by decide) ?_
        have hf := Option.some.inj hf
        subst hf
        exact r_iret rfl dX10_row_28
      · replace hf := (if_neg c18).symm.trans hf
        refine r_iload_n 4 dX10_row_21 rfl ?_
        refine r_bipush (x := (100 : Int32)) dX10_row_22 (by decide) ?_
        refine r_icmp_le (tgt := 29) dX10_row_24 (by decide) (fun c24 => ?_) (fun c24 => ?_)
        · replace hf := (if_pos c24).symm.trans hf
          refine r_iload_n 4 dX10_row_29 rfl ?_
          refine r_if_ge (tgt := 36) dX10_row_30 (by decide) (fun c30 => ?_) (fun c30 => ?_)
          · replace hf := (if_pos c30).symm.trans hf
            refine r_aload 0 dX10_row_36 rfl ?_
            refine r_iload_n 3 dX10_row_38 rfl ?_
            refine r_iload_n 4 dX10_row_39 rfl ?_
            obtain ⟨a40, ea40, hf⟩ := ob hf
            obtain ⟨h40, e40, hf⟩ := ob hf
            refine r_callV (y := yX5_holdRow) (ci := 5) (avs := [vI x2, vI x3]) dX10_row_40 rfl kw_3_85 kw_3_86 kw_3_87 kw_1_4 kw_3_88 oky_X5_holdRow ⟨Nat.le_of_ble_eq_true rfl, Nat.le_of_ble_eq_true rfl⟩ rfl (Nat.le_of_ble_eq_true rfl) ea40 (k_X5_holdRow G l e40) ?_
            refine r_iconst (x := (0 : Int32)) dX10_row_43 (by decide) ?_
            have hf := Option.some.inj hf
            subst hf
            exact r_iret rfl dX10_row_44
          · replace hf := (if_neg c30).symm.trans hf
            refine r_bipush (x := (-14 : Int32)) dX10_row_33 (by decide) ?_
            have hf := Option.some.inj hf
            subst hf
            exact r_iret rfl dX10_row_35
        · replace hf := (if_neg c24).symm.trans hf
          refine r_iconst (x := (-1 : Int32)) dX10_row_27 (by decide) ?_
          have hf := Option.some.inj hf
          subst hf
          exact r_iret rfl dX10_row_28
/-! ===== NumberedByAge.wayOfSearch(LNumberedByAge$Shelf;I)I ===== -/
abbrev M_X10_wayOfSearch : Mx := (cX10_wayOfSearch, 7, RX10, (false, []), (some .int), 3, 65)
def f_X10_wayOfSearch_69 (h : Hp) (this : Nat) (k21 : (Option Nat) → Int32 → Int32 → Int32 → Int32 → Option Int32) (x1 : Option Nat) (x3 : Int32) (x4 : Int32) (x5 : Int32) (x6 : Int32) : Option Int32 :=
    k21 x1 x3 (x4 + x3) x5 (x6 + 1)
set_option maxRecDepth 100000 in
set_option maxHeartbeats 4000000 in
theorem t_X10_wayOfSearch_69 (G : Gx) (l : Launch) (h : Hp) (this : Nat) (k21 : (Option Nat) → Int32 → Int32 → Int32 → Int32 → Option Int32) (hk21 : ∀ (x1 : Option Nat) (x3 : Int32) (x4 : Int32) (x5 : Int32) (x6 : Int32) (r : Int32), k21 x1 x3 x4 x5 x6 = some r → RJ G l M_X10_wayOfSearch (some (vI r)) h 21 [(0, vR (some this)), (1, vR x1), (3, vI x3), (4, vI x4), (5, vI x5), (6, vI x6)] [] h) (x1 : Option Nat) (x3 : Int32) (x4 : Int32) (x5 : Int32) (x6 : Int32) (r : Int32) (hf : f_X10_wayOfSearch_69 h this k21 x1 x3 x4 x5 x6 = some r) : RJ G l M_X10_wayOfSearch (some (vI r)) h 69 [(0, vR (some this)), (1, vR x1), (3, vI x3), (4, vI x4), (5, vI x5), (6, vI x6)] [] h := by
  unfold f_X10_wayOfSearch_69 at hf
  refine r_iload 3 dX10_wayOfSearch_69 rfl ?_
  refine r_iload_n 2 dX10_wayOfSearch_71 rfl ?_
  refine r_iadd dX10_wayOfSearch_72 ?_
  refine r_istore (lv' := [(4, vI (x4 + x3)), (0, vR (some this)), (1, vR x1), (3, vI x3), (5, vI x5), (6, vI x6)]) dX10_wayOfSearch_73 (Nat.le_of_ble_eq_true rfl) rfl ?_
  refine r_iinc (y := (x6 + 1)) (lv' := [(6, vI (x6 + 1)), (4, vI (x4 + x3)), (0, vR (some this)), (1, vR x1), (3, vI x3), (5, vI x5)]) 5 dX10_wayOfSearch_75 rfl rfl (Nat.le_of_ble_eq_true rfl) rfl ?_
  refine r_goto (tgt := 21) dX10_wayOfSearch_78 (by decide) ?_
  exact r_sub [2, 3, 4, 1, 5, 0] rfl (hk21 _ _ _ _ _ _ hf)
def f_X10_wayOfSearch_21 (h : Hp) (this : Nat) : Nat → (Option Nat) → Int32 → Int32 → Int32 → Int32 → Option Int32
  | 0, _, _, _, _, _ => none
  | n + 1, x1, x3, x4, x5, x6 =>
    if (24 : Int32) ≤ x6 then
      some (-4 : Int32)
    else
      (rcv h (some this) 10).bind fun a41 =>
      (f_X10_comesByAll h a41 x1 (x5 ||| ((1 : Int32) <<< (x4 &&& 31)))).bind fun v41 =>
      if v41 = 0 then
        if x4 = 0 then
          f_X10_wayOfSearch_69 h this (f_X10_wayOfSearch_21 h this n) x1 (1 : Int32) x4 (x5 ||| ((1 : Int32) <<< (x4 &&& 31))) x6
        else
          if x4 = (11 : Int32) then
            f_X10_wayOfSearch_69 h this (f_X10_wayOfSearch_21 h this n) x1 (-1 : Int32) x4 (x5 ||| ((1 : Int32) <<< (x4 &&& 31))) x6
          else
            f_X10_wayOfSearch_69 h this (f_X10_wayOfSearch_21 h this n) x1 x3 x4 (x5 ||| ((1 : Int32) <<< (x4 &&& 31))) x6
      else
        some x6
set_option maxRecDepth 100000 in
set_option maxHeartbeats 4000000 in
theorem t_X10_wayOfSearch_21 (G : Gx) (l : Launch) (h : Hp) (this : Nat)  : ∀ (n : Nat) (x1 : Option Nat) (x3 : Int32) (x4 : Int32) (x5 : Int32) (x6 : Int32) (r : Int32), f_X10_wayOfSearch_21 h this n x1 x3 x4 x5 x6 = some r → RJ G l M_X10_wayOfSearch (some (vI r)) h 21 [(0, vR (some this)), (1, vR x1), (3, vI x3), (4, vI x4), (5, vI x5), (6, vI x6)] [] h := by
  intro n
  induction n with
  | zero =>
    intro x1 x3 x4 x5 x6 r hf
    rw [f_X10_wayOfSearch_21] at hf
    cases hf
  | succ n ih =>
    intro x1 x3 x4 x5 x6 r hf
    rw [f_X10_wayOfSearch_21] at hf
    refine r_iload 5 dX10_wayOfSearch_21 rfl ?_
    refine r_bipush (x := (24 : Int32)) dX10_wayOfSearch_23 (by decide) ?_
    refine r_icmp_ge (tgt := 81) dX10_wayOfSearch_25 (by decide) (fun c25 => ?_) (fun c25 => ?_)
    · replace hf := (if_pos c25).symm.trans hf
      refine r_bipush (x := (-4 : Int32)) dX10_wayOfSearch_81 (by decide) ?_
      have hf := Option.some.inj hf
      subst hf
      exact r_iret rfl dX10_wayOfSearch_83
    · replace hf := (if_neg c25).symm.trans hf
      refine r_iload 4 dX10_wayOfSearch_28 rfl ?_
      refine r_iconst (x := (1 : Int32)) dX10_wayOfSearch_30 (by decide) ?_
      refine r_iload 3 dX10_wayOfSearch_31 rfl ?_
      refine r_ishl dX10_wayOfSearch_33 ?_
      refine r_ior dX10_wayOfSearch_34 ?_
      refine r_istore (lv' := [(5, vI (x5 ||| ((1 : Int32) <<< (x4 &&& 31)))), (0, vR (some this)), (1, vR x1), (3, vI x3), (4, vI x4), (6, vI x6)]) dX10_wayOfSearch_35 (Nat.le_of_ble_eq_true rfl) rfl ?_
      refine r_aload_n 1 dX10_wayOfSearch_37 rfl ?_
      refine r_aload_n 2 dX10_wayOfSearch_38 rfl ?_
      refine r_iload 0 dX10_wayOfSearch_39 rfl ?_
      obtain ⟨a41, ea41, hf⟩ := ob hf
      obtain ⟨v41, e41, hf⟩ := ob hf
      refine r_callV (y := yX10_comesByAll) (ci := 10) (avs := [vR x1, vI (x5 ||| ((1 : Int32) <<< (x4 &&& 31)))]) dX10_wayOfSearch_41 rfl kw_2_164 kw_2_166 kw_0_5 kw_1_1 kw_2_167 oky_X10_comesByAll ⟨Nat.le_of_ble_eq_true rfl, Nat.le_of_ble_eq_true rfl⟩ rfl (Nat.le_of_ble_eq_true rfl) ea41 (k_X10_comesByAll G l e41) ?_
      refine r_if_eq (tgt := 50) dX10_wayOfSearch_44 (by decide) (fun c44 => ?_) (fun c44 => ?_)
      · replace hf := (if_pos c44).symm.trans hf
        refine r_iload 4 dX10_wayOfSearch_50 rfl ?_
        refine r_if_ne (tgt := 60) dX10_wayOfSearch_52 (by decide) (fun c52 => ?_) (fun c52 => ?_)
        · replace hf := (if_pos c52).symm.trans hf
          refine r_iconst (x := (1 : Int32)) dX10_wayOfSearch_55 (by decide) ?_
          refine r_istore_n (lv' := [(3, vI (1 : Int32)), (5, vI (x5 ||| ((1 : Int32) <<< (x4 &&& 31)))), (0, vR (some this)), (1, vR x1), (4, vI x4), (6, vI x6)]) dX10_wayOfSearch_56 (Nat.le_of_ble_eq_true rfl) rfl ?_
          refine r_goto (tgt := 69) dX10_wayOfSearch_57 (by decide) ?_
          exact r_sub [2, 3, 0, 4, 1, 5] rfl (t_X10_wayOfSearch_69 G l _ _ (f_X10_wayOfSearch_21 h this n) ih _ _ _ _ _ _ hf)
        · replace hf := (if_neg c52).symm.trans hf
          refine r_iload 4 dX10_wayOfSearch_60 rfl ?_
          refine r_bipush (x := (11 : Int32)) dX10_wayOfSearch_62 (by decide) ?_
          refine r_icmp_ne (tgt := 69) dX10_wayOfSearch_64 (by decide) (fun c64 => ?_) (fun c64 => ?_)
          · replace hf := (if_pos c64).symm.trans hf
            refine r_iconst (x := (-1 : Int32)) dX10_wayOfSearch_67 (by decide) ?_
            refine r_istore_n (lv' := [(3, vI (-1 : Int32)), (5, vI (x5 ||| ((1 : Int32) <<< (x4 &&& 31)))), (0, vR (some this)), (1, vR x1), (4, vI x4), (6, vI x6)]) dX10_wayOfSearch_68 (Nat.le_of_ble_eq_true rfl) rfl ?_
            exact r_sub [2, 3, 0, 4, 1, 5] rfl (t_X10_wayOfSearch_69 G l _ _ (f_X10_wayOfSearch_21 h this n) ih _ _ _ _ _ _ hf)
          · replace hf := (if_neg c64).symm.trans hf
            exact r_sub [1, 2, 3, 4, 0, 5] rfl (t_X10_wayOfSearch_69 G l _ _ (f_X10_wayOfSearch_21 h this n) ih _ _ _ _ _ _ hf)
      · replace hf := (if_neg c44).symm.trans hf
        refine r_iload 5 dX10_wayOfSearch_47 rfl ?_
        have hf := Option.some.inj hf
        subst hf
        exact r_iret rfl dX10_wayOfSearch_49
def f_X10_wayOfSearch_11 (h : Hp) (this : Nat) (x1 : Option Nat) (x2 : Int32) (s0 : Int32) : Option Int32 :=
    f_X10_wayOfSearch_21 h this 10000 x1 s0 x2 (0 : Int32) (0 : Int32)
set_option maxRecDepth 100000 in
set_option maxHeartbeats 4000000 in
theorem t_X10_wayOfSearch_11 (G : Gx) (l : Launch) (h : Hp) (this : Nat)  (x1 : Option Nat) (x2 : Int32) (s0 : Int32) (r : Int32) (hf : f_X10_wayOfSearch_11 h this x1 x2 s0 = some r) : RJ G l M_X10_wayOfSearch (some (vI r)) h 11 [(0, vR (some this)), (1, vR x1), (2, vI x2)] [vI s0] h := by
  unfold f_X10_wayOfSearch_11 at hf
  refine r_istore_n (lv' := [(3, vI s0), (0, vR (some this)), (1, vR x1), (2, vI x2)]) dX10_wayOfSearch_11 (Nat.le_of_ble_eq_true rfl) rfl ?_
  refine r_iload_n 3 dX10_wayOfSearch_12 rfl ?_
  refine r_istore (lv' := [(4, vI x2), (3, vI s0), (0, vR (some this)), (1, vR x1), (2, vI x2)]) dX10_wayOfSearch_13 (Nat.le_of_ble_eq_true rfl) rfl ?_
  refine r_iconst (x := (0 : Int32)) dX10_wayOfSearch_15 (by decide) ?_
  refine r_istore (lv' := [(5, vI (0 : Int32)), (4, vI x2), (3, vI s0), (0, vR (some this)), (1, vR x1), (2, vI x2)]) dX10_wayOfSearch_16 (Nat.le_of_ble_eq_true rfl) rfl ?_
  refine r_iconst (x := (0 : Int32)) dX10_wayOfSearch_18 (by decide) ?_
  refine r_istore (lv' := [(6, vI (0 : Int32)), (5, vI (0 : Int32)), (4, vI x2), (3, vI s0), (0, vR (some this)), (1, vR x1), (2, vI x2)]) dX10_wayOfSearch_19 (Nat.le_of_ble_eq_true rfl) rfl ?_
  exact r_sub [4, 5, 3, 2, 1, 0] rfl (t_X10_wayOfSearch_21 G l _ _ _ _ _ _ _ _ _ hf)
def f_X10_wayOfSearch (h : Hp) (this : Nat) (x1 : Option Nat) (x2 : Int32) : Option Int32 :=
    if (6 : Int32) ≤ x2 then
      f_X10_wayOfSearch_11 h this x1 x2 (1 : Int32)
    else
      f_X10_wayOfSearch_11 h this x1 x2 (-1 : Int32)
set_option maxRecDepth 100000 in
set_option maxHeartbeats 4000000 in
theorem k_X10_wayOfSearch (G : Gx) (l : Launch) {h : Hp} {this : Nat} {x1 : Option Nat} {x2 : Int32} {r : Int32} (hf : f_X10_wayOfSearch h this x1 x2 = some r) : KM l yX10_wayOfSearch (.code yX10_wayOfSearch cX10_wayOfSearch 7 (some .int) :: wsK) 3 65 G [vR (some this), vR x1, vI x2] h (some (vI r)) h := by
  refine r_entry (ctor := false) (own := RX10) (by decide +kernel) rfl (fun q => by cases q) (Nat.le_of_ble_eq_true rfl) ?_
  show RJ G l M_X10_wayOfSearch (some (vI r)) h 0 [(0, vR (some this)), (1, vR x1), (2, vI x2)] [] h
  unfold f_X10_wayOfSearch at hf
  refine r_iload_n 2 dX10_wayOfSearch_0 rfl ?_
  refine r_bipush (x := (6 : Int32)) dX10_wayOfSearch_1 (by decide) ?_
  refine r_icmp_ge (tgt := 10) dX10_wayOfSearch_3 (by decide) (fun c3 => ?_) (fun c3 => ?_)
  · replace hf := (if_pos c3).symm.trans hf
    refine r_iconst (x := (1 : Int32)) dX10_wayOfSearch_10 (by decide) ?_
    exact r_sub [0, 1, 2] rfl (t_X10_wayOfSearch_11 G l _ _ _ _ _ _ hf)
  · replace hf := (if_neg c3).symm.trans hf
    refine r_iconst (x := (-1 : Int32)) dX10_wayOfSearch_6 (by decide) ?_
    refine r_goto (tgt := 11) dX10_wayOfSearch_7 (by decide) ?_
    exact r_sub [0, 1, 2] rfl (t_X10_wayOfSearch_11 G l _ _ _ _ _ _ hf)
