/-! ===== NumberedByAge$Street.canRaiseAs(LNumberedByAge$Street;I)Z ===== -/
abbrev M_X8_canRaiseAs : Mx := (cX8_canRaiseAs, 3, RX8, (false, []), (some .boolean), 3, 69)
def f_X8_canRaiseAs_42 (h : Hp) (this : Nat)  : Option Int32 :=
    okZ (0 : Int32)
set_option maxRecDepth 100000 in
set_option maxHeartbeats 4000000 in
theorem t_X8_canRaiseAs_42 (G : Gx) (l : Launch) (h : Hp) (this : Nat)   (r : Int32) (hf : f_X8_canRaiseAs_42 h this = some r) : RJ G l M_X8_canRaiseAs (some (vI r)) h 42 [(0, vR (some this))] [] h := by
  unfold f_X8_canRaiseAs_42 at hf
  refine r_iconst (x := (0 : Int32)) dX8_canRaiseAs_42 (by decide) ?_
  exact r_zret rfl dX8_canRaiseAs_43 hf
def f_X8_canRaiseAs (h : Hp) (this : Nat) (x1 : Option Nat) (x2 : Int32) : Option Int32 :=
    (rcv h x1 8).bind fun a2 =>
    (f_X8_hasHouse h a2 x2).bind fun v2 =>
    if v2 = 0 then
      f_X8_canRaiseAs_42 h this 
    else
      (rcv h (some this) 8).bind fun a10 =>
      (f_X8_hasHouse h a10 x2).bind fun v10 =>
      if v10 = 0 then
        (gR h (some this) [8] 9).bind fun v17 =>
        (rcv h x1 8).bind fun a24 =>
        (f_X8_heightAt h a24 x2).bind fun v24 =>
        (f_V_numberFor h v17 (some this) x2 v24).bind fun v27 =>
        (rcv h x1 8).bind fun a32 =>
        (f_X8_numberAt h a32 x2).bind fun v32 =>
        if v27 = v32 then
          okZ (1 : Int32)
        else
          f_X8_canRaiseAs_42 h this 
      else
        f_X8_canRaiseAs_42 h this 
set_option maxRecDepth 100000 in
set_option maxHeartbeats 4000000 in
theorem k_X8_canRaiseAs (G : Gx) (l : Launch) {h : Hp} {this : Nat} {x1 : Option Nat} {x2 : Int32} {r : Int32} (hf : f_X8_canRaiseAs h this x1 x2 = some r) : KM l yX8_canRaiseAs (.code yX8_canRaiseAs cX8_canRaiseAs 3 (some .boolean) :: wsK) 3 69 G [vR (some this), vR x1, vI x2] h (some (vI r)) h := by
  refine r_entry (ctor := false) (own := RX8) (by decide +kernel) rfl (fun q => by cases q) (Nat.le_of_ble_eq_true rfl) ?_
  show RJ G l M_X8_canRaiseAs (some (vI r)) h 0 [(0, vR (some this)), (1, vR x1), (2, vI x2)] [] h
  unfold f_X8_canRaiseAs at hf
  refine r_aload_n 1 dX8_canRaiseAs_0 rfl ?_
  refine r_iload_n 2 dX8_canRaiseAs_1 rfl ?_
  obtain ⟨a2, ea2, hf⟩ := ob hf
  obtain ⟨v2, e2, hf⟩ := ob hf
  refine r_callV (y := yX8_hasHouse) (ci := 8) (avs := [vI x2]) dX8_canRaiseAs_2 rfl kw_1_198 kw_1_199 kw_1_200 kw_1_2 kw_1_201 oky_X8_hasHouse ⟨Nat.le_of_ble_eq_true rfl, Nat.le_of_ble_eq_true rfl⟩ rfl (Nat.le_of_ble_eq_true rfl) ea2 (k_X8_hasHouse G l e2) ?_
  refine r_if_eq (tgt := 42) dX8_canRaiseAs_5 (by decide) (fun c5 => ?_) (fun c5 => ?_)
  · replace hf := (if_pos c5).symm.trans hf
    exact r_sub [0] rfl (t_X8_canRaiseAs_42 G l _ _  _ hf)
  · replace hf := (if_neg c5).symm.trans hf
    refine r_aload_n 0 dX8_canRaiseAs_8 rfl ?_
    refine r_iload_n 2 dX8_canRaiseAs_9 rfl ?_
    obtain ⟨a10, ea10, hf⟩ := ob hf
    obtain ⟨v10, e10, hf⟩ := ob hf
    refine r_callV (y := yX8_hasHouse) (ci := 8) (avs := [vI x2]) dX8_canRaiseAs_10 rfl kw_1_198 kw_1_199 kw_1_200 kw_1_2 kw_1_201 oky_X8_hasHouse ⟨Nat.le_of_ble_eq_true rfl, Nat.le_of_ble_eq_true rfl⟩ rfl (Nat.le_of_ble_eq_true rfl) ea10 (k_X8_hasHouse G l e10) ?_
    refine r_if_ne (tgt := 42) dX8_canRaiseAs_13 (by decide) (fun c13 => ?_) (fun c13 => ?_)
    · replace hf := (if_pos c13).symm.trans hf
      refine r_aload_n 0 dX8_canRaiseAs_16 rfl ?_
      obtain ⟨v17, e17, hf⟩ := ob hf
      refine r_get dX8_canRaiseAs_17 fl_8_9 kw_1_74 (Or.inl rfl) (gR_sp e17) ?_
      refine r_aload_n 0 dX8_canRaiseAs_20 rfl ?_
      refine r_iload_n 2 dX8_canRaiseAs_21 rfl ?_
      refine r_aload_n 1 dX8_canRaiseAs_22 rfl ?_
      refine r_iload_n 2 dX8_canRaiseAs_23 rfl ?_
      obtain ⟨a24, ea24, hf⟩ := ob hf
      obtain ⟨v24, e24, hf⟩ := ob hf
      refine r_callV (y := yX8_heightAt) (ci := 8) (avs := [vI x2]) dX8_canRaiseAs_24 rfl kw_3_7 kw_2_112 kw_2_113 kw_1_2 kw_2_114 oky_X8_heightAt ⟨Nat.le_of_ble_eq_true rfl, Nat.le_of_ble_eq_true rfl⟩ rfl (Nat.le_of_ble_eq_true rfl) ea24 (k_X8_heightAt G l e24) ?_
      obtain ⟨v27, e27, hf⟩ := ob hf
      refine rv_numberFor dX8_canRaiseAs_27 kw_1_206 ⟨Nat.le_of_ble_eq_true rfl, Nat.le_of_ble_eq_true rfl⟩ rfl (Nat.le_of_ble_eq_true rfl) e27 ?_
      refine r_aload_n 1 dX8_canRaiseAs_30 rfl ?_
      refine r_iload_n 2 dX8_canRaiseAs_31 rfl ?_
      obtain ⟨a32, ea32, hf⟩ := ob hf
      obtain ⟨v32, e32, hf⟩ := ob hf
      refine r_callV (y := yX8_numberAt) (ci := 8) (avs := [vI x2]) dX8_canRaiseAs_32 rfl kw_1_202 kw_1_203 kw_1_204 kw_1_2 kw_1_205 oky_X8_numberAt ⟨Nat.le_of_ble_eq_true rfl, Nat.le_of_ble_eq_true rfl⟩ rfl (Nat.le_of_ble_eq_true rfl) ea32 (k_X8_numberAt G l e32) ?_
      refine r_icmp_ne (tgt := 42) dX8_canRaiseAs_35 (by decide) (fun c35 => ?_) (fun c35 => ?_)
      · replace hf := (if_pos c35).symm.trans hf
        refine r_iconst (x := (1 : Int32)) dX8_canRaiseAs_38 (by decide) ?_
        refine r_goto (tgt := 43) dX8_canRaiseAs_39 (by decide) ?_
        exact r_zret rfl dX8_canRaiseAs_43 hf
      · replace hf := (if_neg c35).symm.trans hf
        exact r_sub [0] rfl (t_X8_canRaiseAs_42 G l _ _  _ hf)
    · replace hf := (if_neg c13).symm.trans hf
      exact r_sub [0] rfl (t_X8_canRaiseAs_42 G l _ _  _ hf)
/-! ===== NumberedByAge$Street.takeBack(I)V ===== -/
abbrev M_X8_takeBack : Mx := (cX8_takeBack, 2, RX8, (false, []), none, 3, 62)
def f_X8_takeBack (h : Hp) (this : Nat) (x1 : Int32) : Option Hp :=
    (f_X10_isPlot h x1).bind fun v1 =>
    if v1 = 0 then
      some h
    else
      (rcv h (some this) 8).bind fun a9 =>
      (f_X8_hasHouse h a9 x1).bind fun v9 =>
      if v9 = 0 then
        some h
      else
        (gR h (some this) [8] 0).bind fun v16 =>
        (wI h v16 x1 (0 : Int32)).bind fun h21 =>
        (gR h21 (some this) [8] 3).bind fun v23 =>
        (dvI x1 (4 : Int32)).bind fun v28 =>
        (aI h21 v23 v28).bind fun v30 =>
        (wI h21 v23 v28 (v30 - (1 : Int32))).bind fun h33 =>
        (gI h33 (some this) [8] 8).bind fun v36 =>
        (pF h33 (some this) [8] 8 (vI (v36 - (1 : Int32)))).bind fun h41 =>
        (gI h41 (some this) [8] 7).bind fun v46 =>
        (pF h41 (some this) [8] 7 (vI (v46 - (1 : Int32)))).bind fun h51 =>
        some h51
set_option maxRecDepth 100000 in
set_option maxHeartbeats 4000000 in
theorem k_X8_takeBack (G : Gx) (l : Launch) {h : Hp} {this : Nat} {x1 : Int32} {r : Hp} (hf : f_X8_takeBack h this x1 = some r) : KM l yX8_takeBack (.code yX8_takeBack cX8_takeBack 2 none :: wsK) 3 62 G [vR (some this), vI x1] h none r := by
  refine r_entry (ctor := false) (own := RX8) (by decide +kernel) rfl (fun q => by cases q) (Nat.le_of_ble_eq_true rfl) ?_
  show RJ G l M_X8_takeBack none r 0 [(0, vR (some this)), (1, vI x1)] [] h
  unfold f_X8_takeBack at hf
  refine r_iload_n 1 dX8_takeBack_0 rfl ?_
  obtain ⟨v1, e1, hf⟩ := ob hf
  refine r_callSN (y := yX10_isPlot) (avs := [vI x1]) dX8_takeBack_1 (by decide) kw_1_193 kw_1_1 kw_1_194 oky_X10_isPlot ⟨Nat.le_of_ble_eq_true rfl, Nat.le_of_ble_eq_true rfl⟩ rfl (Nat.le_of_ble_eq_true rfl) (k_X10_isPlot G l e1) ?_
  refine r_if_eq (tgt := 54) dX8_takeBack_4 (by decide) (fun c4 => ?_) (fun c4 => ?_)
  · replace hf := (if_pos c4).symm.trans hf
    have hf := Option.some.inj hf
    subst hf
    exact r_vret rfl dX8_takeBack_54
  · replace hf := (if_neg c4).symm.trans hf
    refine r_aload_n 0 dX8_takeBack_7 rfl ?_
    refine r_iload_n 1 dX8_takeBack_8 rfl ?_
    obtain ⟨a9, ea9, hf⟩ := ob hf
    obtain ⟨v9, e9, hf⟩ := ob hf
    refine r_callV (y := yX8_hasHouse) (ci := 8) (avs := [vI x1]) dX8_takeBack_9 rfl kw_1_198 kw_1_199 kw_1_200 kw_1_2 kw_1_201 oky_X8_hasHouse ⟨Nat.le_of_ble_eq_true rfl, Nat.le_of_ble_eq_true rfl⟩ rfl (Nat.le_of_ble_eq_true rfl) ea9 (k_X8_hasHouse G l e9) ?_
    refine r_if_eq (tgt := 54) dX8_takeBack_12 (by decide) (fun c12 => ?_) (fun c12 => ?_)
    · replace hf := (if_pos c12).symm.trans hf
      have hf := Option.some.inj hf
      subst hf
      exact r_vret rfl dX8_takeBack_54
    · replace hf := (if_neg c12).symm.trans hf
      refine r_aload_n 0 dX8_takeBack_15 rfl ?_
      obtain ⟨v16, e16, hf⟩ := ob hf
      refine r_get dX8_takeBack_16 fl_8_0 kw_1_62 (Or.inl rfl) (gR_sp e16) ?_
      refine r_iload_n 1 dX8_takeBack_19 rfl ?_
      refine r_iconst (x := (0 : Int32)) dX8_takeBack_20 (by decide) ?_
      obtain ⟨h21, e21, hf⟩ := ob hf
      refine r_iastore dX8_takeBack_21 e21 ?_
      refine r_aload_n 0 dX8_takeBack_22 rfl ?_
      obtain ⟨v23, e23, hf⟩ := ob hf
      refine r_get dX8_takeBack_23 fl_8_3 kw_1_65 (Or.inl rfl) (gR_sp e23) ?_
      refine r_iload_n 1 dX8_takeBack_26 rfl ?_
      refine r_iconst (x := (4 : Int32)) dX8_takeBack_27 (by decide) ?_
      obtain ⟨v28, e28, hf⟩ := ob hf
      refine r_idiv dX8_takeBack_28 e28 ?_
      refine r_dup2 dX8_takeBack_29 rfl rfl ?_
      obtain ⟨v30, e30, hf⟩ := ob hf
      refine r_iaload dX8_takeBack_30 e30 ?_
      refine r_iconst (x := (1 : Int32)) dX8_takeBack_31 (by decide) ?_
      refine r_pc (pc' := 32) rfl ?_
      refine r_isub dX8_takeBack_32 ?_
      obtain ⟨h33, e33, hf⟩ := ob hf
      refine r_iastore dX8_takeBack_33 e33 ?_
      refine r_aload_n 0 dX8_takeBack_34 rfl ?_
      refine r_dup dX8_takeBack_35 rfl ?_
      obtain ⟨v36, e36, hf⟩ := ob hf
      refine r_get dX8_takeBack_36 fl_8_8 kw_1_72 (Or.inl rfl) (gI_sp e36) ?_
      refine r_iconst (x := (1 : Int32)) dX8_takeBack_39 (by decide) ?_
      refine r_isub dX8_takeBack_40 ?_
      obtain ⟨h41, e41, hf⟩ := ob hf
      refine r_put dX8_takeBack_41 fl_8_8 kw_1_72 (Or.inl rfl) (by decide +kernel) (fit_int _) e41 ?_
      refine r_aload_n 0 dX8_takeBack_44 rfl ?_
      refine r_dup dX8_takeBack_45 rfl ?_
      obtain ⟨v46, e46, hf⟩ := ob hf
      refine r_get dX8_takeBack_46 fl_8_7 kw_1_69 (Or.inl rfl) (gI_sp e46) ?_
      refine r_iconst (x := (1 : Int32)) dX8_takeBack_49 (by decide) ?_
      refine r_isub dX8_takeBack_50 ?_
      obtain ⟨h51, e51, hf⟩ := ob hf
      refine r_put dX8_takeBack_51 fl_8_7 kw_1_69 (Or.inl rfl) (by decide +kernel) (fit_int _) e51 ?_
      have hf := Option.some.inj hf
      subst hf
      exact r_vret rfl dX8_takeBack_54
/-! ===== NumberedByAge$Street.freeNumbers()I ===== -/
abbrev M_X8_freeNumbers : Mx := (cX8_freeNumbers, 4, RX8, (false, []), (some .int), 2, 43)
def f_X8_freeNumbers_25 (h : Hp) (this : Nat) (k9 : Int32 → Int32 → Int32 → Option Int32) (x1 : Int32) (x2 : Int32) (x3 : Int32) : Option Int32 :=
    k9 x1 x2 (x3 + 1)
set_option maxRecDepth 100000 in
set_option maxHeartbeats 4000000 in
theorem t_X8_freeNumbers_25 (G : Gx) (l : Launch) (h : Hp) (this : Nat) (k9 : Int32 → Int32 → Int32 → Option Int32) (hk9 : ∀ (x1 : Int32) (x2 : Int32) (x3 : Int32) (r : Int32), k9 x1 x2 x3 = some r → RJ G l M_X8_freeNumbers (some (vI r)) h 9 [(0, vR (some this)), (1, vI x1), (2, vI x2), (3, vI x3)] [] h) (x1 : Int32) (x2 : Int32) (x3 : Int32) (r : Int32) (hf : f_X8_freeNumbers_25 h this k9 x1 x2 x3 = some r) : RJ G l M_X8_freeNumbers (some (vI r)) h 25 [(0, vR (some this)), (1, vI x1), (2, vI x2), (3, vI x3)] [] h := by
  unfold f_X8_freeNumbers_25 at hf
  refine r_iinc (y := (x3 + 1)) (lv' := [(3, vI (x3 + 1)), (0, vR (some this)), (1, vI x1), (2, vI x2)]) 3 dX8_freeNumbers_25 rfl rfl (Nat.le_of_ble_eq_true rfl) rfl ?_
  refine r_goto (tgt := 9) dX8_freeNumbers_28 (by decide) ?_
  exact r_sub [1, 2, 3, 0] rfl (hk9 _ _ _ _ hf)
def f_X8_freeNumbers_9 (h : Hp) (this : Nat) : Nat → Int32 → Int32 → Int32 → Option Int32
  | 0, _, _, _ => none
  | n + 1, x1, x2, x3 =>
    if x1 ≤ x3 then
      some x2
    else
      (rcv h (some this) 8).bind fun a16 =>
      (f_X8_plotsWith h a16 x3).bind fun v16 =>
      if v16 = 0 then
        f_X8_freeNumbers_25 h this (f_X8_freeNumbers_9 h this n) x1 (x2 + 1) x3
      else
        f_X8_freeNumbers_25 h this (f_X8_freeNumbers_9 h this n) x1 x2 x3
set_option maxRecDepth 100000 in
set_option maxHeartbeats 4000000 in
theorem t_X8_freeNumbers_9 (G : Gx) (l : Launch) (h : Hp) (this : Nat)  : ∀ (n : Nat) (x1 : Int32) (x2 : Int32) (x3 : Int32) (r : Int32), f_X8_freeNumbers_9 h this n x1 x2 x3 = some r → RJ G l M_X8_freeNumbers (some (vI r)) h 9 [(0, vR (some this)), (1, vI x1), (2, vI x2), (3, vI x3)] [] h := by
  intro n
  induction n with
  | zero =>
    intro x1 x2 x3 r hf
    rw [f_X8_freeNumbers_9] at hf
    cases hf
  | succ n ih =>
    intro x1 x2 x3 r hf
    rw [f_X8_freeNumbers_9] at hf
    refine r_iload_n 3 dX8_freeNumbers_9 rfl ?_
    refine r_iload_n 1 dX8_freeNumbers_10 rfl ?_
    refine r_icmp_ge (tgt := 31) dX8_freeNumbers_11 (by decide) (fun c11 => ?_) (fun c11 => ?_)
    · replace hf := (if_pos c11).symm.trans hf
      refine r_iload_n 2 dX8_freeNumbers_31 rfl ?_
      have hf := Option.some.inj hf
      subst hf
      exact r_iret rfl dX8_freeNumbers_32
    · replace hf := (if_neg c11).symm.trans hf
      refine r_aload_n 0 dX8_freeNumbers_14 rfl ?_
      refine r_iload_n 3 dX8_freeNumbers_15 rfl ?_
      obtain ⟨a16, ea16, hf⟩ := ob hf
      obtain ⟨v16, e16, hf⟩ := ob hf
      refine r_callV (y := yX8_plotsWith) (ci := 8) (avs := [vI x3]) dX8_freeNumbers_16 rfl kw_2_155 kw_2_124 kw_2_125 kw_1_2 kw_2_126 oky_X8_plotsWith ⟨Nat.le_of_ble_eq_true rfl, Nat.le_of_ble_eq_true rfl⟩ rfl (Nat.le_of_ble_eq_true rfl) ea16 (k_X8_plotsWith G l e16) ?_
      refine r_if_ne (tgt := 25) dX8_freeNumbers_19 (by decide) (fun c19 => ?_) (fun c19 => ?_)
      · replace hf := (if_pos c19).symm.trans hf
        refine r_iinc (y := (x2 + 1)) (lv' := [(2, vI (x2 + 1)), (0, vR (some this)), (1, vI x1), (3, vI x3)]) 2 dX8_freeNumbers_22 rfl rfl (Nat.le_of_ble_eq_true rfl) rfl ?_
        exact r_sub [1, 2, 0, 3] rfl (t_X8_freeNumbers_25 G l _ _ (f_X8_freeNumbers_9 h this n) ih _ _ _ _ hf)
      · replace hf := (if_neg c19).symm.trans hf
        exact r_sub [0, 1, 2, 3] rfl (t_X8_freeNumbers_25 G l _ _ (f_X8_freeNumbers_9 h this n) ih _ _ _ _ hf)
def f_X8_freeNumbers (h : Hp) (this : Nat) : Option Int32 :=
    (rcv h (some this) 8).bind fun a1 =>
    (f_X8_greatest h a1).bind fun v1 =>
    f_X8_freeNumbers_9 h this 10000 v1 (0 : Int32) (1 : Int32)
set_option maxRecDepth 100000 in
set_option maxHeartbeats 4000000 in
theorem k_X8_freeNumbers (G : Gx) (l : Launch) {h : Hp} {this : Nat} {r : Int32} (hf : f_X8_freeNumbers h this = some r) : KM l yX8_freeNumbers (.code yX8_freeNumbers cX8_freeNumbers 4 (some .int) :: wsK) 2 43 G [vR (some this)] h (some (vI r)) h := by
  refine r_entry (ctor := false) (own := RX8) (by decide +kernel) rfl (fun q => by cases q) (Nat.le_of_ble_eq_true rfl) ?_
  show RJ G l M_X8_freeNumbers (some (vI r)) h 0 [(0, vR (some this))] [] h
  unfold f_X8_freeNumbers at hf
  refine r_aload_n 0 dX8_freeNumbers_0 rfl ?_
  obtain ⟨a1, ea1, hf⟩ := ob hf
  obtain ⟨v1, e1, hf⟩ := ob hf
  refine r_callV (y := yX8_greatest) (ci := 8) (avs := []) dX8_freeNumbers_1 rfl kw_2_154 kw_1_228 kw_1_229 kw_1_2 kw_1_230 oky_X8_greatest ⟨Nat.le_of_ble_eq_true rfl, Nat.le_of_ble_eq_true rfl⟩ rfl (Nat.le_of_ble_eq_true rfl) ea1 (k_X8_greatest G l e1) ?_
  refine r_istore_n (lv' := [(1, vI v1), (0, vR (some this))]) dX8_freeNumbers_4 (Nat.le_of_ble_eq_true rfl) rfl ?_
  refine r_iconst (x := (0 : Int32)) dX8_freeNumbers_5 (by decide) ?_
  refine r_istore_n (lv' := [(2, vI (0 : Int32)), (1, vI v1), (0, vR (some this))]) dX8_freeNumbers_6 (Nat.le_of_ble_eq_true rfl) rfl ?_
  refine r_iconst (x := (1 : Int32)) dX8_freeNumbers_7 (by decide) ?_
  refine r_istore_n (lv' := [(3, vI (1 : Int32)), (2, vI (0 : Int32)), (1, vI v1), (0, vR (some this))]) dX8_freeNumbers_8 (Nat.le_of_ble_eq_true rfl) rfl ?_
  exact r_sub [3, 2, 1, 0] rfl (t_X8_freeNumbers_9 G l _ _ _ _ _ _ _ hf)
/-! ===== NumberedByAge$Street.ageAt(I)I ===== -/
abbrev M_X8_ageAt : Mx := (cX8_ageAt, 2, RX8, (false, []), (some .int), 1, 20)
def f_X8_ageAt (h : Hp) (this : Nat) (x1 : Int32) : Option Int32 :=
    (f_X10_isPlot h x1).bind fun v1 =>
    if v1 = 0 then
      some (0 : Int32)
    else
      (gI h (some this) [8] 7).bind fun v8 =>
      (gR h (some this) [8] 2).bind fun v14 =>
      (aI h v14 x1).bind fun v18 =>
      some ((v8 - (1 : Int32)) - v18)
set_option maxRecDepth 100000 in
set_option maxHeartbeats 4000000 in
theorem k_X8_ageAt (G : Gx) (l : Launch) {h : Hp} {this : Nat} {x1 : Int32} {r : Int32} (hf : f_X8_ageAt h this x1 = some r) : KM l yX8_ageAt (.code yX8_ageAt cX8_ageAt 2 (some .int) :: wsK) 1 20 G [vR (some this), vI x1] h (some (vI r)) h := by
  refine r_entry (ctor := false) (own := RX8) (by decide +kernel) rfl (fun q => by cases q) (Nat.le_of_ble_eq_true rfl) ?_
  show RJ G l M_X8_ageAt (some (vI r)) h 0 [(0, vR (some this)), (1, vI x1)] [] h
  unfold f_X8_ageAt at hf
  refine r_iload_n 1 dX8_ageAt_0 rfl ?_
  obtain ⟨v1, e1, hf⟩ := ob hf
  refine r_callSN (y := yX10_isPlot) (avs := [vI x1]) dX8_ageAt_1 (by decide) kw_1_193 kw_1_1 kw_1_194 oky_X10_isPlot ⟨Nat.le_of_ble_eq_true rfl, Nat.le_of_ble_eq_true rfl⟩ rfl (Nat.le_of_ble_eq_true rfl) (k_X10_isPlot G l e1) ?_
  refine r_if_eq (tgt := 23) dX8_ageAt_4 (by decide) (fun c4 => ?_) (fun c4 => ?_)
  · replace hf := (if_pos c4).symm.trans hf
    refine r_iconst (x := (0 : Int32)) dX8_ageAt_23 (by decide) ?_
    have hf := Option.some.inj hf
    subst hf
    exact r_iret rfl dX8_ageAt_24
  · replace hf := (if_neg c4).symm.trans hf
    refine r_aload_n 0 dX8_ageAt_7 rfl ?_
    obtain ⟨v8, e8, hf⟩ := ob hf
    refine r_get dX8_ageAt_8 fl_8_7 kw_1_69 (Or.inl rfl) (gI_sp e8) ?_
    refine r_iconst (x := (1 : Int32)) dX8_ageAt_11 (by decide) ?_
    refine r_isub dX8_ageAt_12 ?_
    refine r_aload_n 0 dX8_ageAt_13 rfl ?_
    obtain ⟨v14, e14, hf⟩ := ob hf
    refine r_get dX8_ageAt_14 fl_8_2 kw_1_64 (Or.inl rfl) (gR_sp e14) ?_
    refine r_iload_n 1 dX8_ageAt_17 rfl ?_
    obtain ⟨v18, e18, hf⟩ := ob hf
    refine r_iaload dX8_ageAt_18 e18 ?_
    refine r_isub dX8_ageAt_19 ?_
    refine r_goto (tgt := 24) dX8_ageAt_20 (by decide) ?_
    have hf := Option.some.inj hf
    subst hf
    exact r_iret rfl dX8_ageAt_24
/-! ===== NumberedByAge$Street.<init>()V ===== -/
abbrev M_X8_init : Mx := (cX8_init, 1, RX8, (true, []), none, 2, 42)
def f_X8_init (h : Hp) (this : Nat) : Option Hp :=
    (pF (h ++ [eI 12 (fun _ => 0)]) (some this) [8] 0 (vR (some h.length))).bind fun h9 =>
    (pF (h9 ++ [eI 12 (fun _ => 0)]) (some this) [8] 1 (vR (some h9.length))).bind fun h17 =>
    (pF (h17 ++ [eI 12 (fun _ => 0)]) (some this) [8] 2 (vR (some h17.length))).bind fun h25 =>
    (pF (h25 ++ [eI 3 (fun _ => 0)]) (some this) [8] 3 (vR (some h25.length))).bind fun h32 =>
    (pF (h32 ++ [eI 30 (fun _ => 0)]) (some this) [8] 4 (vR (some h32.length))).bind fun h40 =>
    (pF (h40 ++ [eI 30 (fun _ => 0)]) (some this) [8] 5 (vR (some h40.length))).bind fun h48 =>
    (pF (h48 ++ [eI 12 (fun _ => 0)]) (some this) [8] 6 (vR (some h48.length))).bind fun h56 =>
    (f_X3_init (h56 ++ [eO 3 [vI 0, vI 0]]) h56.length (0 : Int32) (0 : Int32)).bind fun h66 =>
    (pF h66 (some this) [8] 9 (vR (some h56.length))).bind fun h69 =>
    some h69
set_option maxRecDepth 100000 in
set_option maxHeartbeats 4000000 in
theorem k_X8_init (G : Gx) (l : Launch) {h : Hp} {this : Nat} {r : Hp} (hf : f_X8_init h this = some r) : KM l yX8_init (.code yX8_init cX8_init 1 none :: wsK) 2 42 G [vR (some this)] h none r := by
  refine r_entry (ctor := true) (own := RX8) (by decide +kernel) rfl (fun _ => rfl) (Nat.le_of_ble_eq_true rfl) ?_
  show RJ G l M_X8_init none r 0 [(0, vR (some this))] [] h
  unfold f_X8_init at hf
  refine r_aload_n 0 dX8_init_0 rfl ?_
  refine r_objInit dX8_init_1 kw_1_35 kw_1_28 kw_1_29 ⟨Nat.le_of_ble_eq_true rfl, Nat.le_of_ble_eq_true rfl⟩ (Nat.le_of_ble_eq_true rfl) ?_
  refine r_aload_n 0 dX8_init_4 rfl ?_
  refine r_bipush (x := (12 : Int32)) dX8_init_5 (by decide) ?_
  refine r_newI (n := 12) dX8_init_7 kw_1_61 (by decide) (by decide) (by decide) ?_
  obtain ⟨h9, e9, hf⟩ := ob hf
  refine r_putF dX8_init_9 fl_8_0 kw_1_62 (Or.inl rfl) rfl rfl (by decide +kernel) (fit_arr .int _) e9 ?_
  refine r_aload_n 0 dX8_init_12 rfl ?_
  refine r_bipush (x := (12 : Int32)) dX8_init_13 (by decide) ?_
  refine r_newI (n := 12) dX8_init_15 kw_1_61 (by decide) (by decide) (by decide) ?_
  obtain ⟨h17, e17, hf⟩ := ob hf
  refine r_putF dX8_init_17 fl_8_1 kw_1_63 (Or.inl rfl) rfl rfl (by decide +kernel) (fit_arr .int _) e17 ?_
  refine r_aload_n 0 dX8_init_20 rfl ?_
  refine r_bipush (x := (12 : Int32)) dX8_init_21 (by decide) ?_
  refine r_newI (n := 12) dX8_init_23 kw_1_61 (by decide) (by decide) (by decide) ?_
  refine r_pc (pc' := 25) rfl ?_
  obtain ⟨h25, e25, hf⟩ := ob hf
  refine r_putF dX8_init_25 fl_8_2 kw_1_64 (Or.inl rfl) rfl rfl (by decide +kernel) (fit_arr .int _) e25 ?_
  refine r_aload_n 0 dX8_init_28 rfl ?_
  refine r_iconst (x := (3 : Int32)) dX8_init_29 (by decide) ?_
  refine r_newI (n := 3) dX8_init_30 kw_1_61 (by decide) (by decide) (by decide) ?_
  obtain ⟨h32, e32, hf⟩ := ob hf
  refine r_putF dX8_init_32 fl_8_3 kw_1_65 (Or.inl rfl) rfl rfl (by decide +kernel) (fit_arr .int _) e32 ?_
  refine r_aload_n 0 dX8_init_35 rfl ?_
  refine r_bipush (x := (30 : Int32)) dX8_init_36 (by decide) ?_
  refine r_newI (n := 30) dX8_init_38 kw_1_61 (by decide) (by decide) (by decide) ?_
  obtain ⟨h40, e40, hf⟩ := ob hf
  refine r_putF dX8_init_40 fl_8_4 kw_1_66 (Or.inl rfl) rfl rfl (by decide +kernel) (fit_arr .int _) e40 ?_
  refine r_aload_n 0 dX8_init_43 rfl ?_
  refine r_bipush (x := (30 : Int32)) dX8_init_44 (by decide) ?_
  refine r_newI (n := 30) dX8_init_46 kw_1_61 (by decide) (by decide) (by decide) ?_
  obtain ⟨h48, e48, hf⟩ := ob hf
  refine r_putF dX8_init_48 fl_8_5 kw_1_67 (Or.inl rfl) rfl rfl (by decide +kernel) (fit_arr .int _) e48 ?_
  refine r_aload_n 0 dX8_init_51 rfl ?_
  refine r_pc (pc' := 52) rfl ?_
  refine r_bipush (x := (12 : Int32)) dX8_init_52 (by decide) ?_
  refine r_newI (n := 12) dX8_init_54 kw_1_61 (by decide) (by decide) (by decide) ?_
  obtain ⟨h56, e56, hf⟩ := ob hf
  refine r_putF dX8_init_56 fl_8_6 kw_1_68 (Or.inl rfl) rfl rfl (by decide +kernel) (fit_arr .int _) e56 ?_
  refine r_aload_n 0 dX8_init_59 rfl ?_
  refine r_new (ci := 3) (fs := [vI 0, vI 0]) tyX3 dX8_init_60 rfl ic_3 tyX3_ok kw_1_36 kw_1_37 kw_1_3 rfl (dv_3 _) ?_
  refine r_dup dX8_init_63 rfl ?_
  refine r_iconst (x := (0 : Int32)) dX8_init_64 (by decide) ?_
  refine r_iconst (x := (0 : Int32)) dX8_init_65 (by decide) ?_
  obtain ⟨h66, e66, hf⟩ := ob hf
  refine r_callI (y := yX3_init) (avs := [vI (0 : Int32), vI (0 : Int32)]) dX8_init_66 kw_1_38 kw_1_39 kw_1_3 kw_1_40 rfl oky_X3_init ⟨Nat.le_of_ble_eq_true rfl, Nat.le_of_ble_eq_true rfl⟩ rfl (Nat.le_of_ble_eq_true rfl) (k_X3_init G l e66) ?_
  obtain ⟨h69, e69, hf⟩ := ob hf
  refine r_put dX8_init_69 fl_8_9 kw_1_74 (Or.inl rfl) (by decide +kernel) (fit_ref "NumberedByAge$Law" _) e69 ?_
  have hf := Option.some.inj hf
  subst hf
  exact r_vret rfl dX8_init_72
/-! ===== NumberedByAge$Street.hasNumbersOf(LNumberedByAge$Street;)Z ===== -/
abbrev M_X8_hasNumbersOf : Mx := (cX8_hasNumbersOf, 3, RX8, (false, []), (some .boolean), 0, 0)
def f_X8_hasNumbersOf_2 (h : Hp) (this : Nat) : Nat → (Option Nat) → Int32 → Option Int32
  | 0, _, _ => none
  | n + 1, x1, x2 =>
    if (12 : Int32) ≤ x2 then
      okZ (1 : Int32)
    else
      (gR h (some this) [8] 0).bind fun v9 =>
      (aI h v9 x2).bind fun v13 =>
      (gR h x1 [8] 0).bind fun v15 =>
      (aI h v15 x2).bind fun v19 =>
      if v13 = v19 then
        (f_X8_hasNumbersOf_2 h this n) x1 (x2 + 1)
      else
        okZ (0 : Int32)
set_option maxRecDepth 100000 in
set_option maxHeartbeats 4000000 in
theorem t_X8_hasNumbersOf_2 (G : Gx) (l : Launch) (h : Hp) (this : Nat)  : ∀ (n : Nat) (x1 : Option Nat) (x2 : Int32) (r : Int32), f_X8_hasNumbersOf_2 h this n x1 x2 = some r → RJ G l M_X8_hasNumbersOf (some (vI r)) h 2 [(0, vR (some this)), (1, vR x1), (2, vI x2)] [] h := by
  intro n
  induction n with
  | zero =>
    intro x1 x2 r hf
    rw [f_X8_hasNumbersOf_2] at hf
    cases hf
  | succ n ih =>
    intro x1 x2 r hf
    rw [f_X8_hasNumbersOf_2] at hf
    refine r_iload_n 2 dX8_hasNumbersOf_2 rfl ?_
    refine r_bipush (x := (12 : Int32)) dX8_hasNumbersOf_3 (by decide) ?_
    refine r_icmp_ge (tgt := 31) dX8_hasNumbersOf_5 (by decide) (fun c5 => ?_) (fun c5 => ?_)
    · replace hf := (if_pos c5).symm.trans hf
      refine r_iconst (x := (1 : Int32)) dX8_hasNumbersOf_31 (by decide) ?_
      exact r_zret rfl dX8_hasNumbersOf_32 hf
    · replace hf := (if_neg c5).symm.trans hf
      refine r_aload_n 0 dX8_hasNumbersOf_8 rfl ?_
      obtain ⟨v9, e9, hf⟩ := ob hf
      refine r_get dX8_hasNumbersOf_9 fl_8_0 kw_1_62 (Or.inl rfl) (gR_sp e9) ?_
      refine r_iload_n 2 dX8_hasNumbersOf_12 rfl ?_
      obtain ⟨v13, e13, hf⟩ := ob hf
      refine r_iaload dX8_hasNumbersOf_13 e13 ?_
      refine r_aload_n 1 dX8_hasNumbersOf_14 rfl ?_
      obtain ⟨v15, e15, hf⟩ := ob hf
      refine r_get dX8_hasNumbersOf_15 fl_8_0 kw_1_62 (Or.inl rfl) (gR_sp e15) ?_
      refine r_iload_n 2 dX8_hasNumbersOf_18 rfl ?_
      obtain ⟨v19, e19, hf⟩ := ob hf
      refine r_iaload dX8_hasNumbersOf_19 e19 ?_
      refine r_icmp_eq (tgt := 25) dX8_hasNumbersOf_20 (by decide) (fun c20 => ?_) (fun c20 => ?_)
      · replace hf := (if_pos c20).symm.trans hf
        refine r_iinc (y := (x2 + 1)) (lv' := [(2, vI (x2 + 1)), (0, vR (some this)), (1, vR x1)]) 2 dX8_hasNumbersOf_25 rfl rfl (Nat.le_of_ble_eq_true rfl) rfl ?_
        refine r_goto (tgt := 2) dX8_hasNumbersOf_28 (by decide) ?_
        exact r_sub [1, 2, 0] rfl (ih _ _ _ hf)
      · replace hf := (if_neg c20).symm.trans hf
        refine r_iconst (x := (0 : Int32)) dX8_hasNumbersOf_23 (by decide) ?_
        exact r_zret rfl dX8_hasNumbersOf_24 hf
def f_X8_hasNumbersOf (h : Hp) (this : Nat) (x1 : Option Nat) : Option Int32 :=
    f_X8_hasNumbersOf_2 h this 10000 x1 (0 : Int32)
set_option maxRecDepth 100000 in
set_option maxHeartbeats 4000000 in
theorem k_X8_hasNumbersOf (G : Gx) (l : Launch) {h : Hp} {this : Nat} {x1 : Option Nat} {r : Int32} (hf : f_X8_hasNumbersOf h this x1 = some r) : KM l yX8_hasNumbersOf (.code yX8_hasNumbersOf cX8_hasNumbersOf 3 (some .boolean) :: wsK) 0 0 G [vR (some this), vR x1] h (some (vI r)) h := by
  refine r_entry (ctor := false) (own := RX8) (by decide +kernel) rfl (fun q => by cases q) (Nat.le_of_ble_eq_true rfl) ?_
  show RJ G l M_X8_hasNumbersOf (some (vI r)) h 0 [(0, vR (some this)), (1, vR x1)] [] h
  unfold f_X8_hasNumbersOf at hf
  refine r_iconst (x := (0 : Int32)) dX8_hasNumbersOf_0 (by decide) ?_
  refine r_istore_n (lv' := [(2, vI (0 : Int32)), (0, vR (some this)), (1, vR x1)]) dX8_hasNumbersOf_1 (Nat.le_of_ble_eq_true rfl) rfl ?_
  exact r_sub [1, 2, 0] rfl (t_X8_hasNumbersOf_2 G l _ _ _ _ _ _ hf)
/-! ===== NumberedByAge$Street.builtAheadOf(I)I ===== -/
abbrev M_X8_builtAheadOf : Mx := (cX8_builtAheadOf, 5, RX8, (false, []), (some .int), 3, 62)
def f_X8_builtAheadOf_40 (h : Hp) (this : Nat) (k11 : Int32 → Int32 → Int32 → Option Int32) (x2 : Int32) (x3 : Int32) (x4 : Int32) : Option Int32 :=
    k11 x2 x3 (x4 + 1)
set_option maxRecDepth 100000 in
set_option maxHeartbeats 4000000 in
theorem t_X8_builtAheadOf_40 (G : Gx) (l : Launch) (h : Hp) (this : Nat) (k11 : Int32 → Int32 → Int32 → Option Int32) (hk11 : ∀ (x2 : Int32) (x3 : Int32) (x4 : Int32) (r : Int32), k11 x2 x3 x4 = some r → RJ G l M_X8_builtAheadOf (some (vI r)) h 11 [(0, vR (some this)), (2, vI x2), (3, vI x3), (4, vI x4)] [] h) (x2 : Int32) (x3 : Int32) (x4 : Int32) (r : Int32) (hf : f_X8_builtAheadOf_40 h this k11 x2 x3 x4 = some r) : RJ G l M_X8_builtAheadOf (some (vI r)) h 40 [(0, vR (some this)), (2, vI x2), (3, vI x3), (4, vI x4)] [] h := by
  unfold f_X8_builtAheadOf_40 at hf
  refine r_iinc (y := (x4 + 1)) (lv' := [(4, vI (x4 + 1)), (0, vR (some this)), (2, vI x2), (3, vI x3)]) 3 dX8_builtAheadOf_40 rfl rfl (Nat.le_of_ble_eq_true rfl) rfl ?_
  refine r_goto (tgt := 11) dX8_builtAheadOf_43 (by decide) ?_
  exact r_sub [1, 2, 3, 0] rfl (hk11 _ _ _ _ hf)
def f_X8_builtAheadOf_11 (h : Hp) (this : Nat) : Nat → Int32 → Int32 → Int32 → Option Int32
  | 0, _, _, _ => none
  | n + 1, x2, x3, x4 =>
    if (12 : Int32) ≤ x4 then
      some x3
    else
      (rcv h (some this) 8).bind fun a21 =>
      (f_X8_hasHouse h a21 x4).bind fun v21 =>
      if v21 = 0 then
        f_X8_builtAheadOf_40 h this (f_X8_builtAheadOf_11 h this n) x2 x3 x4
      else
        (rcv h (some this) 8).bind fun a30 =>
        (f_X8_ageAt h a30 x4).bind fun v30 =>
        if v30 ≤ x2 then
          f_X8_builtAheadOf_40 h this (f_X8_builtAheadOf_11 h this n) x2 x3 x4
        else
          f_X8_builtAheadOf_40 h this (f_X8_builtAheadOf_11 h this n) x2 (x3 + 1) x4
set_option maxRecDepth 100000 in
set_option maxHeartbeats 4000000 in
theorem t_X8_builtAheadOf_11 (G : Gx) (l : Launch) (h : Hp) (this : Nat)  : ∀ (n : Nat) (x2 : Int32) (x3 : Int32) (x4 : Int32) (r : Int32), f_X8_builtAheadOf_11 h this n x2 x3 x4 = some r → RJ G l M_X8_builtAheadOf (some (vI r)) h 11 [(0, vR (some this)), (2, vI x2), (3, vI x3), (4, vI x4)] [] h := by
  intro n
  induction n with
  | zero =>
    intro x2 x3 x4 r hf
    rw [f_X8_builtAheadOf_11] at hf
    cases hf
  | succ n ih =>
    intro x2 x3 x4 r hf
    rw [f_X8_builtAheadOf_11] at hf
    refine r_iload 3 dX8_builtAheadOf_11 rfl ?_
    refine r_bipush (x := (12 : Int32)) dX8_builtAheadOf_13 (by decide) ?_
    refine r_icmp_ge (tgt := 46) dX8_builtAheadOf_15 (by decide) (fun c15 => ?_) (fun c15 => ?_)
    · replace hf := (if_pos c15).symm.trans hf
      refine r_iload_n 2 dX8_builtAheadOf_46 rfl ?_
      have hf := Option.some.inj hf
      subst hf
      exact r_iret rfl dX8_builtAheadOf_47
    · replace hf := (if_neg c15).symm.trans hf
      refine r_aload_n 0 dX8_builtAheadOf_18 rfl ?_
      refine r_iload 3 dX8_builtAheadOf_19 rfl ?_
      obtain ⟨a21, ea21, hf⟩ := ob hf
      obtain ⟨v21, e21, hf⟩ := ob hf
      refine r_callV (y := yX8_hasHouse) (ci := 8) (avs := [vI x4]) dX8_builtAheadOf_21 rfl kw_1_198 kw_1_199 kw_1_200 kw_1_2 kw_1_201 oky_X8_hasHouse ⟨Nat.le_of_ble_eq_true rfl, Nat.le_of_ble_eq_true rfl⟩ rfl (Nat.le_of_ble_eq_true rfl) ea21 (k_X8_hasHouse G l e21) ?_
      refine r_if_eq (tgt := 40) dX8_builtAheadOf_24 (by decide) (fun c24 => ?_) (fun c24 => ?_)
      · replace hf := (if_pos c24).symm.trans hf
        exact r_sub [0, 1, 2, 3] rfl (t_X8_builtAheadOf_40 G l _ _ (f_X8_builtAheadOf_11 h this n) ih _ _ _ _ hf)
      · replace hf := (if_neg c24).symm.trans hf
        refine r_aload_n 0 dX8_builtAheadOf_27 rfl ?_
        refine r_iload 3 dX8_builtAheadOf_28 rfl ?_
        obtain ⟨a30, ea30, hf⟩ := ob hf
        obtain ⟨v30, e30, hf⟩ := ob hf
        refine r_callV (y := yX8_ageAt) (ci := 8) (avs := [vI x4]) dX8_builtAheadOf_30 rfl kw_2_145 kw_2_116 kw_2_117 kw_1_2 kw_2_118 oky_X8_ageAt ⟨Nat.le_of_ble_eq_true rfl, Nat.le_of_ble_eq_true rfl⟩ rfl (Nat.le_of_ble_eq_true rfl) ea30 (k_X8_ageAt G l e30) ?_
        refine r_iload_n 1 dX8_builtAheadOf_33 rfl ?_
        refine r_icmp_le (tgt := 40) dX8_builtAheadOf_34 (by decide) (fun c34 => ?_) (fun c34 => ?_)
        · replace hf := (if_pos c34).symm.trans hf
          exact r_sub [0, 1, 2, 3] rfl (t_X8_builtAheadOf_40 G l _ _ (f_X8_builtAheadOf_11 h this n) ih _ _ _ _ hf)
        · replace hf := (if_neg c34).symm.trans hf
          refine r_iinc (y := (x3 + 1)) (lv' := [(3, vI (x3 + 1)), (0, vR (some this)), (2, vI x2), (4, vI x4)]) 2 dX8_builtAheadOf_37 rfl rfl (Nat.le_of_ble_eq_true rfl) rfl ?_
          exact r_sub [1, 2, 0, 3] rfl (t_X8_builtAheadOf_40 G l _ _ (f_X8_builtAheadOf_11 h this n) ih _ _ _ _ hf)
def f_X8_builtAheadOf (h : Hp) (this : Nat) (x1 : Int32) : Option Int32 :=
    (rcv h (some this) 8).bind fun a2 =>
    (f_X8_ageAt h a2 x1).bind fun v2 =>
    f_X8_builtAheadOf_11 h this 10000 v2 (0 : Int32) (0 : Int32)
set_option maxRecDepth 100000 in
set_option maxHeartbeats 4000000 in
theorem k_X8_builtAheadOf (G : Gx) (l : Launch) {h : Hp} {this : Nat} {x1 : Int32} {r : Int32} (hf : f_X8_builtAheadOf h this x1 = some r) : KM l yX8_builtAheadOf (.code yX8_builtAheadOf cX8_builtAheadOf 5 (some .int) :: wsK) 3 62 G [vR (some this), vI x1] h (some (vI r)) h := by
  refine r_entry (ctor := false) (own := RX8) (by decide +kernel) rfl (fun q => by cases q) (Nat.le_of_ble_eq_true rfl) ?_
  show RJ G l M_X8_builtAheadOf (some (vI r)) h 0 [(0, vR (some this)), (1, vI x1)] [] h
  unfold f_X8_builtAheadOf at hf
  refine r_aload_n 0 dX8_builtAheadOf_0 rfl ?_
  refine r_iload_n 1 dX8_builtAheadOf_1 rfl ?_
  obtain ⟨a2, ea2, hf⟩ := ob hf
  obtain ⟨v2, e2, hf⟩ := ob hf
  refine r_callV (y := yX8_ageAt) (ci := 8) (avs := [vI x1]) dX8_builtAheadOf_2 rfl kw_2_145 kw_2_116 kw_2_117 kw_1_2 kw_2_118 oky_X8_ageAt ⟨Nat.le_of_ble_eq_true rfl, Nat.le_of_ble_eq_true rfl⟩ rfl (Nat.le_of_ble_eq_true rfl) ea2 (k_X8_ageAt G l e2) ?_
  refine r_istore_n (lv' := [(2, vI v2), (0, vR (some this)), (1, vI x1)]) dX8_builtAheadOf_5 (Nat.le_of_ble_eq_true rfl) rfl ?_
  refine r_iconst (x := (0 : Int32)) dX8_builtAheadOf_6 (by decide) ?_
  refine r_istore_n (lv' := [(3, vI (0 : Int32)), (2, vI v2), (0, vR (some this)), (1, vI x1)]) dX8_builtAheadOf_7 (Nat.le_of_ble_eq_true rfl) rfl ?_
  refine r_iconst (x := (0 : Int32)) dX8_builtAheadOf_8 (by decide) ?_
  refine r_istore (lv' := [(4, vI (0 : Int32)), (3, vI (0 : Int32)), (2, vI v2), (0, vR (some this)), (1, vI x1)]) dX8_builtAheadOf_9 (Nat.le_of_ble_eq_true rfl) rfl ?_
  exact r_sub [3, 2, 1, 0] rfl (t_X8_builtAheadOf_11 G l _ _ _ _ _ _ _ hf)
/-! ===== NumberedByAge$Street.longestRiseBelow(I)I ===== -/
abbrev M_X8_longestRiseBelow : Mx := (cX8_longestRiseBelow, 4, RX8, (false, []), (some .int), 2, 41)
def f_X8_longestRiseBelow_40 (h : Hp) (this : Nat) (k4 : Int32 → Int32 → Int32 → Option Int32) (x1 : Int32) (x2 : Int32) (x3 : Int32) : Option Int32 :=
    k4 x1 x2 (x3 + 1)
set_option maxRecDepth 100000 in
set_option maxHeartbeats 4000000 in
theorem t_X8_longestRiseBelow_40 (G : Gx) (l : Launch) (h : Hp) (this : Nat) (k4 : Int32 → Int32 → Int32 → Option Int32) (hk4 : ∀ (x1 : Int32) (x2 : Int32) (x3 : Int32) (r : Int32), k4 x1 x2 x3 = some r → RJ G l M_X8_longestRiseBelow (some (vI r)) h 4 [(0, vR (some this)), (1, vI x1), (2, vI x2), (3, vI x3)] [] h) (x1 : Int32) (x2 : Int32) (x3 : Int32) (r : Int32) (hf : f_X8_longestRiseBelow_40 h this k4 x1 x2 x3 = some r) : RJ G l M_X8_longestRiseBelow (some (vI r)) h 40 [(0, vR (some this)), (1, vI x1), (2, vI x2), (3, vI x3)] [] h := by
  unfold f_X8_longestRiseBelow_40 at hf
  refine r_iinc (y := (x3 + 1)) (lv' := [(3, vI (x3 + 1)), (0, vR (some this)), (1, vI x1), (2, vI x2)]) 3 dX8_longestRiseBelow_40 rfl rfl (Nat.le_of_ble_eq_true rfl) rfl ?_
  refine r_goto (tgt := 4) dX8_longestRiseBelow_43 (by decide) ?_
  exact r_sub [1, 2, 3, 0] rfl (hk4 _ _ _ _ hf)
def f_X8_longestRiseBelow_4 (h : Hp) (this : Nat) : Nat → Int32 → Int32 → Int32 → Option Int32
  | 0, _, _, _ => none
  | n + 1, x1, x2, x3 =>
    if x1 ≤ x3 then
      some x2
    else
      if (12 : Int32) ≤ x3 then
        some x2
      else
        (gR h (some this) [8] 0).bind fun v16 =>
        (aI h v16 x3).bind fun v20 =>
        (rcv h (some this) 8).bind fun a23 =>
        (f_X8_numberAt h a23 x1).bind fun v23 =>
        if v23 ≤ v20 then
          f_X8_longestRiseBelow_40 h this (f_X8_longestRiseBelow_4 h this n) x1 x2 x3
        else
          (gR h (some this) [8] 6).bind fun v31 =>
          (aI h v31 x3).bind fun v35 =>
          f_X8_longestRiseBelow_40 h this (f_X8_longestRiseBelow_4 h this n) x1 (mxI x2 v35) x3
set_option maxRecDepth 100000 in
set_option maxHeartbeats 4000000 in
theorem t_X8_longestRiseBelow_4 (G : Gx) (l : Launch) (h : Hp) (this : Nat)  : ∀ (n : Nat) (x1 : Int32) (x2 : Int32) (x3 : Int32) (r : Int32), f_X8_longestRiseBelow_4 h this n x1 x2 x3 = some r → RJ G l M_X8_longestRiseBelow (some (vI r)) h 4 [(0, vR (some this)), (1, vI x1), (2, vI x2), (3, vI x3)] [] h := by
  intro n
  induction n with
  | zero =>
    intro x1 x2 x3 r hf
    rw [f_X8_longestRiseBelow_4] at hf
    cases hf
  | succ n ih =>
    intro x1 x2 x3 r hf
    rw [f_X8_longestRiseBelow_4] at hf
    refine r_iload_n 3 dX8_longestRiseBelow_4 rfl ?_
    refine r_iload_n 1 dX8_longestRiseBelow_5 rfl ?_
    refine r_icmp_ge (tgt := 46) dX8_longestRiseBelow_6 (by decide) (fun c6 => ?_) (fun c6 => ?_)
    · replace hf := (if_pos c6).symm.trans hf
      refine r_iload_n 2 dX8_longestRiseBelow_46 rfl ?_
      have hf := Option.some.inj hf
      subst hf
      exact r_iret rfl dX8_longestRiseBelow_47
    · replace hf := (if_neg c6).symm.trans hf
      refine r_iload_n 3 dX8_longestRiseBelow_9 rfl ?_
      refine r_bipush (x := (12 : Int32)) dX8_longestRiseBelow_10 (by decide) ?_
      refine r_icmp_ge (tgt := 46) dX8_longestRiseBelow_12 (by decide) (fun c12 => ?_) (fun c12 => ?_)
      · replace hf := (if_pos c12).symm.trans hf
        refine r_iload_n 2 dX8_longestRiseBelow_46 rfl ?_
        have hf := Option.some.inj hf
        subst hf
        exact r_iret rfl dX8_longestRiseBelow_47
      · replace hf := (if_neg c12).symm.trans hf
        refine r_aload_n 0 dX8_longestRiseBelow_15 rfl ?_
        obtain ⟨v16, e16, hf⟩ := ob hf
        refine r_get dX8_longestRiseBelow_16 fl_8_0 kw_1_62 (Or.inl rfl) (gR_sp e16) ?_
        refine r_iload_n 3 dX8_longestRiseBelow_19 rfl ?_
        obtain ⟨v20, e20, hf⟩ := ob hf
        refine r_iaload dX8_longestRiseBelow_20 e20 ?_
        refine r_aload_n 0 dX8_longestRiseBelow_21 rfl ?_
        refine r_iload_n 1 dX8_longestRiseBelow_22 rfl ?_
        obtain ⟨a23, ea23, hf⟩ := ob hf
        obtain ⟨v23, e23, hf⟩ := ob hf
        refine r_callV (y := yX8_numberAt) (ci := 8) (avs := [vI x1]) dX8_longestRiseBelow_23 rfl kw_1_202 kw_1_203 kw_1_204 kw_1_2 kw_1_205 oky_X8_numberAt ⟨Nat.le_of_ble_eq_true rfl, Nat.le_of_ble_eq_true rfl⟩ rfl (Nat.le_of_ble_eq_true rfl) ea23 (k_X8_numberAt G l e23) ?_
        refine r_icmp_ge (tgt := 40) dX8_longestRiseBelow_26 (by decide) (fun c26 => ?_) (fun c26 => ?_)
        · replace hf := (if_pos c26).symm.trans hf
          exact r_sub [0, 1, 2, 3] rfl (t_X8_longestRiseBelow_40 G l _ _ (f_X8_longestRiseBelow_4 h this n) ih _ _ _ _ hf)
        · replace hf := (if_neg c26).symm.trans hf
          refine r_iload_n 2 dX8_longestRiseBelow_29 rfl ?_
          refine r_aload_n 0 dX8_longestRiseBelow_30 rfl ?_
          obtain ⟨v31, e31, hf⟩ := ob hf
          refine r_get dX8_longestRiseBelow_31 fl_8_6 kw_1_68 (Or.inl rfl) (gR_sp e31) ?_
          refine r_iload_n 3 dX8_longestRiseBelow_34 rfl ?_
          obtain ⟨v35, e35, hf⟩ := ob hf
          refine r_iaload dX8_longestRiseBelow_35 e35 ?_
          refine r_max dX8_longestRiseBelow_36 kw_1_231 kw_1_232 kw_1_7 kw_1_233 ⟨Nat.le_of_ble_eq_true rfl, Nat.le_of_ble_eq_true rfl⟩ (Nat.le_of_ble_eq_true rfl) ?_
          refine r_istore_n (lv' := [(2, vI (mxI x2 v35)), (0, vR (some this)), (1, vI x1), (3, vI x3)]) dX8_longestRiseBelow_39 (Nat.le_of_ble_eq_true rfl) rfl ?_
          exact r_sub [1, 2, 0, 3] rfl (t_X8_longestRiseBelow_40 G l _ _ (f_X8_longestRiseBelow_4 h this n) ih _ _ _ _ hf)
def f_X8_longestRiseBelow (h : Hp) (this : Nat) (x1 : Int32) : Option Int32 :=
    f_X8_longestRiseBelow_4 h this 10000 x1 (0 : Int32) (0 : Int32)
set_option maxRecDepth 100000 in
set_option maxHeartbeats 4000000 in
theorem k_X8_longestRiseBelow (G : Gx) (l : Launch) {h : Hp} {this : Nat} {x1 : Int32} {r : Int32} (hf : f_X8_longestRiseBelow h this x1 = some r) : KM l yX8_longestRiseBelow (.code yX8_longestRiseBelow cX8_longestRiseBelow 4 (some .int) :: wsK) 2 41 G [vR (some this), vI x1] h (some (vI r)) h := by
  refine r_entry (ctor := false) (own := RX8) (by decide +kernel) rfl (fun q => by cases q) (Nat.le_of_ble_eq_true rfl) ?_
  show RJ G l M_X8_longestRiseBelow (some (vI r)) h 0 [(0, vR (some this)), (1, vI x1)] [] h
  unfold f_X8_longestRiseBelow at hf
  refine r_iconst (x := (0 : Int32)) dX8_longestRiseBelow_0 (by decide) ?_
  refine r_istore_n (lv' := [(2, vI (0 : Int32)), (0, vR (some this)), (1, vI x1)]) dX8_longestRiseBelow_1 (Nat.le_of_ble_eq_true rfl) rfl ?_
  refine r_iconst (x := (0 : Int32)) dX8_longestRiseBelow_2 (by decide) ?_
  refine r_istore_n (lv' := [(3, vI (0 : Int32)), (2, vI (0 : Int32)), (0, vR (some this)), (1, vI x1)]) dX8_longestRiseBelow_3 (Nat.le_of_ble_eq_true rfl) rfl ?_
  exact r_sub [2, 3, 1, 0] rfl (t_X8_longestRiseBelow_4 G l _ _ _ _ _ _ _ hf)
/-! ===== NumberedByAge$Street.longestRise()I ===== -/
abbrev M_X8_longestRise : Mx := (cX8_longestRise, 3, RX8, (false, []), (some .int), 3, 64)
def f_X8_longestRise_39 (this : Nat) (k4 : Hp → Int32 → Int32 → Option (Int32 × Hp)) (h : Hp) (x1 : Int32) (x2 : Int32) : Option (Int32 × Hp) :=
    (gR h (some this) [8] 6).bind fun v41 =>
    (aI h v41 x2).bind fun v45 =>
    k4 h (mxI x1 v45) (x2 + 1)
set_option maxRecDepth 100000 in
set_option maxHeartbeats 4000000 in
theorem t_X8_longestRise_39 (G : Gx) (l : Launch) (this : Nat) (k4 : Hp → Int32 → Int32 → Option (Int32 × Hp)) (hk4 : ∀ (h : Hp) (x1 : Int32) (x2 : Int32) (r : (Int32 × Hp)), k4 h x1 x2 = some r → RJ G l M_X8_longestRise (some (vI r.1)) r.2 4 [(0, vR (some this)), (1, vI x1), (2, vI x2)] [] h) (h : Hp) (x1 : Int32) (x2 : Int32) (r : (Int32 × Hp)) (hf : f_X8_longestRise_39 this k4 h x1 x2 = some r) : RJ G l M_X8_longestRise (some (vI r.1)) r.2 39 [(0, vR (some this)), (1, vI x1), (2, vI x2)] [] h := by
  unfold f_X8_longestRise_39 at hf
  refine r_iload_n 1 dX8_longestRise_39 rfl ?_
  refine r_aload_n 0 dX8_longestRise_40 rfl ?_
  obtain ⟨v41, e41, hf⟩ := ob hf
  refine r_get dX8_longestRise_41 fl_8_6 kw_1_68 (Or.inl rfl) (gR_sp e41) ?_
  refine r_iload_n 2 dX8_longestRise_44 rfl ?_
  obtain ⟨v45, e45, hf⟩ := ob hf
  refine r_iaload dX8_longestRise_45 e45 ?_
  refine r_max dX8_longestRise_46 kw_1_231 kw_1_232 kw_1_7 kw_1_233 ⟨Nat.le_of_ble_eq_true rfl, Nat.le_of_ble_eq_true rfl⟩ (Nat.le_of_ble_eq_true rfl) ?_
  refine r_istore_n (lv' := [(1, vI (mxI x1 v45)), (0, vR (some this)), (2, vI x2)]) dX8_longestRise_49 (Nat.le_of_ble_eq_true rfl) rfl ?_
  refine r_iinc (y := (x2 + 1)) (lv' := [(2, vI (x2 + 1)), (1, vI (mxI x1 v45)), (0, vR (some this))]) 2 dX8_longestRise_50 rfl rfl (Nat.le_of_ble_eq_true rfl) rfl ?_
  refine r_goto (tgt := 4) dX8_longestRise_53 (by decide) ?_
  exact r_sub [2, 1, 0] rfl (hk4 _ _ _ _ hf)
def f_X8_longestRise_4 (this : Nat) : Nat → Hp → Int32 → Int32 → Option (Int32 × Hp)
  | 0, _, _, _ => none
  | n + 1, h, x1, x2 =>
    if (12 : Int32) ≤ x2 then
      some (x1, h)
    else
      (gR h (some this) [8] 6).bind fun v11 =>
      (wI h v11 x2 (0 : Int32)).bind fun h16 =>
      (gR h16 (some this) [8] 0).bind fun v18 =>
      (aI h16 v18 x2).bind fun v22 =>
      if v22 = 0 then
        f_X8_longestRise_39 this (f_X8_longestRise_4 this n) h16 x1 x2
      else
        (gR h16 (some this) [8] 6).bind fun v27 =>
        (rcv h16 (some this) 8).bind fun a34 =>
        (f_X8_longestRiseBelow h16 a34 x2).bind fun v34 =>
        (wI h16 v27 x2 ((1 : Int32) + v34)).bind fun h38 =>
        f_X8_longestRise_39 this (f_X8_longestRise_4 this n) h38 x1 x2
set_option maxRecDepth 100000 in
set_option maxHeartbeats 4000000 in
theorem t_X8_longestRise_4 (G : Gx) (l : Launch) (this : Nat)  : ∀ (n : Nat) (h : Hp) (x1 : Int32) (x2 : Int32) (r : (Int32 × Hp)), f_X8_longestRise_4 this n h x1 x2 = some r → RJ G l M_X8_longestRise (some (vI r.1)) r.2 4 [(0, vR (some this)), (1, vI x1), (2, vI x2)] [] h := by
  intro n
  induction n with
  | zero =>
    intro h x1 x2 r hf
    rw [f_X8_longestRise_4] at hf
    cases hf
  | succ n ih =>
    intro h x1 x2 r hf
    rw [f_X8_longestRise_4] at hf
    refine r_iload_n 2 dX8_longestRise_4 rfl ?_
    refine r_bipush (x := (12 : Int32)) dX8_longestRise_5 (by decide) ?_
    refine r_icmp_ge (tgt := 56) dX8_longestRise_7 (by decide) (fun c7 => ?_) (fun c7 => ?_)
    · replace hf := (if_pos c7).symm.trans hf
      refine r_iload_n 1 dX8_longestRise_56 rfl ?_
      have hf := Option.some.inj hf
      subst hf
      exact r_iret rfl dX8_longestRise_57
    · replace hf := (if_neg c7).symm.trans hf
      refine r_aload_n 0 dX8_longestRise_10 rfl ?_
      obtain ⟨v11, e11, hf⟩ := ob hf
      refine r_get dX8_longestRise_11 fl_8_6 kw_1_68 (Or.inl rfl) (gR_sp e11) ?_
      refine r_iload_n 2 dX8_longestRise_14 rfl ?_
      refine r_iconst (x := (0 : Int32)) dX8_longestRise_15 (by decide) ?_
      obtain ⟨h16, e16, hf⟩ := ob hf
      refine r_iastore dX8_longestRise_16 e16 ?_
      refine r_aload_n 0 dX8_longestRise_17 rfl ?_
      obtain ⟨v18, e18, hf⟩ := ob hf
      refine r_get dX8_longestRise_18 fl_8_0 kw_1_62 (Or.inl rfl) (gR_sp e18) ?_
      refine r_iload_n 2 dX8_longestRise_21 rfl ?_
      obtain ⟨v22, e22, hf⟩ := ob hf
      refine r_iaload dX8_longestRise_22 e22 ?_
      refine r_if_eq (tgt := 39) dX8_longestRise_23 (by decide) (fun c23 => ?_) (fun c23 => ?_)
      · replace hf := (if_pos c23).symm.trans hf
        exact r_sub [0, 1, 2] rfl (t_X8_longestRise_39 G l _ (f_X8_longestRise_4 this n) ih _ _ _ _ hf)
      · replace hf := (if_neg c23).symm.trans hf
        refine r_aload_n 0 dX8_longestRise_26 rfl ?_
        obtain ⟨v27, e27, hf⟩ := ob hf
        refine r_get dX8_longestRise_27 fl_8_6 kw_1_68 (Or.inl rfl) (gR_sp e27) ?_
        refine r_iload_n 2 dX8_longestRise_30 rfl ?_
        refine r_iconst (x := (1 : Int32)) dX8_longestRise_31 (by decide) ?_
        refine r_aload_n 0 dX8_longestRise_32 rfl ?_
        refine r_iload_n 2 dX8_longestRise_33 rfl ?_
        obtain ⟨a34, ea34, hf⟩ := ob hf
        obtain ⟨v34, e34, hf⟩ := ob hf
        refine r_callV (y := yX8_longestRiseBelow) (ci := 8) (avs := [vI x2]) dX8_longestRise_34 rfl kw_2_194 kw_2_196 kw_0_8 kw_1_2 kw_2_197 oky_X8_longestRiseBelow ⟨Nat.le_of_ble_eq_true rfl, Nat.le_of_ble_eq_true rfl⟩ rfl (Nat.le_of_ble_eq_true rfl) ea34 (k_X8_longestRiseBelow G l e34) ?_
        refine r_iadd dX8_longestRise_37 ?_
        obtain ⟨h38, e38, hf⟩ := ob hf
        refine r_iastore dX8_longestRise_38 e38 ?_
        exact r_sub [0, 1, 2] rfl (t_X8_longestRise_39 G l _ (f_X8_longestRise_4 this n) ih _ _ _ _ hf)
def f_X8_longestRise (h : Hp) (this : Nat) : Option (Int32 × Hp) :=
    f_X8_longestRise_4 this 10000 h (0 : Int32) (0 : Int32)
set_option maxRecDepth 100000 in
set_option maxHeartbeats 4000000 in
theorem k_X8_longestRise (G : Gx) (l : Launch) {h : Hp} {this : Nat} {r : (Int32 × Hp)} (hf : f_X8_longestRise h this = some r) : KM l yX8_longestRise (.code yX8_longestRise cX8_longestRise 3 (some .int) :: wsK) 3 64 G [vR (some this)] h (some (vI r.1)) r.2 := by
  refine r_entry (ctor := false) (own := RX8) (by decide +kernel) rfl (fun q => by cases q) (Nat.le_of_ble_eq_true rfl) ?_
  show RJ G l M_X8_longestRise (some (vI r.1)) r.2 0 [(0, vR (some this))] [] h
  unfold f_X8_longestRise at hf
  refine r_iconst (x := (0 : Int32)) dX8_longestRise_0 (by decide) ?_
  refine r_istore_n (lv' := [(1, vI (0 : Int32)), (0, vR (some this))]) dX8_longestRise_1 (Nat.le_of_ble_eq_true rfl) rfl ?_
  refine r_iconst (x := (0 : Int32)) dX8_longestRise_2 (by decide) ?_
  refine r_istore_n (lv' := [(2, vI (0 : Int32)), (1, vI (0 : Int32)), (0, vR (some this))]) dX8_longestRise_3 (Nat.le_of_ble_eq_true rfl) rfl ?_
  exact r_sub [2, 1, 0] rfl (t_X8_longestRise_4 G l _ _ _ _ _ _ hf)
