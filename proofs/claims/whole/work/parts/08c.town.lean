/-! ===== NumberedByAge.house(II)I ===== -/
abbrev M_X10_house : Mx := (cX10_house, 3, RX10, (false, []), (some .int), 3, 62)
def f_X10_house (h : Hp) (this : Nat) (x1 : Int32) (x2 : Int32) : Option Int32 :=
    (f_X10_isPlot h x1).bind fun v1 =>
    if v1 = 0 then
      some (-1 : Int32)
    else
      if x2 < 0 then
        some (-1 : Int32)
      else
        if x2 ≤ (2 : Int32) then
          (gR h (some this) [10] 0).bind fun v19 =>
          (rcv h v19 8).bind fun a23 =>
          (f_X8_hasHouse h a23 x1).bind fun v23 =>
          if v23 = 0 then
            some (-4 : Int32)
          else
            if x2 = (0 : Int32) then
              (gR h (some this) [10] 0).bind fun v61 =>
              (rcv h v61 8).bind fun a65 =>
              (f_X8_numberAt h a65 x1).bind fun v65 =>
              some v65
            else
            if x2 = (1 : Int32) then
              (gR h (some this) [10] 0).bind fun v70 =>
              (rcv h v70 8).bind fun a74 =>
              (f_X8_heightAt h a74 x1).bind fun v74 =>
              some v74
            else
              (gR h (some this) [10] 0).bind fun v79 =>
              (rcv h v79 8).bind fun a83 =>
              (f_X8_ageAt h a83 x1).bind fun v83 =>
              some v83
        else
          some (-1 : Int32)
set_option maxRecDepth 100000 in
set_option maxHeartbeats 4000000 in
theorem k_X10_house (G : Gx) (l : Launch) {h : Hp} {this : Nat} {x1 : Int32} {x2 : Int32} {r : Int32} (hf : f_X10_house h this x1 x2 = some r) : KM l yX10_house (.code yX10_house cX10_house 3 (some .int) :: wsK) 3 62 G [vR (some this), vI x1, vI x2] h (some (vI r)) h := by
  refine r_entry (ctor := false) (own := RX10) (by decide +kernel) rfl (fun q => by cases q) (Nat.le_of_ble_eq_true rfl) ?_
  show RJ G l M_X10_house (some (vI r)) h 0 [(0, vR (some this)), (1, vI x1), (2, vI x2)] [] h
  unfold f_X10_house at hf
  refine r_iload_n 1 dX10_house_0 rfl ?_
  obtain ⟨v1, e1, hf⟩ := ob hf
  refine r_callS (y := yX10_isPlot) (avs := [vI x1]) dX10_house_1 kw_2_108 kw_1_193 kw_1_1 kw_1_194 oky_X10_isPlot ⟨Nat.le_of_ble_eq_true rfl, Nat.le_of_ble_eq_true rfl⟩ rfl (Nat.le_of_ble_eq_true rfl) (k_X10_isPlot G l e1) ?_
  refine r_if_eq (tgt := 16) dX10_house_4 (by decide) (fun c4 => ?_) (fun c4 => ?_)
  · replace hf := (if_pos c4).symm.trans hf
    refine r_iconst (x := (-1 : Int32)) dX10_house_16 (by decide) ?_
    have hf := Option.some.inj hf
    subst hf
    exact r_iret rfl dX10_house_17
  · replace hf := (if_neg c4).symm.trans hf
    refine r_iload_n 2 dX10_house_7 rfl ?_
    refine r_if_lt (tgt := 16) dX10_house_8 (by decide) (fun c8 => ?_) (fun c8 => ?_)
    · replace hf := (if_pos c8).symm.trans hf
      refine r_iconst (x := (-1 : Int32)) dX10_house_16 (by decide) ?_
      have hf := Option.some.inj hf
      subst hf
      exact r_iret rfl dX10_house_17
    · replace hf := (if_neg c8).symm.trans hf
      refine r_iload_n 2 dX10_house_11 rfl ?_
      refine r_iconst (x := (2 : Int32)) dX10_house_12 (by decide) ?_
      refine r_icmp_le (tgt := 18) dX10_house_13 (by decide) (fun c13 => ?_) (fun c13 => ?_)
      · replace hf := (if_pos c13).symm.trans hf
        refine r_aload_n 0 dX10_house_18 rfl ?_
        obtain ⟨v19, e19, hf⟩ := ob hf
        refine r_get dX10_house_19 fl_10_0 kw_1_121 (Or.inl rfl) (gR_sp e19) ?_
        refine r_iload_n 1 dX10_house_22 rfl ?_
        obtain ⟨a23, ea23, hf⟩ := ob hf
        obtain ⟨v23, e23, hf⟩ := ob hf
        refine r_callV (y := yX8_hasHouse) (ci := 8) (avs := [vI x1]) dX10_house_23 rfl kw_2_109 kw_1_199 kw_1_200 kw_1_2 kw_1_201 oky_X8_hasHouse ⟨Nat.le_of_ble_eq_true rfl, Nat.le_of_ble_eq_true rfl⟩ rfl (Nat.le_of_ble_eq_true rfl) ea23 (k_X8_hasHouse G l e23) ?_
        refine r_if_ne (tgt := 32) dX10_house_26 (by decide) (fun c26 => ?_) (fun c26 => ?_)
        · replace hf := (if_pos c26).symm.trans hf
          refine r_bipush (x := (-4 : Int32)) dX10_house_29 (by decide) ?_
          have hf := Option.some.inj hf
          subst hf
          exact r_iret rfl dX10_house_31
        · replace hf := (if_neg c26).symm.trans hf
          refine r_iload_n 2 dX10_house_32 rfl ?_
          by_cases c33_0 : x2 = (0 : Int32)
          · replace hf := (if_pos c33_0).symm.trans hf
            refine r_lookup (off := 27) (tgt := 60) dX10_house_33 (by decide) (by rw [c33_0]; decide +kernel) (by decide) ?_
            refine r_aload_n 0 dX10_house_60 rfl ?_
            obtain ⟨v61, e61, hf⟩ := ob hf
            refine r_get dX10_house_61 fl_10_0 kw_1_121 (Or.inl rfl) (gR_sp e61) ?_
            refine r_iload_n 1 dX10_house_64 rfl ?_
            obtain ⟨a65, ea65, hf⟩ := ob hf
            obtain ⟨v65, e65, hf⟩ := ob hf
            refine r_callV (y := yX8_numberAt) (ci := 8) (avs := [vI x1]) dX10_house_65 rfl kw_2_110 kw_1_203 kw_1_204 kw_1_2 kw_1_205 oky_X8_numberAt ⟨Nat.le_of_ble_eq_true rfl, Nat.le_of_ble_eq_true rfl⟩ rfl (Nat.le_of_ble_eq_true rfl) ea65 (k_X8_numberAt G l e65) ?_
            have hf := Option.some.inj hf
            subst hf
            exact r_iret rfl dX10_house_68
          · replace hf := (if_neg c33_0).symm.trans hf
            by_cases c33_1 : x2 = (1 : Int32)
            · replace hf := (if_pos c33_1).symm.trans hf
              refine r_lookup (off := 36) (tgt := 69) dX10_house_33 (by decide) (by rw [c33_1]; decide +kernel) (by decide) ?_
              refine r_aload_n 0 dX10_house_69 rfl ?_
              obtain ⟨v70, e70, hf⟩ := ob hf
              refine r_get dX10_house_70 fl_10_0 kw_1_121 (Or.inl rfl) (gR_sp e70) ?_
              refine r_iload_n 1 dX10_house_73 rfl ?_
              obtain ⟨a74, ea74, hf⟩ := ob hf
              obtain ⟨v74, e74, hf⟩ := ob hf
              refine r_callV (y := yX8_heightAt) (ci := 8) (avs := [vI x1]) dX10_house_74 rfl kw_2_111 kw_2_112 kw_2_113 kw_1_2 kw_2_114 oky_X8_heightAt ⟨Nat.le_of_ble_eq_true rfl, Nat.le_of_ble_eq_true rfl⟩ rfl (Nat.le_of_ble_eq_true rfl) ea74 (k_X8_heightAt G l e74) ?_
              have hf := Option.some.inj hf
              subst hf
              exact r_iret rfl dX10_house_77
            · replace hf := (if_neg c33_1).symm.trans hf
              refine r_lookup (off := 45) (tgt := 78) dX10_house_33 (by decide) (by show Op.lookupswitch.offset [(0, 27), (1, 36)] 45 _ = _; rw [lv_osw (k := (0 : Int32)) c33_0 (by decide), lv_osw (k := (1 : Int32)) c33_1 (by decide)]; rfl) (by decide) ?_
              refine r_aload_n 0 dX10_house_78 rfl ?_
              obtain ⟨v79, e79, hf⟩ := ob hf
              refine r_get dX10_house_79 fl_10_0 kw_1_121 (Or.inl rfl) (gR_sp e79) ?_
              refine r_iload_n 1 dX10_house_82 rfl ?_
              obtain ⟨a83, ea83, hf⟩ := ob hf
              obtain ⟨v83, e83, hf⟩ := ob hf
              refine r_callV (y := yX8_ageAt) (ci := 8) (avs := [vI x1]) dX10_house_83 rfl kw_2_115 kw_2_116 kw_2_117 kw_1_2 kw_2_118 oky_X8_ageAt ⟨Nat.le_of_ble_eq_true rfl, Nat.le_of_ble_eq_true rfl⟩ rfl (Nat.le_of_ble_eq_true rfl) ea83 (k_X8_ageAt G l e83) ?_
              have hf := Option.some.inj hf
              subst hf
              exact r_iret rfl dX10_house_86
      · replace hf := (if_neg c13).symm.trans hf
        refine r_iconst (x := (-1 : Int32)) dX10_house_16 (by decide) ?_
        have hf := Option.some.inj hf
        subst hf
        exact r_iret rfl dX10_house_17
/-! ===== NumberedByAge.image()I ===== -/
abbrev M_X10_image : Mx := (cX10_image, 1, RX10, (false, []), (some .int), 2, 61)
def f_X10_image (h : Hp) (this : Nat) : Option (Int32 × Hp) :=
    (gR h (some this) [10] 2).bind fun v1 =>
    (gR h (some this) [10] 0).bind fun v5 =>
    (rcv h v1 8).bind fun a8 =>
    (f_X8_become h a8 v5).bind fun h8 =>
    (okZ (1 : Int32)).bind fun z13 =>
    (pF h8 (some this) [10] 3 (vI (1 : Int32))).bind fun h13 =>
    (gR h13 (some this) [10] 0).bind fun v17 =>
    (gI h13 v17 [8] 7).bind fun v20 =>
    some (v20, h13)
set_option maxRecDepth 100000 in
set_option maxHeartbeats 4000000 in
theorem k_X10_image (G : Gx) (l : Launch) {h : Hp} {this : Nat} {r : (Int32 × Hp)} (hf : f_X10_image h this = some r) : KM l yX10_image (.code yX10_image cX10_image 1 (some .int) :: wsK) 2 61 G [vR (some this)] h (some (vI r.1)) r.2 := by
  refine r_entry (ctor := false) (own := RX10) (by decide +kernel) rfl (fun q => by cases q) (Nat.le_of_ble_eq_true rfl) ?_
  show RJ G l M_X10_image (some (vI r.1)) r.2 0 [(0, vR (some this))] [] h
  unfold f_X10_image at hf
  refine r_aload_n 0 dX10_image_0 rfl ?_
  obtain ⟨v1, e1, hf⟩ := ob hf
  refine r_get dX10_image_1 fl_10_2 kw_1_123 (Or.inl rfl) (gR_sp e1) ?_
  refine r_aload_n 0 dX10_image_4 rfl ?_
  obtain ⟨v5, e5, hf⟩ := ob hf
  refine r_get dX10_image_5 fl_10_0 kw_1_121 (Or.inl rfl) (gR_sp e5) ?_
  obtain ⟨a8, ea8, hf⟩ := ob hf
  obtain ⟨h8, e8, hf⟩ := ob hf
  refine r_callV (y := yX8_become) (ci := 8) (avs := [vR v5]) dX10_image_8 rfl kw_1_177 kw_1_178 kw_1_179 kw_1_2 kw_1_180 oky_X8_become ⟨Nat.le_of_ble_eq_true rfl, Nat.le_of_ble_eq_true rfl⟩ rfl (Nat.le_of_ble_eq_true rfl) ea8 (k_X8_become G l e8) ?_
  refine r_aload_n 0 dX10_image_11 rfl ?_
  refine r_iconst (x := (1 : Int32)) dX10_image_12 (by decide) ?_
  obtain ⟨z13, ez13, hf⟩ := ob hf
  obtain ⟨-, ew13⟩ := okZ_sp ez13
  obtain ⟨h13, e13, hf⟩ := ob hf
  refine r_put dX10_image_13 fl_10_3 kw_1_124 (Or.inl rfl) (by decide +kernel) (fit_bool ew13) e13 ?_
  refine r_aload_n 0 dX10_image_16 rfl ?_
  obtain ⟨v17, e17, hf⟩ := ob hf
  refine r_get dX10_image_17 fl_10_0 kw_1_121 (Or.inl rfl) (gR_sp e17) ?_
  obtain ⟨v20, e20, hf⟩ := ob hf
  refine r_getN dX10_image_20 fl_8_7 (by decide) (gI_sp e20) ?_
  have hf := Option.some.inj hf
  subst hf
  exact r_iret rfl dX10_image_23
/-! ===== NumberedByAge.<init>()V ===== -/
abbrev M_X10_init : Mx := (cX10_init, 2, RX10, (true, []), none, 3, 62)
def f_X10_init_48 (this : Nat) : Nat → Hp → Int32 → Option Hp
  | 0, _, _ => none
  | n + 1, h, x1 =>
    (gR h (some this) [10] 4).bind fun v50 =>
    (lenR h v50).bind fun v53 =>
    if v53 ≤ x1 then
      some h
    else
      (gR h (some this) [10] 4).bind fun v58 =>
      (f_X5_init (h ++ [eO 5 [vR none, vI 0, vI 0, vR none]]) h.length).bind fun h66 =>
      (wR h66 v58 x1 (some h.length) 5).bind fun h69 =>
      (f_X10_init_48 this n) h69 (x1 + 1)
set_option maxRecDepth 100000 in
set_option maxHeartbeats 4000000 in
theorem t_X10_init_48 (G : Gx) (l : Launch) (this : Nat)  : ∀ (n : Nat) (h : Hp) (x1 : Int32) (r : Hp), f_X10_init_48 this n h x1 = some r → RJ G l M_X10_init none r 48 [(0, vR (some this)), (1, vI x1)] [] h := by
  intro n
  induction n with
  | zero =>
    intro h x1 r hf
    rw [f_X10_init_48] at hf
    cases hf
  | succ n ih =>
    intro h x1 r hf
    rw [f_X10_init_48] at hf
    refine r_iload_n 1 dX10_init_48 rfl ?_
    refine r_aload_n 0 dX10_init_49 rfl ?_
    obtain ⟨v50, e50, hf⟩ := ob hf
    refine r_get dX10_init_50 fl_10_4 kw_1_125 (Or.inl rfl) (gR_sp e50) ?_
    obtain ⟨v53, e53, hf⟩ := ob hf
    refine r_lenR dX10_init_53 e53 ?_
    refine r_icmp_ge (tgt := 76) dX10_init_54 (by decide) (fun c54 => ?_) (fun c54 => ?_)
    · replace hf := (if_pos c54).symm.trans hf
      have hf := Option.some.inj hf
      subst hf
      exact r_vret rfl dX10_init_76
    · replace hf := (if_neg c54).symm.trans hf
      refine r_aload_n 0 dX10_init_57 rfl ?_
      obtain ⟨v58, e58, hf⟩ := ob hf
      refine r_get dX10_init_58 fl_10_4 kw_1_125 (Or.inl rfl) (gR_sp e58) ?_
      refine r_iload_n 1 dX10_init_61 rfl ?_
      refine r_new (ci := 5) (fs := [vR none, vI 0, vI 0, vR none]) tyX5 dX10_init_62 rfl ic_5 tyX5_ok kw_1_97 kw_1_99 kw_1_4 rfl (dv_5 _) ?_
      refine r_dup dX10_init_65 rfl ?_
      obtain ⟨h66, e66, hf⟩ := ob hf
      refine r_callIN (y := yX5_init) (avs := []) dX10_init_66 (by decide) kw_1_101 kw_1_4 kw_1_102 rfl oky_X5_init ⟨Nat.le_of_ble_eq_true rfl, Nat.le_of_ble_eq_true rfl⟩ rfl (Nat.le_of_ble_eq_true rfl) (k_X5_init G l e66) ?_
      obtain ⟨h69, e69, hf⟩ := ob hf
      refine r_aastore dX10_init_69 e69 ?_
      refine r_iinc (y := (x1 + 1)) (lv' := [(1, vI (x1 + 1)), (0, vR (some this))]) 1 dX10_init_70 rfl rfl (Nat.le_of_ble_eq_true rfl) rfl ?_
      refine r_goto (tgt := 48) dX10_init_73 (by decide) ?_
      exact r_sub [1, 0] rfl (ih _ _ _ hf)
def f_X10_init (h : Hp) (this : Nat) : Option Hp :=
    (f_X8_init (h ++ [eO 8 [vR none, vR none, vR none, vR none, vR none, vR none, vR none, vI 0, vI 0, vR none]]) h.length).bind fun h9 =>
    (pF h9 (some this) [10] 0 (vR (some h.length))).bind fun h12 =>
    (f_X8_init (h12 ++ [eO 8 [vR none, vR none, vR none, vR none, vR none, vR none, vR none, vI 0, vI 0, vR none]]) h12.length).bind fun h20 =>
    (pF h20 (some this) [10] 1 (vR (some h12.length))).bind fun h23 =>
    (f_X8_init (h23 ++ [eO 8 [vR none, vR none, vR none, vR none, vR none, vR none, vR none, vI 0, vI 0, vR none]]) h23.length).bind fun h31 =>
    (pF h31 (some this) [10] 2 (vR (some h23.length))).bind fun h34 =>
    (pF (h34 ++ [eR 8 (fun _ => none)]) (some this) [10] 4 (vR (some h34.length))).bind fun h43 =>
    f_X10_init_48 this 10000 h43 (0 : Int32)
set_option maxRecDepth 100000 in
set_option maxHeartbeats 4000000 in
theorem k_X10_init (G : Gx) (l : Launch) {h : Hp} {this : Nat} {r : Hp} (hf : f_X10_init h this = some r) : KM l yX10_init (.code yX10_init cX10_init 2 none :: wsK) 3 62 G [vR (some this)] h none r := by
  refine r_entry (ctor := true) (own := RX10) (by decide +kernel) rfl (fun _ => rfl) (Nat.le_of_ble_eq_true rfl) ?_
  show RJ G l M_X10_init none r 0 [(0, vR (some this))] [] h
  unfold f_X10_init at hf
  refine r_aload_n 0 dX10_init_0 rfl ?_
  refine r_objInit dX10_init_1 kw_1_27 kw_1_28 kw_1_29 ⟨Nat.le_of_ble_eq_true rfl, Nat.le_of_ble_eq_true rfl⟩ (Nat.le_of_ble_eq_true rfl) ?_
  refine r_aload_n 0 dX10_init_4 rfl ?_
  refine r_new (ci := 8) (fs := [vR none, vR none, vR none, vR none, vR none, vR none, vR none, vI 0, vI 0, vR none]) tyX8 dX10_init_5 rfl ic_8 tyX8_ok kw_1_30 kw_1_31 kw_1_2 rfl (dv_8 _) ?_
  refine r_dup dX10_init_8 rfl ?_
  obtain ⟨h9, e9, hf⟩ := ob hf
  refine r_callIN (y := yX8_init) (avs := []) dX10_init_9 (by decide) kw_1_33 kw_1_2 kw_1_34 rfl oky_X8_init ⟨Nat.le_of_ble_eq_true rfl, Nat.le_of_ble_eq_true rfl⟩ rfl (Nat.le_of_ble_eq_true rfl) (k_X8_init G l e9) ?_
  obtain ⟨h12, e12, hf⟩ := ob hf
  refine r_putF dX10_init_12 fl_10_0 kw_1_121 (Or.inl rfl) rfl rfl (by decide +kernel) (fit_ref "NumberedByAge$Street" _) e12 ?_
  refine r_aload_n 0 dX10_init_15 rfl ?_
  refine r_new (ci := 8) (fs := [vR none, vR none, vR none, vR none, vR none, vR none, vR none, vI 0, vI 0, vR none]) tyX8 dX10_init_16 rfl ic_8 tyX8_ok kw_1_30 kw_1_31 kw_1_2 rfl (dv_8 _) ?_
  refine r_dup dX10_init_19 rfl ?_
  obtain ⟨h20, e20, hf⟩ := ob hf
  refine r_callIN (y := yX8_init) (avs := []) dX10_init_20 (by decide) kw_1_33 kw_1_2 kw_1_34 rfl oky_X8_init ⟨Nat.le_of_ble_eq_true rfl, Nat.le_of_ble_eq_true rfl⟩ rfl (Nat.le_of_ble_eq_true rfl) (k_X8_init G l e20) ?_
  obtain ⟨h23, e23, hf⟩ := ob hf
  refine r_putF dX10_init_23 fl_10_1 kw_1_122 (Or.inl rfl) rfl rfl (by decide +kernel) (fit_ref "NumberedByAge$Street" _) e23 ?_
  refine r_aload_n 0 dX10_init_26 rfl ?_
  refine r_pc (pc' := 27) rfl ?_
  refine r_new (ci := 8) (fs := [vR none, vR none, vR none, vR none, vR none, vR none, vR none, vI 0, vI 0, vR none]) tyX8 dX10_init_27 rfl ic_8 tyX8_ok kw_1_30 kw_1_31 kw_1_2 rfl (dv_8 _) ?_
  refine r_dup dX10_init_30 rfl ?_
  obtain ⟨h31, e31, hf⟩ := ob hf
  refine r_callIN (y := yX8_init) (avs := []) dX10_init_31 (by decide) kw_1_33 kw_1_2 kw_1_34 rfl oky_X8_init ⟨Nat.le_of_ble_eq_true rfl, Nat.le_of_ble_eq_true rfl⟩ rfl (Nat.le_of_ble_eq_true rfl) (k_X8_init G l e31) ?_
  obtain ⟨h34, e34, hf⟩ := ob hf
  refine r_putF dX10_init_34 fl_10_2 kw_1_123 (Or.inl rfl) rfl rfl (by decide +kernel) (fit_ref "NumberedByAge$Street" _) e34 ?_
  refine r_aload_n 0 dX10_init_37 rfl ?_
  refine r_bipush (x := (8 : Int32)) dX10_init_38 (by decide) ?_
  refine r_newR (n := 8) dX10_init_40 kw_1_97 (by decide) (by decide) (by decide) ?_
  obtain ⟨h43, e43, hf⟩ := ob hf
  refine r_putF dX10_init_43 fl_10_4 kw_1_125 (Or.inl rfl) rfl rfl (by decide +kernel) (fit_arr (.object "NumberedByAge$Shelf") _) e43 ?_
  refine r_iconst (x := (0 : Int32)) dX10_init_46 (by decide) ?_
  refine r_istore_n (lv' := [(1, vI (0 : Int32)), (0, vR (some this))]) dX10_init_47 (Nat.le_of_ble_eq_true rfl) rfl ?_
  exact r_sub [1, 0] rfl (t_X10_init_48 G l _ _ _ _ _ hf)
/-! ===== NumberedByAge.isTown(LNumberedByAge$Shelf;)Z ===== -/
abbrev M_X10_isTown : Mx := (cX10_isTown, 2, RX10, (false, []), (some .boolean), 2, 42)
def f_X10_isTown_21 (h : Hp) : Nat → (Option Nat) → Int32 → Option Int32
  | 0, _, _ => none
  | n + 1, x0, x1 =>
    (gI h x0 [5] 2).bind fun v23 =>
    if v23 ≤ x1 then
      okZ (1 : Int32)
    else
      (rcv h x0 5).bind fun a31 =>
      (f_X5_at h a31 x1).bind fun v31 =>
      if (1 : Int32) ≤ v31 then
        (f_X10_isTown_21 h n) x0 (x1 + 1)
      else
        okZ (0 : Int32)
set_option maxRecDepth 100000 in
set_option maxHeartbeats 4000000 in
theorem t_X10_isTown_21 (G : Gx) (l : Launch) (h : Hp)  : ∀ (n : Nat) (x0 : Option Nat) (x1 : Int32) (r : Int32), f_X10_isTown_21 h n x0 x1 = some r → RJ G l M_X10_isTown (some (vI r)) h 21 [(0, vR x0), (1, vI x1)] [] h := by
  intro n
  induction n with
  | zero =>
    intro x0 x1 r hf
    rw [f_X10_isTown_21] at hf
    cases hf
  | succ n ih =>
    intro x0 x1 r hf
    rw [f_X10_isTown_21] at hf
    refine r_iload_n 1 dX10_isTown_21 rfl ?_
    refine r_aload_n 0 dX10_isTown_22 rfl ?_
    obtain ⟨v23, e23, hf⟩ := ob hf
    refine r_getN dX10_isTown_23 fl_5_2 (by decide) (gI_sp e23) ?_
    refine r_icmp_ge (tgt := 46) dX10_isTown_26 (by decide) (fun c26 => ?_) (fun c26 => ?_)
    · replace hf := (if_pos c26).symm.trans hf
      refine r_iconst (x := (1 : Int32)) dX10_isTown_46 (by decide) ?_
      exact r_zret rfl dX10_isTown_47 hf
    · replace hf := (if_neg c26).symm.trans hf
      refine r_aload_n 0 dX10_isTown_29 rfl ?_
      refine r_iload_n 1 dX10_isTown_30 rfl ?_
      obtain ⟨a31, ea31, hf⟩ := ob hf
      obtain ⟨v31, e31, hf⟩ := ob hf
      refine r_callV (y := yX5_at) (ci := 5) (avs := [vI x1]) dX10_isTown_31 rfl kw_1_159 kw_1_160 kw_1_161 kw_1_4 kw_1_162 oky_X5_at ⟨Nat.le_of_ble_eq_true rfl, Nat.le_of_ble_eq_true rfl⟩ rfl (Nat.le_of_ble_eq_true rfl) ea31 (k_X5_at G l e31) ?_
      refine r_iconst (x := (1 : Int32)) dX10_isTown_34 (by decide) ?_
      refine r_icmp_ge (tgt := 40) dX10_isTown_35 (by decide) (fun c35 => ?_) (fun c35 => ?_)
      · replace hf := (if_pos c35).symm.trans hf
        refine r_iinc (y := (x1 + 1)) (lv' := [(1, vI (x1 + 1)), (0, vR x0)]) 1 dX10_isTown_40 rfl rfl (Nat.le_of_ble_eq_true rfl) rfl ?_
        refine r_goto (tgt := 21) dX10_isTown_43 (by decide) ?_
        exact r_sub [1, 0] rfl (ih _ _ _ hf)
      · replace hf := (if_neg c35).symm.trans hf
        refine r_iconst (x := (0 : Int32)) dX10_isTown_38 (by decide) ?_
        exact r_zret rfl dX10_isTown_39 hf
def f_X10_isTown (h : Hp) (x0 : Option Nat) : Option Int32 :=
    (gI h x0 [5] 2).bind fun v1 =>
    if v1 < (1 : Int32) then
      okZ (0 : Int32)
    else
      (gI h x0 [5] 2).bind fun v9 =>
      if v9 ≤ (20 : Int32) then
        f_X10_isTown_21 h 10000 x0 (0 : Int32)
      else
        okZ (0 : Int32)
set_option maxRecDepth 100000 in
set_option maxHeartbeats 4000000 in
theorem k_X10_isTown (G : Gx) (l : Launch) {h : Hp} {x0 : Option Nat} {r : Int32} (hf : f_X10_isTown h x0 = some r) : KM l yX10_isTown (.code yX10_isTown cX10_isTown 2 (some .boolean) :: wsK) 2 42 G [vR x0] h (some (vI r)) h := by
  refine r_entry (ctor := false) (own := RX10) (by decide +kernel) rfl (fun q => by cases q) (Nat.le_of_ble_eq_true rfl) ?_
  show RJ G l M_X10_isTown (some (vI r)) h 0 [(0, vR x0)] [] h
  unfold f_X10_isTown at hf
  refine r_aload_n 0 dX10_isTown_0 rfl ?_
  obtain ⟨v1, e1, hf⟩ := ob hf
  refine r_getN dX10_isTown_1 fl_5_2 (by decide) (gI_sp e1) ?_
  refine r_iconst (x := (1 : Int32)) dX10_isTown_4 (by decide) ?_
  refine r_icmp_lt (tgt := 17) dX10_isTown_5 (by decide) (fun c5 => ?_) (fun c5 => ?_)
  · replace hf := (if_pos c5).symm.trans hf
    refine r_iconst (x := (0 : Int32)) dX10_isTown_17 (by decide) ?_
    exact r_zret rfl dX10_isTown_18 hf
  · replace hf := (if_neg c5).symm.trans hf
    refine r_aload_n 0 dX10_isTown_8 rfl ?_
    obtain ⟨v9, e9, hf⟩ := ob hf
    refine r_getN dX10_isTown_9 fl_5_2 (by decide) (gI_sp e9) ?_
    refine r_bipush (x := (20 : Int32)) dX10_isTown_12 (by decide) ?_
    refine r_icmp_le (tgt := 19) dX10_isTown_14 (by decide) (fun c14 => ?_) (fun c14 => ?_)
    · replace hf := (if_pos c14).symm.trans hf
      refine r_iconst (x := (0 : Int32)) dX10_isTown_19 (by decide) ?_
      refine r_istore_n (lv' := [(1, vI (0 : Int32)), (0, vR x0)]) dX10_isTown_20 (Nat.le_of_ble_eq_true rfl) rfl ?_
      exact r_sub [1, 0] rfl (t_X10_isTown_21 G l _ _ _ _ _ hf)
    · replace hf := (if_neg c14).symm.trans hf
      refine r_iconst (x := (0 : Int32)) dX10_isTown_17 (by decide) ?_
      exact r_zret rfl dX10_isTown_18 hf
/-! ===== NumberedByAge.sharedIfRaised(LNumberedByAge$Shelf;I)I ===== -/
abbrev M_X10_sharedIfRaised : Mx := (cX10_sharedIfRaised, 5, RX10, (false, []), (some .int), 2, 42)
def f_X10_sharedIfRaised_35 (h : Hp) (this : Nat) (k5 : (Option Nat) → Int32 → Int32 → Int32 → Option Int32) (x1 : Option Nat) (x2 : Int32) (x3 : Int32) (x4 : Int32) : Option Int32 :=
    k5 x1 x2 x3 (x4 + 1)
set_option maxRecDepth 100000 in
set_option maxHeartbeats 4000000 in
theorem t_X10_sharedIfRaised_35 (G : Gx) (l : Launch) (h : Hp) (this : Nat) (k5 : (Option Nat) → Int32 → Int32 → Int32 → Option Int32) (hk5 : ∀ (x1 : Option Nat) (x2 : Int32) (x3 : Int32) (x4 : Int32) (r : Int32), k5 x1 x2 x3 x4 = some r → RJ G l M_X10_sharedIfRaised (some (vI r)) h 5 [(0, vR (some this)), (1, vR x1), (2, vI x2), (3, vI x3), (4, vI x4)] [] h) (x1 : Option Nat) (x2 : Int32) (x3 : Int32) (x4 : Int32) (r : Int32) (hf : f_X10_sharedIfRaised_35 h this k5 x1 x2 x3 x4 = some r) : RJ G l M_X10_sharedIfRaised (some (vI r)) h 35 [(0, vR (some this)), (1, vR x1), (2, vI x2), (3, vI x3), (4, vI x4)] [] h := by
  unfold f_X10_sharedIfRaised_35 at hf
  refine r_iinc (y := (x4 + 1)) (lv' := [(4, vI (x4 + 1)), (0, vR (some this)), (1, vR x1), (2, vI x2), (3, vI x3)]) 4 dX10_sharedIfRaised_35 rfl rfl (Nat.le_of_ble_eq_true rfl) rfl ?_
  refine r_goto (tgt := 5) dX10_sharedIfRaised_38 (by decide) ?_
  exact r_sub [1, 2, 3, 4, 0] rfl (hk5 _ _ _ _ _ hf)
def f_X10_sharedIfRaised_5 (h : Hp) (this : Nat) : Nat → (Option Nat) → Int32 → Int32 → Int32 → Option Int32
  | 0, _, _, _, _ => none
  | n + 1, x1, x2, x3, x4 =>
    (gI h x1 [5] 2).bind fun v8 =>
    if v8 ≤ x4 then
      some x3
    else
      (gR h (some this) [10] 0).bind fun v15 =>
      (rcv h x1 5).bind fun a21 =>
      (f_X5_at h a21 x4).bind fun v21 =>
      (rcv h v15 8).bind fun a26 =>
      (f_X8_plotsWith h a26 (v21 + x2)).bind fun v26 =>
      if v26 = 0 then
        f_X10_sharedIfRaised_35 h this (f_X10_sharedIfRaised_5 h this n) x1 x2 x3 x4
      else
        f_X10_sharedIfRaised_35 h this (f_X10_sharedIfRaised_5 h this n) x1 x2 (x3 + 1) x4
set_option maxRecDepth 100000 in
set_option maxHeartbeats 4000000 in
theorem t_X10_sharedIfRaised_5 (G : Gx) (l : Launch) (h : Hp) (this : Nat)  : ∀ (n : Nat) (x1 : Option Nat) (x2 : Int32) (x3 : Int32) (x4 : Int32) (r : Int32), f_X10_sharedIfRaised_5 h this n x1 x2 x3 x4 = some r → RJ G l M_X10_sharedIfRaised (some (vI r)) h 5 [(0, vR (some this)), (1, vR x1), (2, vI x2), (3, vI x3), (4, vI x4)] [] h := by
  intro n
  induction n with
  | zero =>
    intro x1 x2 x3 x4 r hf
    rw [f_X10_sharedIfRaised_5] at hf
    cases hf
  | succ n ih =>
    intro x1 x2 x3 x4 r hf
    rw [f_X10_sharedIfRaised_5] at hf
    refine r_iload 4 dX10_sharedIfRaised_5 rfl ?_
    refine r_aload_n 1 dX10_sharedIfRaised_7 rfl ?_
    obtain ⟨v8, e8, hf⟩ := ob hf
    refine r_getN dX10_sharedIfRaised_8 fl_5_2 (by decide) (gI_sp e8) ?_
    refine r_icmp_ge (tgt := 41) dX10_sharedIfRaised_11 (by decide) (fun c11 => ?_) (fun c11 => ?_)
    · replace hf := (if_pos c11).symm.trans hf
      refine r_iload_n 3 dX10_sharedIfRaised_41 rfl ?_
      have hf := Option.some.inj hf
      subst hf
      exact r_iret rfl dX10_sharedIfRaised_42
    · replace hf := (if_neg c11).symm.trans hf
      refine r_aload_n 0 dX10_sharedIfRaised_14 rfl ?_
      obtain ⟨v15, e15, hf⟩ := ob hf
      refine r_get dX10_sharedIfRaised_15 fl_10_0 kw_1_121 (Or.inl rfl) (gR_sp e15) ?_
      refine r_aload_n 1 dX10_sharedIfRaised_18 rfl ?_
      refine r_iload 4 dX10_sharedIfRaised_19 rfl ?_
      obtain ⟨a21, ea21, hf⟩ := ob hf
      obtain ⟨v21, e21, hf⟩ := ob hf
      refine r_callV (y := yX5_at) (ci := 5) (avs := [vI x4]) dX10_sharedIfRaised_21 rfl kw_1_159 kw_1_160 kw_1_161 kw_1_4 kw_1_162 oky_X5_at ⟨Nat.le_of_ble_eq_true rfl, Nat.le_of_ble_eq_true rfl⟩ rfl (Nat.le_of_ble_eq_true rfl) ea21 (k_X5_at G l e21) ?_
      refine r_iload_n 2 dX10_sharedIfRaised_24 rfl ?_
      refine r_iadd dX10_sharedIfRaised_25 ?_
      obtain ⟨a26, ea26, hf⟩ := ob hf
      obtain ⟨v26, e26, hf⟩ := ob hf
      refine r_callV (y := yX8_plotsWith) (ci := 8) (avs := [vI (v21 + x2)]) dX10_sharedIfRaised_26 rfl kw_2_123 kw_2_124 kw_2_125 kw_1_2 kw_2_126 oky_X8_plotsWith ⟨Nat.le_of_ble_eq_true rfl, Nat.le_of_ble_eq_true rfl⟩ rfl (Nat.le_of_ble_eq_true rfl) ea26 (k_X8_plotsWith G l e26) ?_
      refine r_if_eq (tgt := 35) dX10_sharedIfRaised_29 (by decide) (fun c29 => ?_) (fun c29 => ?_)
      · replace hf := (if_pos c29).symm.trans hf
        exact r_sub [0, 1, 2, 3, 4] rfl (t_X10_sharedIfRaised_35 G l _ _ (f_X10_sharedIfRaised_5 h this n) ih _ _ _ _ _ hf)
      · replace hf := (if_neg c29).symm.trans hf
        refine r_iinc (y := (x3 + 1)) (lv' := [(3, vI (x3 + 1)), (0, vR (some this)), (1, vR x1), (2, vI x2), (4, vI x4)]) 3 dX10_sharedIfRaised_32 rfl rfl (Nat.le_of_ble_eq_true rfl) rfl ?_
        exact r_sub [1, 2, 3, 0, 4] rfl (t_X10_sharedIfRaised_35 G l _ _ (f_X10_sharedIfRaised_5 h this n) ih _ _ _ _ _ hf)
def f_X10_sharedIfRaised (h : Hp) (this : Nat) (x1 : Option Nat) (x2 : Int32) : Option Int32 :=
    f_X10_sharedIfRaised_5 h this 10000 x1 x2 (0 : Int32) (0 : Int32)
set_option maxRecDepth 100000 in
set_option maxHeartbeats 4000000 in
theorem k_X10_sharedIfRaised (G : Gx) (l : Launch) {h : Hp} {this : Nat} {x1 : Option Nat} {x2 : Int32} {r : Int32} (hf : f_X10_sharedIfRaised h this x1 x2 = some r) : KM l yX10_sharedIfRaised (.code yX10_sharedIfRaised cX10_sharedIfRaised 5 (some .int) :: wsK) 2 42 G [vR (some this), vR x1, vI x2] h (some (vI r)) h := by
  refine r_entry (ctor := false) (own := RX10) (by decide +kernel) rfl (fun q => by cases q) (Nat.le_of_ble_eq_true rfl) ?_
  show RJ G l M_X10_sharedIfRaised (some (vI r)) h 0 [(0, vR (some this)), (1, vR x1), (2, vI x2)] [] h
  unfold f_X10_sharedIfRaised at hf
  refine r_iconst (x := (0 : Int32)) dX10_sharedIfRaised_0 (by decide) ?_
  refine r_istore_n (lv' := [(3, vI (0 : Int32)), (0, vR (some this)), (1, vR x1), (2, vI x2)]) dX10_sharedIfRaised_1 (Nat.le_of_ble_eq_true rfl) rfl ?_
  refine r_iconst (x := (0 : Int32)) dX10_sharedIfRaised_2 (by decide) ?_
  refine r_istore (lv' := [(4, vI (0 : Int32)), (3, vI (0 : Int32)), (0, vR (some this)), (1, vR x1), (2, vI x2)]) dX10_sharedIfRaised_3 (Nat.le_of_ble_eq_true rfl) rfl ?_
  exact r_sub [2, 3, 4, 1, 0] rfl (t_X10_sharedIfRaised_5 G l _ _ _ _ _ _ _ _ hf)
/-! ===== NumberedByAge.leastRaise(LNumberedByAge$Shelf;)I ===== -/
abbrev M_X10_leastRaise : Mx := (cX10_leastRaise, 4, RX10, (false, []), (some .int), 3, 66)
def f_X10_leastRaise_10 (h : Hp) (this : Nat) : Nat → (Option Nat) → Int32 → Int32 → Option Int32
  | 0, _, _, _ => none
  | n + 1, x1, x2, x3 =>
    if x2 ≤ x3 then
      some x2
    else
      (rcv h (some this) 10).bind fun a18 =>
      (f_X10_sharedIfRaised h a18 x1 x3).bind fun v18 =>
      if v18 = 0 then
        some x3
      else
        (f_X10_leastRaise_10 h this n) x1 x2 (x3 + 1)
set_option maxRecDepth 100000 in
set_option maxHeartbeats 4000000 in
theorem t_X10_leastRaise_10 (G : Gx) (l : Launch) (h : Hp) (this : Nat)  : ∀ (n : Nat) (x1 : Option Nat) (x2 : Int32) (x3 : Int32) (r : Int32), f_X10_leastRaise_10 h this n x1 x2 x3 = some r → RJ G l M_X10_leastRaise (some (vI r)) h 10 [(0, vR (some this)), (1, vR x1), (2, vI x2), (3, vI x3)] [] h := by
  intro n
  induction n with
  | zero =>
    intro x1 x2 x3 r hf
    rw [f_X10_leastRaise_10] at hf
    cases hf
  | succ n ih =>
    intro x1 x2 x3 r hf
    rw [f_X10_leastRaise_10] at hf
    refine r_iload_n 3 dX10_leastRaise_10 rfl ?_
    refine r_iload_n 2 dX10_leastRaise_11 rfl ?_
    refine r_icmp_ge (tgt := 32) dX10_leastRaise_12 (by decide) (fun c12 => ?_) (fun c12 => ?_)
    · replace hf := (if_pos c12).symm.trans hf
      refine r_iload_n 2 dX10_leastRaise_32 rfl ?_
      have hf := Option.some.inj hf
      subst hf
      exact r_iret rfl dX10_leastRaise_33
    · replace hf := (if_neg c12).symm.trans hf
      refine r_aload_n 0 dX10_leastRaise_15 rfl ?_
      refine r_aload_n 1 dX10_leastRaise_16 rfl ?_
      refine r_iload_n 3 dX10_leastRaise_17 rfl ?_
      obtain ⟨a18, ea18, hf⟩ := ob hf
      obtain ⟨v18, e18, hf⟩ := ob hf
      refine r_callV (y := yX10_sharedIfRaised) (ci := 10) (avs := [vR x1, vI x3]) dX10_leastRaise_18 rfl kw_3_23 kw_3_25 kw_0_10 kw_1_1 kw_3_26 oky_X10_sharedIfRaised ⟨Nat.le_of_ble_eq_true rfl, Nat.le_of_ble_eq_true rfl⟩ rfl (Nat.le_of_ble_eq_true rfl) ea18 (k_X10_sharedIfRaised G l e18) ?_
      refine r_if_ne (tgt := 26) dX10_leastRaise_21 (by decide) (fun c21 => ?_) (fun c21 => ?_)
      · replace hf := (if_pos c21).symm.trans hf
        refine r_iload_n 3 dX10_leastRaise_24 rfl ?_
        have hf := Option.some.inj hf
        subst hf
        exact r_iret rfl dX10_leastRaise_25
      · replace hf := (if_neg c21).symm.trans hf
        refine r_iinc (y := (x3 + 1)) (lv' := [(3, vI (x3 + 1)), (0, vR (some this)), (1, vR x1), (2, vI x2)]) 3 dX10_leastRaise_26 rfl rfl (Nat.le_of_ble_eq_true rfl) rfl ?_
        refine r_goto (tgt := 10) dX10_leastRaise_29 (by decide) ?_
        exact r_sub [1, 2, 3, 0] rfl (ih _ _ _ _ hf)
def f_X10_leastRaise (h : Hp) (this : Nat) (x1 : Option Nat) : Option Int32 :=
    (gR h (some this) [10] 0).bind fun v1 =>
    (rcv h v1 8).bind fun a4 =>
    (f_X8_greatest h a4).bind fun v4 =>
    f_X10_leastRaise_10 h this 10000 x1 v4 (0 : Int32)
set_option maxRecDepth 100000 in
set_option maxHeartbeats 4000000 in
theorem k_X10_leastRaise (G : Gx) (l : Launch) {h : Hp} {this : Nat} {x1 : Option Nat} {r : Int32} (hf : f_X10_leastRaise h this x1 = some r) : KM l yX10_leastRaise (.code yX10_leastRaise cX10_leastRaise 4 (some .int) :: wsK) 3 66 G [vR (some this), vR x1] h (some (vI r)) h := by
  refine r_entry (ctor := false) (own := RX10) (by decide +kernel) rfl (fun q => by cases q) (Nat.le_of_ble_eq_true rfl) ?_
  show RJ G l M_X10_leastRaise (some (vI r)) h 0 [(0, vR (some this)), (1, vR x1)] [] h
  unfold f_X10_leastRaise at hf
  refine r_aload_n 0 dX10_leastRaise_0 rfl ?_
  obtain ⟨v1, e1, hf⟩ := ob hf
  refine r_get dX10_leastRaise_1 fl_10_0 kw_1_121 (Or.inl rfl) (gR_sp e1) ?_
  obtain ⟨a4, ea4, hf⟩ := ob hf
  obtain ⟨v4, e4, hf⟩ := ob hf
  refine r_callV (y := yX8_greatest) (ci := 8) (avs := []) dX10_leastRaise_4 rfl kw_3_31 kw_1_228 kw_1_229 kw_1_2 kw_1_230 oky_X8_greatest ⟨Nat.le_of_ble_eq_true rfl, Nat.le_of_ble_eq_true rfl⟩ rfl (Nat.le_of_ble_eq_true rfl) ea4 (k_X8_greatest G l e4) ?_
  refine r_istore_n (lv' := [(2, vI v4), (0, vR (some this)), (1, vR x1)]) dX10_leastRaise_7 (Nat.le_of_ble_eq_true rfl) rfl ?_
  refine r_iconst (x := (0 : Int32)) dX10_leastRaise_8 (by decide) ?_
  refine r_istore_n (lv' := [(3, vI (0 : Int32)), (2, vI v4), (0, vR (some this)), (1, vR x1)]) dX10_leastRaise_9 (Nat.le_of_ble_eq_true rfl) rfl ?_
  exact r_sub [2, 3, 1, 0] rfl (t_X10_leastRaise_10 G l _ _ _ _ _ _ _ hf)
/-! ===== NumberedByAge.joined(II)I ===== -/
abbrev M_X10_joined : Mx := (cX10_joined, 5, RX10, (false, []), (some .int), 4, 89)
def f_X10_joined (h : Hp) (this : Nat) (x1 : Int32) (x2 : Int32) : Option Int32 :=
    (rcv h (some this) 10).bind fun a2 =>
    (f_X10_shelfAt h a2 x1).bind fun v2 =>
    if v2 = none then
      some (-1 : Int32)
    else
      if x2 < 0 then
        some (-1 : Int32)
      else
        if x2 ≤ (1 : Int32) then
          (rcv h v2 5).bind fun a23 =>
          (f_X5_refusalAsRowOf h a23 (1 : Int32)).bind fun v23 =>
          if v23 = 0 then
            (f_X10_isTown h v2).bind fun v37 =>
            if v37 = 0 then
              some (-13 : Int32)
            else
              if x2 = 0 then
                (rcv h (some this) 10).bind fun a53 =>
                (f_X10_sharedIfRaised h a53 v2 (0 : Int32)).bind fun v53 =>
                some v53
              else
                (rcv h (some this) 10).bind fun a61 =>
                (f_X10_leastRaise h a61 v2).bind fun v61 =>
                some v61
          else
            some v23
        else
          some (-1 : Int32)
set_option maxRecDepth 100000 in
set_option maxHeartbeats 4000000 in
theorem k_X10_joined (G : Gx) (l : Launch) {h : Hp} {this : Nat} {x1 : Int32} {x2 : Int32} {r : Int32} (hf : f_X10_joined h this x1 x2 = some r) : KM l yX10_joined (.code yX10_joined cX10_joined 5 (some .int) :: wsK) 4 89 G [vR (some this), vI x1, vI x2] h (some (vI r)) h := by
  refine r_entry (ctor := false) (own := RX10) (by decide +kernel) rfl (fun q => by cases q) (Nat.le_of_ble_eq_true rfl) ?_
  show RJ G l M_X10_joined (some (vI r)) h 0 [(0, vR (some this)), (1, vI x1), (2, vI x2)] [] h
  unfold f_X10_joined at hf
  refine r_aload_n 0 dX10_joined_0 rfl ?_
  refine r_iload_n 1 dX10_joined_1 rfl ?_
  obtain ⟨a2, ea2, hf⟩ := ob hf
  obtain ⟨v2, e2, hf⟩ := ob hf
  refine r_callV (y := yX10_shelfAt) (ci := 10) (avs := [vI x1]) dX10_joined_2 rfl kw_1_141 kw_1_143 kw_0_0 kw_1_1 kw_1_144 oky_X10_shelfAt ⟨Nat.le_of_ble_eq_true rfl, Nat.le_of_ble_eq_true rfl⟩ rfl (Nat.le_of_ble_eq_true rfl) ea2 (k_X10_shelfAt G l e2) ?_
  refine r_astore_n (lv' := [(3, vR v2), (0, vR (some this)), (1, vI x1), (2, vI x2)]) dX10_joined_5 (Nat.le_of_ble_eq_true rfl) rfl ?_
  refine r_aload_n 0 dX10_joined_6 rfl ?_
  refine r_ifnull (tgt := 19) dX10_joined_7 (by decide) (fun c7 => ?_) (fun c7 => ?_)
  · replace hf := (if_pos c7).symm.trans hf
    refine r_iconst (x := (-1 : Int32)) dX10_joined_19 (by decide) ?_
    have hf := Option.some.inj hf
    subst hf
    exact r_iret rfl dX10_joined_20
  · replace hf := (if_neg c7).symm.trans hf
    refine r_iload_n 3 dX10_joined_10 rfl ?_
    refine r_if_lt (tgt := 19) dX10_joined_11 (by decide) (fun c11 => ?_) (fun c11 => ?_)
    · replace hf := (if_pos c11).symm.trans hf
      refine r_iconst (x := (-1 : Int32)) dX10_joined_19 (by decide) ?_
      have hf := Option.some.inj hf
      subst hf
      exact r_iret rfl dX10_joined_20
    · replace hf := (if_neg c11).symm.trans hf
      refine r_iload_n 3 dX10_joined_14 rfl ?_
      refine r_iconst (x := (1 : Int32)) dX10_joined_15 (by decide) ?_
      refine r_icmp_le (tgt := 21) dX10_joined_16 (by decide) (fun c16 => ?_) (fun c16 => ?_)
      · replace hf := (if_pos c16).symm.trans hf
        refine r_aload_n 0 dX10_joined_21 rfl ?_
        refine r_iconst (x := (1 : Int32)) dX10_joined_22 (by decide) ?_
        obtain ⟨a23, ea23, hf⟩ := ob hf
        obtain ⟨v23, e23, hf⟩ := ob hf
        refine r_callV (y := yX5_refusalAsRowOf) (ci := 5) (avs := [vI (1 : Int32)]) dX10_joined_23 rfl kw_1_145 kw_1_146 kw_1_147 kw_1_4 kw_1_148 oky_X5_refusalAsRowOf ⟨Nat.le_of_ble_eq_true rfl, Nat.le_of_ble_eq_true rfl⟩ rfl (Nat.le_of_ble_eq_true rfl) ea23 (k_X5_refusalAsRowOf G l e23) ?_
        refine r_istore (lv' := [(4, vI v23), (3, vR v2), (0, vR (some this)), (1, vI x1), (2, vI x2)]) dX10_joined_26 (Nat.le_of_ble_eq_true rfl) rfl ?_
        refine r_iload 0 dX10_joined_28 rfl ?_
        refine r_if_eq (tgt := 36) dX10_joined_30 (by decide) (fun c30 => ?_) (fun c30 => ?_)
        · replace hf := (if_pos c30).symm.trans hf
          refine r_aload_n 1 dX10_joined_36 rfl ?_
          obtain ⟨v37, e37, hf⟩ := ob hf
          refine r_callS (y := yX10_isTown) (avs := [vR v2]) dX10_joined_37 kw_3_20 kw_3_21 kw_1_1 kw_3_22 oky_X10_isTown ⟨Nat.le_of_ble_eq_true rfl, Nat.le_of_ble_eq_true rfl⟩ rfl (Nat.le_of_ble_eq_true rfl) (k_X10_isTown G l e37) ?_
          refine r_if_ne (tgt := 46) dX10_joined_40 (by decide) (fun c40 => ?_) (fun c40 => ?_)
          · replace hf := (if_pos c40).symm.trans hf
            refine r_bipush (x := (-13 : Int32)) dX10_joined_43 (by decide) ?_
            have hf := Option.some.inj hf
            subst hf
            exact r_iret rfl dX10_joined_45
          · replace hf := (if_neg c40).symm.trans hf
            refine r_iload_n 4 dX10_joined_46 rfl ?_
            refine r_if_ne (tgt := 59) dX10_joined_47 (by decide) (fun c47 => ?_) (fun c47 => ?_)
            · replace hf := (if_pos c47).symm.trans hf
              refine r_aload_n 2 dX10_joined_50 rfl ?_
              refine r_aload_n 1 dX10_joined_51 rfl ?_
              refine r_iconst (x := (0 : Int32)) dX10_joined_52 (by decide) ?_
              obtain ⟨a53, ea53, hf⟩ := ob hf
              obtain ⟨v53, e53, hf⟩ := ob hf
              refine r_callV (y := yX10_sharedIfRaised) (ci := 10) (avs := [vR v2, vI (0 : Int32)]) dX10_joined_53 rfl kw_3_23 kw_3_25 kw_0_10 kw_1_1 kw_3_26 oky_X10_sharedIfRaised ⟨Nat.le_of_ble_eq_true rfl, Nat.le_of_ble_eq_true rfl⟩ rfl (Nat.le_of_ble_eq_true rfl) ea53 (k_X10_sharedIfRaised G l e53) ?_
              refine r_goto (tgt := 64) dX10_joined_56 (by decide) ?_
              have hf := Option.some.inj hf
              subst hf
              exact r_iret rfl dX10_joined_64
            · replace hf := (if_neg c47).symm.trans hf
              refine r_aload_n 2 dX10_joined_59 rfl ?_
              refine r_aload_n 1 dX10_joined_60 rfl ?_
              obtain ⟨a61, ea61, hf⟩ := ob hf
              obtain ⟨v61, e61, hf⟩ := ob hf
              refine r_callV (y := yX10_leastRaise) (ci := 10) (avs := [vR v2]) dX10_joined_61 rfl kw_3_27 kw_3_29 kw_0_11 kw_1_1 kw_3_30 oky_X10_leastRaise ⟨Nat.le_of_ble_eq_true rfl, Nat.le_of_ble_eq_true rfl⟩ rfl (Nat.le_of_ble_eq_true rfl) ea61 (k_X10_leastRaise G l e61) ?_
              have hf := Option.some.inj hf
              subst hf
              exact r_iret rfl dX10_joined_64
        · replace hf := (if_neg c30).symm.trans hf
          refine r_iload 0 dX10_joined_33 rfl ?_
          have hf := Option.some.inj hf
          subst hf
          exact r_iret rfl dX10_joined_35
      · replace hf := (if_neg c16).symm.trans hf
        refine r_iconst (x := (-1 : Int32)) dX10_joined_19 (by decide) ?_
        have hf := Option.some.inj hf
        subst hf
        exact r_iret rfl dX10_joined_20
/-! ===== NumberedByAge.judge(I)I ===== -/
abbrev M_X10_judge : Mx := (cX10_judge, 7, RX10, (false, []), (some .int), 2, 42)
def f_X10_judge_80 (h : Hp) (this : Nat) (k32 : (Option Nat) → Int32 → Int32 → Option Int32) (x2 : Option Nat) (x4 : Int32) (x5 : Int32) : Option Int32 :=
    k32 x2 x4 (x5 + 1)
set_option maxRecDepth 100000 in
set_option maxHeartbeats 4000000 in
theorem t_X10_judge_80 (G : Gx) (l : Launch) (h : Hp) (this : Nat) (k32 : (Option Nat) → Int32 → Int32 → Option Int32) (hk32 : ∀ (x2 : Option Nat) (x4 : Int32) (x5 : Int32) (r : Int32), k32 x2 x4 x5 = some r → RJ G l M_X10_judge (some (vI r)) h 32 [(0, vR (some this)), (2, vR x2), (4, vI x4), (5, vI x5)] [] h) (x2 : Option Nat) (x4 : Int32) (x5 : Int32) (r : Int32) (hf : f_X10_judge_80 h this k32 x2 x4 x5 = some r) : RJ G l M_X10_judge (some (vI r)) h 80 [(0, vR (some this)), (2, vR x2), (4, vI x4), (5, vI x5)] [] h := by
  unfold f_X10_judge_80 at hf
  refine r_iinc (y := (x5 + 1)) (lv' := [(5, vI (x5 + 1)), (0, vR (some this)), (2, vR x2), (4, vI x4)]) 3 dX10_judge_80 rfl rfl (Nat.le_of_ble_eq_true rfl) rfl ?_
  refine r_goto (tgt := 32) dX10_judge_83 (by decide) ?_
  exact r_sub [1, 2, 3, 0] rfl (hk32 _ _ _ _ hf)
def f_X10_judge_86 (h : Hp) (this : Nat) (x2 : Option Nat) : Option Int32 :=
    (gI h x2 [5] 2).bind fun v87 =>
    if v87 = (12 : Int32) then
      some (-4 : Int32)
    else
      (gI h x2 [5] 2).bind fun v101 =>
      some (mnI v101 (12 : Int32))
set_option maxRecDepth 100000 in
set_option maxHeartbeats 4000000 in
theorem t_X10_judge_86 (G : Gx) (l : Launch) (h : Hp) (this : Nat)  (x2 : Option Nat) (r : Int32) (hf : f_X10_judge_86 h this x2 = some r) : RJ G l M_X10_judge (some (vI r)) h 86 [(0, vR (some this)), (2, vR x2)] [] h := by
  unfold f_X10_judge_86 at hf
  refine r_aload_n 1 dX10_judge_86 rfl ?_
  obtain ⟨v87, e87, hf⟩ := ob hf
  refine r_getN dX10_judge_87 fl_5_2 (by decide) (gI_sp e87) ?_
  refine r_bipush (x := (12 : Int32)) dX10_judge_90 (by decide) ?_
  refine r_icmp_ne (tgt := 100) dX10_judge_92 (by decide) (fun c92 => ?_) (fun c92 => ?_)
  · replace hf := (if_pos c92).symm.trans hf
    refine r_bipush (x := (-4 : Int32)) dX10_judge_95 (by decide) ?_
    refine r_goto (tgt := 109) dX10_judge_97 (by decide) ?_
    have hf := Option.some.inj hf
    subst hf
    exact r_iret rfl dX10_judge_109
  · replace hf := (if_neg c92).symm.trans hf
    refine r_aload_n 1 dX10_judge_100 rfl ?_
    obtain ⟨v101, e101, hf⟩ := ob hf
    refine r_getN dX10_judge_101 fl_5_2 (by decide) (gI_sp e101) ?_
    refine r_bipush (x := (12 : Int32)) dX10_judge_104 (by decide) ?_
    refine r_min dX10_judge_106 kw_2_172 kw_2_173 kw_1_7 kw_2_174 ⟨Nat.le_of_ble_eq_true rfl, Nat.le_of_ble_eq_true rfl⟩ (Nat.le_of_ble_eq_true rfl) ?_
    have hf := Option.some.inj hf
    subst hf
    exact r_iret rfl dX10_judge_109
def f_X10_judge_32 (h : Hp) (this : Nat) : Nat → (Option Nat) → Int32 → Int32 → Option Int32
  | 0, _, _, _ => none
  | n + 1, x2, x4, x5 =>
    if (12 : Int32) ≤ x5 then
      f_X10_judge_86 h this x2
    else
      (gI h x2 [5] 2).bind fun v42 =>
      if v42 ≤ x5 then
        f_X10_judge_86 h this x2
      else
        (rcv h x2 5).bind fun a51 =>
        (f_X5_at h a51 x5).bind fun v51 =>
        if v51 = x4 then
          f_X10_judge_80 h this (f_X10_judge_32 h this n) x2 x4 x5
        else
          (gR h (some this) [10] 0).bind fun v66 =>
          (rcv h v66 8).bind fun a71 =>
          (f_X8_numberAt h a71 x5).bind fun v71 =>
          if v51 = v71 then
            f_X10_judge_80 h this (f_X10_judge_32 h this n) x2 x4 x5
          else
            some x5
set_option maxRecDepth 100000 in
set_option maxHeartbeats 4000000 in
theorem t_X10_judge_32 (G : Gx) (l : Launch) (h : Hp) (this : Nat)  : ∀ (n : Nat) (x2 : Option Nat) (x4 : Int32) (x5 : Int32) (r : Int32), f_X10_judge_32 h this n x2 x4 x5 = some r → RJ G l M_X10_judge (some (vI r)) h 32 [(0, vR (some this)), (2, vR x2), (4, vI x4), (5, vI x5)] [] h := by
  intro n
  induction n with
  | zero =>
    intro x2 x4 x5 r hf
    rw [f_X10_judge_32] at hf
    cases hf
  | succ n ih =>
    intro x2 x4 x5 r hf
    rw [f_X10_judge_32] at hf
    refine r_iload 3 dX10_judge_32 rfl ?_
    refine r_bipush (x := (12 : Int32)) dX10_judge_34 (by decide) ?_
    refine r_icmp_ge (tgt := 86) dX10_judge_36 (by decide) (fun c36 => ?_) (fun c36 => ?_)
    · replace hf := (if_pos c36).symm.trans hf
      exact r_sub [0, 1] rfl (t_X10_judge_86 G l _ _ _ _ hf)
    · replace hf := (if_neg c36).symm.trans hf
      refine r_iload 3 dX10_judge_39 rfl ?_
      refine r_aload_n 1 dX10_judge_41 rfl ?_
      obtain ⟨v42, e42, hf⟩ := ob hf
      refine r_getN dX10_judge_42 fl_5_2 (by decide) (gI_sp e42) ?_
      refine r_icmp_ge (tgt := 86) dX10_judge_45 (by decide) (fun c45 => ?_) (fun c45 => ?_)
      · replace hf := (if_pos c45).symm.trans hf
        exact r_sub [0, 1] rfl (t_X10_judge_86 G l _ _ _ _ hf)
      · replace hf := (if_neg c45).symm.trans hf
        refine r_aload_n 1 dX10_judge_48 rfl ?_
        refine r_iload 3 dX10_judge_49 rfl ?_
        obtain ⟨a51, ea51, hf⟩ := ob hf
        obtain ⟨v51, e51, hf⟩ := ob hf
        refine r_callV (y := yX5_at) (ci := 5) (avs := [vI x5]) dX10_judge_51 rfl kw_1_159 kw_1_160 kw_1_161 kw_1_4 kw_1_162 oky_X5_at ⟨Nat.le_of_ble_eq_true rfl, Nat.le_of_ble_eq_true rfl⟩ rfl (Nat.le_of_ble_eq_true rfl) ea51 (k_X5_at G l e51) ?_
        refine r_istore (lv' := [(6, vI v51), (0, vR (some this)), (2, vR x2), (4, vI x4), (5, vI x5)]) dX10_judge_54 (Nat.le_of_ble_eq_true rfl) rfl ?_
        refine r_iload 0 dX10_judge_56 rfl ?_
        refine r_iload 3 dX10_judge_58 rfl ?_
        refine r_icmp_eq (tgt := 80) dX10_judge_60 (by decide) (fun c60 => ?_) (fun c60 => ?_)
        · replace hf := (if_pos c60).symm.trans hf
          exact r_sub [1, 2, 3, 4] rfl (t_X10_judge_80 G l _ _ (f_X10_judge_32 h this n) ih _ _ _ _ hf)
        · replace hf := (if_neg c60).symm.trans hf
          refine r_iload 0 dX10_judge_63 rfl ?_
          refine r_aload_n 1 dX10_judge_65 rfl ?_
          obtain ⟨v66, e66, hf⟩ := ob hf
          refine r_get dX10_judge_66 fl_10_0 kw_1_121 (Or.inl rfl) (gR_sp e66) ?_
          refine r_iload 4 dX10_judge_69 rfl ?_
          obtain ⟨a71, ea71, hf⟩ := ob hf
          obtain ⟨v71, e71, hf⟩ := ob hf
          refine r_callV (y := yX8_numberAt) (ci := 8) (avs := [vI x5]) dX10_judge_71 rfl kw_2_110 kw_1_203 kw_1_204 kw_1_2 kw_1_205 oky_X8_numberAt ⟨Nat.le_of_ble_eq_true rfl, Nat.le_of_ble_eq_true rfl⟩ rfl (Nat.le_of_ble_eq_true rfl) ea71 (k_X8_numberAt G l e71) ?_
          refine r_icmp_eq (tgt := 80) dX10_judge_74 (by decide) (fun c74 => ?_) (fun c74 => ?_)
          · replace hf := (if_pos c74).symm.trans hf
            exact r_sub [1, 2, 3, 4] rfl (t_X10_judge_80 G l _ _ (f_X10_judge_32 h this n) ih _ _ _ _ hf)
          · replace hf := (if_neg c74).symm.trans hf
            refine r_iload 4 dX10_judge_77 rfl ?_
            have hf := Option.some.inj hf
            subst hf
            exact r_iret rfl dX10_judge_79
def f_X10_judge (h : Hp) (this : Nat) (x1 : Int32) : Option Int32 :=
    (rcv h (some this) 10).bind fun a2 =>
    (f_X10_shelfAt h a2 x1).bind fun v2 =>
    if v2 = none then
      some (-1 : Int32)
    else
      (rcv h v2 5).bind fun a13 =>
      (f_X5_refusalAsRow h a13).bind fun v13 =>
      if v13 = 0 then
        (rcv h v2 5).bind fun a24 =>
        (f_X5_leastOfSort h a24).bind fun v24 =>
        f_X10_judge_32 h this 10000 v2 v24 (0 : Int32)
      else
        some v13
set_option maxRecDepth 100000 in
set_option maxHeartbeats 4000000 in
theorem k_X10_judge (G : Gx) (l : Launch) {h : Hp} {this : Nat} {x1 : Int32} {r : Int32} (hf : f_X10_judge h this x1 = some r) : KM l yX10_judge (.code yX10_judge cX10_judge 7 (some .int) :: wsK) 2 42 G [vR (some this), vI x1] h (some (vI r)) h := by
  refine r_entry (ctor := false) (own := RX10) (by decide +kernel) rfl (fun q => by cases q) (Nat.le_of_ble_eq_true rfl) ?_
  show RJ G l M_X10_judge (some (vI r)) h 0 [(0, vR (some this)), (1, vI x1)] [] h
  unfold f_X10_judge at hf
  refine r_aload_n 0 dX10_judge_0 rfl ?_
  refine r_iload_n 1 dX10_judge_1 rfl ?_
  obtain ⟨a2, ea2, hf⟩ := ob hf
  obtain ⟨v2, e2, hf⟩ := ob hf
  refine r_callV (y := yX10_shelfAt) (ci := 10) (avs := [vI x1]) dX10_judge_2 rfl kw_1_141 kw_1_143 kw_0_0 kw_1_1 kw_1_144 oky_X10_shelfAt ⟨Nat.le_of_ble_eq_true rfl, Nat.le_of_ble_eq_true rfl⟩ rfl (Nat.le_of_ble_eq_true rfl) ea2 (k_X10_shelfAt G l e2) ?_
  refine r_astore_n (lv' := [(2, vR v2), (0, vR (some this)), (1, vI x1)]) dX10_judge_5 (Nat.le_of_ble_eq_true rfl) rfl ?_
  refine r_aload_n 0 dX10_judge_6 rfl ?_
  refine r_ifnonnull (tgt := 12) dX10_judge_7 (by decide) (fun c7 => ?_) (fun c7 => ?_)
  · replace hf := (if_pos c7).symm.trans hf
    refine r_iconst (x := (-1 : Int32)) dX10_judge_10 (by decide) ?_
    have hf := Option.some.inj hf
    subst hf
    exact r_iret rfl dX10_judge_11
  · replace hf := (if_neg c7).symm.trans hf
    refine r_aload_n 0 dX10_judge_12 rfl ?_
    obtain ⟨a13, ea13, hf⟩ := ob hf
    obtain ⟨v13, e13, hf⟩ := ob hf
    refine r_callV (y := yX5_refusalAsRow) (ci := 5) (avs := []) dX10_judge_13 rfl kw_3_48 kw_3_49 kw_3_50 kw_1_4 kw_3_51 oky_X5_refusalAsRow ⟨Nat.le_of_ble_eq_true rfl, Nat.le_of_ble_eq_true rfl⟩ rfl (Nat.le_of_ble_eq_true rfl) ea13 (k_X5_refusalAsRow G l e13) ?_
    refine r_istore_n (lv' := [(3, vI v13), (2, vR v2), (0, vR (some this)), (1, vI x1)]) dX10_judge_16 (Nat.le_of_ble_eq_true rfl) rfl ?_
    refine r_iload_n 0 dX10_judge_17 rfl ?_
    refine r_if_eq (tgt := 23) dX10_judge_18 (by decide) (fun c18 => ?_) (fun c18 => ?_)
    · replace hf := (if_pos c18).symm.trans hf
      refine r_aload_n 1 dX10_judge_23 rfl ?_
      obtain ⟨a24, ea24, hf⟩ := ob hf
      obtain ⟨v24, e24, hf⟩ := ob hf
      refine r_callV (y := yX5_leastOfSort) (ci := 5) (avs := []) dX10_judge_24 rfl kw_3_56 kw_3_57 kw_3_58 kw_1_4 kw_3_59 oky_X5_leastOfSort ⟨Nat.le_of_ble_eq_true rfl, Nat.le_of_ble_eq_true rfl⟩ rfl (Nat.le_of_ble_eq_true rfl) ea24 (k_X5_leastOfSort G l e24) ?_
      refine r_istore (lv' := [(4, vI v24), (3, vI v13), (2, vR v2), (0, vR (some this)), (1, vI x1)]) dX10_judge_27 (Nat.le_of_ble_eq_true rfl) rfl ?_
      refine r_iconst (x := (0 : Int32)) dX10_judge_29 (by decide) ?_
      refine r_istore (lv' := [(5, vI (0 : Int32)), (4, vI v24), (3, vI v13), (2, vR v2), (0, vR (some this)), (1, vI x1)]) dX10_judge_30 (Nat.le_of_ble_eq_true rfl) rfl ?_
      exact r_sub [4, 3, 1, 0] rfl (t_X10_judge_32 G l _ _ _ _ _ _ _ hf)
    · replace hf := (if_neg c18).symm.trans hf
      refine r_iload_n 0 dX10_judge_21 rfl ?_
      have hf := Option.some.inj hf
      subst hf
      exact r_iret rfl dX10_judge_22
/-! ===== NumberedByAge.keep(IIII)I ===== -/
abbrev M_X10_keep : Mx := (cX10_keep, 7, RX10, (false, []), (some .int), 5, 107)
def f_X10_keep (h : Hp) (this : Nat) (x1 : Int32) (x2 : Int32) (x3 : Int32) (x4 : Int32) : Option (Int32 × Hp) :=
    (rcv h (some this) 10).bind fun a2 =>
    (f_X10_shelfAt h a2 x1).bind fun v2 =>
    if v2 = none then
      some ((-1 : Int32), h)
    else
      if x2 < 0 then
        some ((-1 : Int32), h)
      else
        if x2 ≤ (1 : Int32) then
          if x2 = 0 then
            (rcv h v2 5).bind fun a30 =>
            (f_X5_hold h a30 none).bind fun h30 =>
            some ((0 : Int32), h30)
          else
            (f_X10_lawOf h x3 x4).bind fun q38 =>
            if q38.1 = none then
              some ((-1 : Int32), q38.2)
            else
              (rcv q38.2 v2 5).bind fun a54 =>
              (f_X5_hold q38.2 a54 q38.1).bind fun h54 =>
              some ((0 : Int32), h54)
        else
          some ((-1 : Int32), h)
set_option maxRecDepth 100000 in
set_option maxHeartbeats 4000000 in
theorem k_X10_keep (G : Gx) (l : Launch) {h : Hp} {this : Nat} {x1 : Int32} {x2 : Int32} {x3 : Int32} {x4 : Int32} {r : (Int32 × Hp)} (hf : f_X10_keep h this x1 x2 x3 x4 = some r) : KM l yX10_keep (.code yX10_keep cX10_keep 7 (some .int) :: wsK) 5 107 G [vR (some this), vI x1, vI x2, vI x3, vI x4] h (some (vI r.1)) r.2 := by
  refine r_entry (ctor := false) (own := RX10) (by decide +kernel) rfl (fun q => by cases q) (Nat.le_of_ble_eq_true rfl) ?_
  show RJ G l M_X10_keep (some (vI r.1)) r.2 0 [(0, vR (some this)), (1, vI x1), (2, vI x2), (3, vI x3), (4, vI x4)] [] h
  unfold f_X10_keep at hf
  refine r_aload_n 0 dX10_keep_0 rfl ?_
  refine r_iload_n 1 dX10_keep_1 rfl ?_
  obtain ⟨a2, ea2, hf⟩ := ob hf
  obtain ⟨v2, e2, hf⟩ := ob hf
  refine r_callV (y := yX10_shelfAt) (ci := 10) (avs := [vI x1]) dX10_keep_2 rfl kw_1_141 kw_1_143 kw_0_0 kw_1_1 kw_1_144 oky_X10_shelfAt ⟨Nat.le_of_ble_eq_true rfl, Nat.le_of_ble_eq_true rfl⟩ rfl (Nat.le_of_ble_eq_true rfl) ea2 (k_X10_shelfAt G l e2) ?_
  refine r_astore (lv' := [(5, vR v2), (0, vR (some this)), (1, vI x1), (2, vI x2), (3, vI x3), (4, vI x4)]) dX10_keep_5 (Nat.le_of_ble_eq_true rfl) rfl ?_
  refine r_aload 0 dX10_keep_7 rfl ?_
  refine r_ifnull (tgt := 21) dX10_keep_9 (by decide) (fun c9 => ?_) (fun c9 => ?_)
  · replace hf := (if_pos c9).symm.trans hf
    refine r_iconst (x := (-1 : Int32)) dX10_keep_21 (by decide) ?_
    have hf := Option.some.inj hf
    subst hf
    exact r_iret rfl dX10_keep_22
  · replace hf := (if_neg c9).symm.trans hf
    refine r_iload_n 3 dX10_keep_12 rfl ?_
    refine r_if_lt (tgt := 21) dX10_keep_13 (by decide) (fun c13 => ?_) (fun c13 => ?_)
    · replace hf := (if_pos c13).symm.trans hf
      refine r_iconst (x := (-1 : Int32)) dX10_keep_21 (by decide) ?_
      have hf := Option.some.inj hf
      subst hf
      exact r_iret rfl dX10_keep_22
    · replace hf := (if_neg c13).symm.trans hf
      refine r_iload_n 3 dX10_keep_16 rfl ?_
      refine r_iconst (x := (1 : Int32)) dX10_keep_17 (by decide) ?_
      refine r_icmp_le (tgt := 23) dX10_keep_18 (by decide) (fun c18 => ?_) (fun c18 => ?_)
      · replace hf := (if_pos c18).symm.trans hf
        refine r_iload_n 3 dX10_keep_23 rfl ?_
        refine r_if_ne (tgt := 35) dX10_keep_24 (by decide) (fun c24 => ?_) (fun c24 => ?_)
        · replace hf := (if_pos c24).symm.trans hf
          refine r_aload 0 dX10_keep_27 rfl ?_
          refine r_null dX10_keep_29 ?_
          obtain ⟨a30, ea30, hf⟩ := ob hf
          obtain ⟨h30, e30, hf⟩ := ob hf
          refine r_callV (y := yX5_hold) (ci := 5) (avs := [vR none]) dX10_keep_30 rfl kw_3_77 kw_3_78 kw_3_79 kw_1_4 kw_3_80 oky_X5_hold ⟨Nat.le_of_ble_eq_true rfl, Nat.le_of_ble_eq_true rfl⟩ rfl (Nat.le_of_ble_eq_true rfl) ea30 (k_X5_hold G l e30) ?_
          refine r_iconst (x := (0 : Int32)) dX10_keep_33 (by decide) ?_
          have hf := Option.some.inj hf
          subst hf
          exact r_iret rfl dX10_keep_34
        · replace hf := (if_neg c24).symm.trans hf
          refine r_iload_n 4 dX10_keep_35 rfl ?_
          refine r_iload 5 dX10_keep_36 rfl ?_
          obtain ⟨q38, e38, hf⟩ := ob hf
          refine r_callS (y := yX10_lawOf) (avs := [vI x3, vI x4]) dX10_keep_38 kw_2_25 kw_2_26 kw_1_1 kw_2_27 oky_X10_lawOf ⟨Nat.le_of_ble_eq_true rfl, Nat.le_of_ble_eq_true rfl⟩ rfl (Nat.le_of_ble_eq_true rfl) (k_X10_lawOf G l e38) ?_
          refine r_astore (lv' := [(6, vR q38.1), (5, vR v2), (0, vR (some this)), (1, vI x1), (2, vI x2), (3, vI x3), (4, vI x4)]) dX10_keep_41 (Nat.le_of_ble_eq_true rfl) rfl ?_
          refine r_aload 0 dX10_keep_43 rfl ?_
          refine r_ifnonnull (tgt := 50) dX10_keep_45 (by decide) (fun c45 => ?_) (fun c45 => ?_)
          · replace hf := (if_pos c45).symm.trans hf
            refine r_iconst (x := (-1 : Int32)) dX10_keep_48 (by decide) ?_
            have hf := Option.some.inj hf
            subst hf
            exact r_iret rfl dX10_keep_49
          · replace hf := (if_neg c45).symm.trans hf
            refine r_aload 1 dX10_keep_50 rfl ?_
            refine r_aload 0 dX10_keep_52 rfl ?_
            obtain ⟨a54, ea54, hf⟩ := ob hf
            obtain ⟨h54, e54, hf⟩ := ob hf
            refine r_callV (y := yX5_hold) (ci := 5) (avs := [vR q38.1]) dX10_keep_54 rfl kw_3_77 kw_3_78 kw_3_79 kw_1_4 kw_3_80 oky_X5_hold ⟨Nat.le_of_ble_eq_true rfl, Nat.le_of_ble_eq_true rfl⟩ rfl (Nat.le_of_ble_eq_true rfl) ea54 (k_X5_hold G l e54) ?_
            refine r_iconst (x := (0 : Int32)) dX10_keep_57 (by decide) ?_
            have hf := Option.some.inj hf
            subst hf
            exact r_iret rfl dX10_keep_58
      · replace hf := (if_neg c18).symm.trans hf
        refine r_iconst (x := (-1 : Int32)) dX10_keep_21 (by decide) ?_
        have hf := Option.some.inj hf
        subst hf
        exact r_iret rfl dX10_keep_22
