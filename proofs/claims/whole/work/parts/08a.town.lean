/-! ===== NumberedByAge.build(II)I ===== -/
abbrev M_X10_build : Mx := (cX10_build, 3, RX10, (false, []), (some .int), 4, 92)
def f_X10_build (h : Hp) (this : Nat) (x1 : Int32) (x2 : Int32) : Option (Int32 × Hp) :=
    (gR h (some this) [10] 0).bind fun v1 =>
    (rcv h v1 8).bind fun a6 =>
    (f_X8_raise h a6 x1 x2).bind fun q6 =>
    some (q6.1, q6.2)
set_option maxRecDepth 100000 in
set_option maxHeartbeats 4000000 in
theorem k_X10_build (G : Gx) (l : Launch) {h : Hp} {this : Nat} {x1 : Int32} {x2 : Int32} {r : (Int32 × Hp)} (hf : f_X10_build h this x1 x2 = some r) : KM l yX10_build (.code yX10_build cX10_build 3 (some .int) :: wsK) 4 92 G [vR (some this), vI x1, vI x2] h (some (vI r.1)) r.2 := by
  refine r_entry (ctor := false) (own := RX10) (by decide +kernel) rfl (fun q => by cases q) (Nat.le_of_ble_eq_true rfl) ?_
  show RJ G l M_X10_build (some (vI r.1)) r.2 0 [(0, vR (some this)), (1, vI x1), (2, vI x2)] [] h
  unfold f_X10_build at hf
  refine r_aload_n 0 dX10_build_0 rfl ?_
  obtain ⟨v1, e1, hf⟩ := ob hf
  refine r_get dX10_build_1 fl_10_0 kw_1_121 (Or.inl rfl) (gR_sp e1) ?_
  refine r_iload_n 1 dX10_build_4 rfl ?_
  refine r_iload_n 2 dX10_build_5 rfl ?_
  obtain ⟨a6, ea6, hf⟩ := ob hf
  obtain ⟨q6, e6, hf⟩ := ob hf
  refine r_callV (y := yX8_raise) (ci := 8) (avs := [vI x1, vI x2]) dX10_build_6 rfl kw_1_188 kw_1_189 kw_1_190 kw_1_2 kw_1_191 oky_X8_raise ⟨Nat.le_of_ble_eq_true rfl, Nat.le_of_ble_eq_true rfl⟩ rfl (Nat.le_of_ble_eq_true rfl) ea6 (k_X8_raise G l e6) ?_
  have hf := Option.some.inj hf
  subst hf
  exact r_iret rfl dX10_build_9
/-! ===== NumberedByAge.burn(I)I ===== -/
abbrev M_X10_burn : Mx := (cX10_burn, 2, RX10, (false, []), (some .int), 4, 84)
def f_X10_burn (h : Hp) (this : Nat) (x1 : Int32) : Option (Int32 × Hp) :=
    (gR h (some this) [10] 0).bind fun v1 =>
    (rcv h v1 8).bind fun a5 =>
    (f_X8_raze h a5 x1).bind fun q5 =>
    some (q5.1, q5.2)
set_option maxRecDepth 100000 in
set_option maxHeartbeats 4000000 in
theorem k_X10_burn (G : Gx) (l : Launch) {h : Hp} {this : Nat} {x1 : Int32} {r : (Int32 × Hp)} (hf : f_X10_burn h this x1 = some r) : KM l yX10_burn (.code yX10_burn cX10_burn 2 (some .int) :: wsK) 4 84 G [vR (some this), vI x1] h (some (vI r.1)) r.2 := by
  refine r_entry (ctor := false) (own := RX10) (by decide +kernel) rfl (fun q => by cases q) (Nat.le_of_ble_eq_true rfl) ?_
  show RJ G l M_X10_burn (some (vI r.1)) r.2 0 [(0, vR (some this)), (1, vI x1)] [] h
  unfold f_X10_burn at hf
  refine r_aload_n 0 dX10_burn_0 rfl ?_
  obtain ⟨v1, e1, hf⟩ := ob hf
  refine r_get dX10_burn_1 fl_10_0 kw_1_121 (Or.inl rfl) (gR_sp e1) ?_
  refine r_iload_n 1 dX10_burn_4 rfl ?_
  obtain ⟨a5, ea5, hf⟩ := ob hf
  obtain ⟨q5, e5, hf⟩ := ob hf
  refine r_callV (y := yX8_raze) (ci := 8) (avs := [vI x1]) dX10_burn_5 rfl kw_2_21 kw_2_22 kw_2_23 kw_1_2 kw_2_24 oky_X8_raze ⟨Nat.le_of_ble_eq_true rfl, Nat.le_of_ble_eq_true rfl⟩ rfl (Nat.le_of_ble_eq_true rfl) ea5 (k_X8_raze G l e5) ?_
  have hf := Option.some.inj hf
  subst hf
  exact r_iret rfl dX10_burn_8
/-! ===== NumberedByAge.lawOf(II)LNumberedByAge$Law; ===== -/
abbrev M_X10_lawOf : Mx := (cX10_lawOf, 2, RX10, (false, []), (some (.object "NumberedByAge$Law")), 4, 86)
def f_X10_lawOf (h : Hp) (x0 : Int32) (x1 : Int32) : Option (Option Nat × Hp) :=
    if x1 < 0 then
      some (none, h)
    else
      if x1 ≤ (9 : Int32) then
        if x0 = (0 : Int32) then
          (f_X3_init (h ++ [eO 3 [vI 0, vI 0]]) h.length x0 x1).bind fun h66 =>
          some ((some h.length), h66)
        else
        if x0 = (1 : Int32) then
          (f_X0_init (h ++ [eO 0 [vI 0, vI 0]]) h.length x0 x1).bind fun h76 =>
          some ((some h.length), h76)
        else
        if x0 = (2 : Int32) then
          (f_X4_init (h ++ [eO 4 [vI 0, vI 0]]) h.length x0 x1).bind fun h86 =>
          some ((some h.length), h86)
        else
        if x0 = (3 : Int32) then
          (f_X1_init (h ++ [eO 1 [vI 0, vI 0]]) h.length x0 x1).bind fun h96 =>
          some ((some h.length), h96)
        else
        if x0 = (4 : Int32) then
          (f_X9_init (h ++ [eO 9 [vI 0, vI 0]]) h.length x0 x1).bind fun h106 =>
          some ((some h.length), h106)
        else
        if x0 = (5 : Int32) then
          (f_X7_init (h ++ [eO 7 [vI 0, vI 0]]) h.length x0 x1).bind fun h116 =>
          some ((some h.length), h116)
        else
        if x0 = (6 : Int32) then
          (f_X2_init (h ++ [eO 2 [vI 0, vI 0]]) h.length x0 x1).bind fun h126 =>
          some ((some h.length), h126)
        else
        if x0 = (7 : Int32) then
          (f_X6_init (h ++ [eO 6 [vI 0, vI 0]]) h.length x0 x1).bind fun h136 =>
          some ((some h.length), h136)
        else
          some (none, h)
      else
        some (none, h)
set_option maxRecDepth 100000 in
set_option maxHeartbeats 4000000 in
theorem k_X10_lawOf (G : Gx) (l : Launch) {h : Hp} {x0 : Int32} {x1 : Int32} {r : (Option Nat × Hp)} (hf : f_X10_lawOf h x0 x1 = some r) : KM l yX10_lawOf (.code yX10_lawOf cX10_lawOf 2 (some (.object "NumberedByAge$Law")) :: wsK) 4 86 G [vI x0, vI x1] h (some (vR r.1)) r.2 := by
  refine r_entry (ctor := false) (own := RX10) (by decide +kernel) rfl (fun q => by cases q) (Nat.le_of_ble_eq_true rfl) ?_
  show RJ G l M_X10_lawOf (some (vR r.1)) r.2 0 [(0, vI x0), (1, vI x1)] [] h
  unfold f_X10_lawOf at hf
  refine r_iload_n 1 dX10_lawOf_0 rfl ?_
  refine r_if_lt (tgt := 10) dX10_lawOf_1 (by decide) (fun c1 => ?_) (fun c1 => ?_)
  · replace hf := (if_pos c1).symm.trans hf
    refine r_null dX10_lawOf_10 ?_
    have hf := Option.some.inj hf
    subst hf
    exact r_aret rfl dX10_lawOf_11
  · replace hf := (if_neg c1).symm.trans hf
    refine r_iload_n 1 dX10_lawOf_4 rfl ?_
    refine r_bipush (x := (9 : Int32)) dX10_lawOf_5 (by decide) ?_
    refine r_icmp_le (tgt := 12) dX10_lawOf_7 (by decide) (fun c7 => ?_) (fun c7 => ?_)
    · replace hf := (if_pos c7).symm.trans hf
      refine r_iload_n 0 dX10_lawOf_12 rfl ?_
      by_cases c13_0 : x0 = (0 : Int32)
      · replace hf := (if_pos c13_0).symm.trans hf
        refine r_tabIn (off := 47) (tgt := 60) dX10_lawOf_13 (by rw [c13_0]; decide +kernel) (by rw [c13_0]; decide +kernel) (by rw [c13_0]; decide +kernel) (by decide) ?_
        refine r_new (ci := 3) (fs := [vI 0, vI 0]) tyX3 dX10_lawOf_60 rfl ic_3 tyX3_ok kw_2_28 kw_1_37 kw_1_3 rfl (dv_3 _) ?_
        refine r_dup dX10_lawOf_63 rfl ?_
        refine r_iload_n 0 dX10_lawOf_64 rfl ?_
        refine r_iload_n 1 dX10_lawOf_65 rfl ?_
        obtain ⟨h66, e66, hf⟩ := ob hf
        refine r_callI (y := yX3_init) (avs := [vI x0, vI x1]) dX10_lawOf_66 kw_2_29 kw_1_39 kw_1_3 kw_1_40 rfl oky_X3_init ⟨Nat.le_of_ble_eq_true rfl, Nat.le_of_ble_eq_true rfl⟩ rfl (Nat.le_of_ble_eq_true rfl) (k_X3_init G l e66) ?_
        have hf := Option.some.inj hf
        subst hf
        exact r_aret rfl dX10_lawOf_69
      · replace hf := (if_neg c13_0).symm.trans hf
        by_cases c13_1 : x0 = (1 : Int32)
        · replace hf := (if_pos c13_1).symm.trans hf
          refine r_tabIn (off := 57) (tgt := 70) dX10_lawOf_13 (by rw [c13_1]; decide +kernel) (by rw [c13_1]; decide +kernel) (by rw [c13_1]; decide +kernel) (by decide) ?_
          refine r_new (ci := 0) (fs := [vI 0, vI 0]) tyX0 dX10_lawOf_70 rfl ic_0 tyX0_ok kw_2_30 kw_2_31 kw_1_8 rfl (dv_0 _) ?_
          refine r_dup dX10_lawOf_73 rfl ?_
          refine r_iload_n 0 dX10_lawOf_74 rfl ?_
          refine r_iload_n 1 dX10_lawOf_75 rfl ?_
          obtain ⟨h76, e76, hf⟩ := ob hf
          refine r_callI (y := yX0_init) (avs := [vI x0, vI x1]) dX10_lawOf_76 kw_2_32 kw_2_33 kw_1_8 kw_2_34 rfl oky_X0_init ⟨Nat.le_of_ble_eq_true rfl, Nat.le_of_ble_eq_true rfl⟩ rfl (Nat.le_of_ble_eq_true rfl) (k_X0_init G l e76) ?_
          have hf := Option.some.inj hf
          subst hf
          exact r_aret rfl dX10_lawOf_79
        · replace hf := (if_neg c13_1).symm.trans hf
          by_cases c13_2 : x0 = (2 : Int32)
          · replace hf := (if_pos c13_2).symm.trans hf
            refine r_tabIn (off := 67) (tgt := 80) dX10_lawOf_13 (by rw [c13_2]; decide +kernel) (by rw [c13_2]; decide +kernel) (by rw [c13_2]; decide +kernel) (by decide) ?_
            refine r_new (ci := 4) (fs := [vI 0, vI 0]) tyX4 dX10_lawOf_80 rfl ic_4 tyX4_ok kw_2_39 kw_2_40 kw_1_9 rfl (dv_4 _) ?_
            refine r_dup dX10_lawOf_83 rfl ?_
            refine r_iload_n 0 dX10_lawOf_84 rfl ?_
            refine r_iload_n 1 dX10_lawOf_85 rfl ?_
            obtain ⟨h86, e86, hf⟩ := ob hf
            refine r_callI (y := yX4_init) (avs := [vI x0, vI x1]) dX10_lawOf_86 kw_2_41 kw_2_42 kw_1_9 kw_2_43 rfl oky_X4_init ⟨Nat.le_of_ble_eq_true rfl, Nat.le_of_ble_eq_true rfl⟩ rfl (Nat.le_of_ble_eq_true rfl) (k_X4_init G l e86) ?_
            have hf := Option.some.inj hf
            subst hf
            exact r_aret rfl dX10_lawOf_89
          · replace hf := (if_neg c13_2).symm.trans hf
            by_cases c13_3 : x0 = (3 : Int32)
            · replace hf := (if_pos c13_3).symm.trans hf
              refine r_tabIn (off := 77) (tgt := 90) dX10_lawOf_13 (by rw [c13_3]; decide +kernel) (by rw [c13_3]; decide +kernel) (by rw [c13_3]; decide +kernel) (by decide) ?_
              refine r_new (ci := 1) (fs := [vI 0, vI 0]) tyX1 dX10_lawOf_90 rfl ic_1 tyX1_ok kw_2_48 kw_2_49 kw_1_10 rfl (dv_1 _) ?_
              refine r_dup dX10_lawOf_93 rfl ?_
              refine r_iload_n 0 dX10_lawOf_94 rfl ?_
              refine r_iload_n 1 dX10_lawOf_95 rfl ?_
              obtain ⟨h96, e96, hf⟩ := ob hf
              refine r_callI (y := yX1_init) (avs := [vI x0, vI x1]) dX10_lawOf_96 kw_2_50 kw_2_51 kw_1_10 kw_2_52 rfl oky_X1_init ⟨Nat.le_of_ble_eq_true rfl, Nat.le_of_ble_eq_true rfl⟩ rfl (Nat.le_of_ble_eq_true rfl) (k_X1_init G l e96) ?_
              have hf := Option.some.inj hf
              subst hf
              exact r_aret rfl dX10_lawOf_99
            · replace hf := (if_neg c13_3).symm.trans hf
              by_cases c13_4 : x0 = (4 : Int32)
              · replace hf := (if_pos c13_4).symm.trans hf
                refine r_tabIn (off := 87) (tgt := 100) dX10_lawOf_13 (by rw [c13_4]; decide +kernel) (by rw [c13_4]; decide +kernel) (by rw [c13_4]; decide +kernel) (by decide) ?_
                refine r_new (ci := 9) (fs := [vI 0, vI 0]) tyX9 dX10_lawOf_100 rfl ic_9 tyX9_ok kw_2_56 kw_2_57 kw_1_11 rfl (dv_9 _) ?_
                refine r_dup dX10_lawOf_103 rfl ?_
                refine r_iload_n 0 dX10_lawOf_104 rfl ?_
                refine r_iload_n 1 dX10_lawOf_105 rfl ?_
                obtain ⟨h106, e106, hf⟩ := ob hf
                refine r_callI (y := yX9_init) (avs := [vI x0, vI x1]) dX10_lawOf_106 kw_2_58 kw_2_59 kw_1_11 kw_2_60 rfl oky_X9_init ⟨Nat.le_of_ble_eq_true rfl, Nat.le_of_ble_eq_true rfl⟩ rfl (Nat.le_of_ble_eq_true rfl) (k_X9_init G l e106) ?_
                have hf := Option.some.inj hf
                subst hf
                exact r_aret rfl dX10_lawOf_109
              · replace hf := (if_neg c13_4).symm.trans hf
                by_cases c13_5 : x0 = (5 : Int32)
                · replace hf := (if_pos c13_5).symm.trans hf
                  refine r_tabIn (off := 97) (tgt := 110) dX10_lawOf_13 (by rw [c13_5]; decide +kernel) (by rw [c13_5]; decide +kernel) (by rw [c13_5]; decide +kernel) (by decide) ?_
                  refine r_new (ci := 7) (fs := [vI 0, vI 0]) tyX7 dX10_lawOf_110 rfl ic_7 tyX7_ok kw_2_64 kw_2_65 kw_1_12 rfl (dv_7 _) ?_
                  refine r_dup dX10_lawOf_113 rfl ?_
                  refine r_iload_n 0 dX10_lawOf_114 rfl ?_
                  refine r_iload_n 1 dX10_lawOf_115 rfl ?_
                  obtain ⟨h116, e116, hf⟩ := ob hf
                  refine r_callI (y := yX7_init) (avs := [vI x0, vI x1]) dX10_lawOf_116 kw_2_66 kw_2_67 kw_1_12 kw_2_68 rfl oky_X7_init ⟨Nat.le_of_ble_eq_true rfl, Nat.le_of_ble_eq_true rfl⟩ rfl (Nat.le_of_ble_eq_true rfl) (k_X7_init G l e116) ?_
                  have hf := Option.some.inj hf
                  subst hf
                  exact r_aret rfl dX10_lawOf_119
                · replace hf := (if_neg c13_5).symm.trans hf
                  by_cases c13_6 : x0 = (6 : Int32)
                  · replace hf := (if_pos c13_6).symm.trans hf
                    refine r_tabIn (off := 107) (tgt := 120) dX10_lawOf_13 (by rw [c13_6]; decide +kernel) (by rw [c13_6]; decide +kernel) (by rw [c13_6]; decide +kernel) (by decide) ?_
                    refine r_new (ci := 2) (fs := [vI 0, vI 0]) tyX2 dX10_lawOf_120 rfl ic_2 tyX2_ok kw_2_72 kw_2_73 kw_1_13 rfl (dv_2 _) ?_
                    refine r_dup dX10_lawOf_123 rfl ?_
                    refine r_iload_n 0 dX10_lawOf_124 rfl ?_
                    refine r_iload_n 1 dX10_lawOf_125 rfl ?_
                    obtain ⟨h126, e126, hf⟩ := ob hf
                    refine r_callI (y := yX2_init) (avs := [vI x0, vI x1]) dX10_lawOf_126 kw_2_74 kw_2_75 kw_1_13 kw_2_76 rfl oky_X2_init ⟨Nat.le_of_ble_eq_true rfl, Nat.le_of_ble_eq_true rfl⟩ rfl (Nat.le_of_ble_eq_true rfl) (k_X2_init G l e126) ?_
                    have hf := Option.some.inj hf
                    subst hf
                    exact r_aret rfl dX10_lawOf_129
                  · replace hf := (if_neg c13_6).symm.trans hf
                    by_cases c13_7 : x0 = (7 : Int32)
                    · replace hf := (if_pos c13_7).symm.trans hf
                      refine r_tabIn (off := 117) (tgt := 130) dX10_lawOf_13 (by rw [c13_7]; decide +kernel) (by rw [c13_7]; decide +kernel) (by rw [c13_7]; decide +kernel) (by decide) ?_
                      refine r_new (ci := 6) (fs := [vI 0, vI 0]) tyX6 dX10_lawOf_130 rfl ic_6 tyX6_ok kw_2_80 kw_2_81 kw_1_14 rfl (dv_6 _) ?_
                      refine r_dup dX10_lawOf_133 rfl ?_
                      refine r_iload_n 0 dX10_lawOf_134 rfl ?_
                      refine r_iload_n 1 dX10_lawOf_135 rfl ?_
                      obtain ⟨h136, e136, hf⟩ := ob hf
                      refine r_callI (y := yX6_init) (avs := [vI x0, vI x1]) dX10_lawOf_136 kw_2_82 kw_2_83 kw_1_14 kw_2_84 rfl oky_X6_init ⟨Nat.le_of_ble_eq_true rfl, Nat.le_of_ble_eq_true rfl⟩ rfl (Nat.le_of_ble_eq_true rfl) (k_X6_init G l e136) ?_
                      have hf := Option.some.inj hf
                      subst hf
                      exact r_aret rfl dX10_lawOf_139
                    · replace hf := (if_neg c13_7).symm.trans hf
                      refine r_tabOut (tgt := 140) dX10_lawOf_13 (by have g0 := lv_neT (k := (0 : Int32)) c13_0 (by decide : ((0 : Int32)).toInt = 0); have g1 := lv_neT (k := (1 : Int32)) c13_1 (by decide : ((1 : Int32)).toInt = 1); have g2 := lv_neT (k := (2 : Int32)) c13_2 (by decide : ((2 : Int32)).toInt = 2); have g3 := lv_neT (k := (3 : Int32)) c13_3 (by decide : ((3 : Int32)).toInt = 3); have g4 := lv_neT (k := (4 : Int32)) c13_4 (by decide : ((4 : Int32)).toInt = 4); have g5 := lv_neT (k := (5 : Int32)) c13_5 (by decide : ((5 : Int32)).toInt = 5); have g6 := lv_neT (k := (6 : Int32)) c13_6 (by decide : ((6 : Int32)).toInt = 6); have g7 := lv_neT (k := (7 : Int32)) c13_7 (by decide : ((7 : Int32)).toInt = 7); omega) (by decide) ?_
                      refine r_null dX10_lawOf_140 ?_
                      have hf := Option.some.inj hf
                      subst hf
                      exact r_aret rfl dX10_lawOf_141
    · replace hf := (if_neg c7).symm.trans hf
      refine r_null dX10_lawOf_10 ?_
      have hf := Option.some.inj hf
      subst hf
      exact r_aret rfl dX10_lawOf_11
/-! ===== NumberedByAge.byLaw(III)I ===== -/
abbrev M_X10_byLaw : Mx := (cX10_byLaw, 5, RX10, (false, []), (some .int), 5, 115)
def f_X10_byLaw (h : Hp) (this : Nat) (x1 : Int32) (x2 : Int32) (x3 : Int32) : Option (Int32 × Hp) :=
    (f_X10_lawOf h x2 x3).bind fun q2 =>
    (f_X10_isPlot q2.2 x1).bind fun v8 =>
    if v8 = 0 then
      some ((-1 : Int32), q2.2)
    else
      if q2.1 = none then
        some ((-1 : Int32), q2.2)
      else
        (gR q2.2 (some this) [10] 0).bind fun v22 =>
        (rcv q2.2 v22 8).bind fun a26 =>
        (f_X8_hasHouse q2.2 a26 x1).bind fun v26 =>
        if v26 = 0 then
          some ((-4 : Int32), q2.2)
        else
          (gR q2.2 (some this) [10] 1).bind fun v36 =>
          (gR q2.2 (some this) [10] 0).bind fun v40 =>
          (rcv q2.2 v36 8).bind fun a45 =>
          (f_X8_goThrough q2.2 a45 v40 q2.1).bind fun h45 =>
          (gR h45 (some this) [10] 1).bind fun v49 =>
          (rcv h45 v49 8).bind fun a53 =>
          (f_X8_numberAt h45 a53 x1).bind fun v53 =>
          some (v53, h45)
set_option maxRecDepth 100000 in
set_option maxHeartbeats 4000000 in
theorem k_X10_byLaw (G : Gx) (l : Launch) {h : Hp} {this : Nat} {x1 : Int32} {x2 : Int32} {x3 : Int32} {r : (Int32 × Hp)} (hf : f_X10_byLaw h this x1 x2 x3 = some r) : KM l yX10_byLaw (.code yX10_byLaw cX10_byLaw 5 (some .int) :: wsK) 5 115 G [vR (some this), vI x1, vI x2, vI x3] h (some (vI r.1)) r.2 := by
  refine r_entry (ctor := false) (own := RX10) (by decide +kernel) rfl (fun q => by cases q) (Nat.le_of_ble_eq_true rfl) ?_
  show RJ G l M_X10_byLaw (some (vI r.1)) r.2 0 [(0, vR (some this)), (1, vI x1), (2, vI x2), (3, vI x3)] [] h
  unfold f_X10_byLaw at hf
  refine r_iload_n 2 dX10_byLaw_0 rfl ?_
  refine r_iload_n 3 dX10_byLaw_1 rfl ?_
  obtain ⟨q2, e2, hf⟩ := ob hf
  refine r_callS (y := yX10_lawOf) (avs := [vI x2, vI x3]) dX10_byLaw_2 kw_2_25 kw_2_26 kw_1_1 kw_2_27 oky_X10_lawOf ⟨Nat.le_of_ble_eq_true rfl, Nat.le_of_ble_eq_true rfl⟩ rfl (Nat.le_of_ble_eq_true rfl) (k_X10_lawOf G l e2) ?_
  refine r_astore (lv' := [(4, vR q2.1), (0, vR (some this)), (1, vI x1), (2, vI x2), (3, vI x3)]) dX10_byLaw_5 (Nat.le_of_ble_eq_true rfl) rfl ?_
  refine r_iload_n 2 dX10_byLaw_7 rfl ?_
  obtain ⟨v8, e8, hf⟩ := ob hf
  refine r_callS (y := yX10_isPlot) (avs := [vI x1]) dX10_byLaw_8 kw_2_108 kw_1_193 kw_1_1 kw_1_194 oky_X10_isPlot ⟨Nat.le_of_ble_eq_true rfl, Nat.le_of_ble_eq_true rfl⟩ rfl (Nat.le_of_ble_eq_true rfl) (k_X10_isPlot G l e8) ?_
  refine r_if_eq (tgt := 19) dX10_byLaw_11 (by decide) (fun c11 => ?_) (fun c11 => ?_)
  · replace hf := (if_pos c11).symm.trans hf
    refine r_iconst (x := (-1 : Int32)) dX10_byLaw_19 (by decide) ?_
    have hf := Option.some.inj hf
    subst hf
    exact r_iret rfl dX10_byLaw_20
  · replace hf := (if_neg c11).symm.trans hf
    refine r_aload 0 dX10_byLaw_14 rfl ?_
    refine r_ifnonnull (tgt := 21) dX10_byLaw_16 (by decide) (fun c16 => ?_) (fun c16 => ?_)
    · replace hf := (if_pos c16).symm.trans hf
      refine r_iconst (x := (-1 : Int32)) dX10_byLaw_19 (by decide) ?_
      have hf := Option.some.inj hf
      subst hf
      exact r_iret rfl dX10_byLaw_20
    · replace hf := (if_neg c16).symm.trans hf
      refine r_aload_n 1 dX10_byLaw_21 rfl ?_
      obtain ⟨v22, e22, hf⟩ := ob hf
      refine r_get dX10_byLaw_22 fl_10_0 kw_1_121 (Or.inl rfl) (gR_sp e22) ?_
      refine r_iload_n 2 dX10_byLaw_25 rfl ?_
      obtain ⟨a26, ea26, hf⟩ := ob hf
      obtain ⟨v26, e26, hf⟩ := ob hf
      refine r_callV (y := yX8_hasHouse) (ci := 8) (avs := [vI x1]) dX10_byLaw_26 rfl kw_2_109 kw_1_199 kw_1_200 kw_1_2 kw_1_201 oky_X8_hasHouse ⟨Nat.le_of_ble_eq_true rfl, Nat.le_of_ble_eq_true rfl⟩ rfl (Nat.le_of_ble_eq_true rfl) ea26 (k_X8_hasHouse G l e26) ?_
      refine r_if_ne (tgt := 35) dX10_byLaw_29 (by decide) (fun c29 => ?_) (fun c29 => ?_)
      · replace hf := (if_pos c29).symm.trans hf
        refine r_bipush (x := (-4 : Int32)) dX10_byLaw_32 (by decide) ?_
        have hf := Option.some.inj hf
        subst hf
        exact r_iret rfl dX10_byLaw_34
      · replace hf := (if_neg c29).symm.trans hf
        refine r_aload_n 1 dX10_byLaw_35 rfl ?_
        obtain ⟨v36, e36, hf⟩ := ob hf
        refine r_get dX10_byLaw_36 fl_10_1 kw_1_122 (Or.inl rfl) (gR_sp e36) ?_
        refine r_aload_n 1 dX10_byLaw_39 rfl ?_
        obtain ⟨v40, e40, hf⟩ := ob hf
        refine r_get dX10_byLaw_40 fl_10_0 kw_1_121 (Or.inl rfl) (gR_sp e40) ?_
        refine r_aload 0 dX10_byLaw_43 rfl ?_
        obtain ⟨a45, ea45, hf⟩ := ob hf
        obtain ⟨h45, e45, hf⟩ := ob hf
        refine r_callV (y := yX8_goThrough) (ci := 8) (avs := [vR v40, vR q2.1]) dX10_byLaw_45 rfl kw_2_210 kw_2_211 kw_2_212 kw_1_2 kw_2_213 oky_X8_goThrough ⟨Nat.le_of_ble_eq_true rfl, Nat.le_of_ble_eq_true rfl⟩ rfl (Nat.le_of_ble_eq_true rfl) ea45 (k_X8_goThrough G l e45) ?_
        refine r_aload_n 1 dX10_byLaw_48 rfl ?_
        obtain ⟨v49, e49, hf⟩ := ob hf
        refine r_get dX10_byLaw_49 fl_10_1 kw_1_122 (Or.inl rfl) (gR_sp e49) ?_
        refine r_iload_n 2 dX10_byLaw_52 rfl ?_
        obtain ⟨a53, ea53, hf⟩ := ob hf
        obtain ⟨v53, e53, hf⟩ := ob hf
        refine r_callV (y := yX8_numberAt) (ci := 8) (avs := [vI x1]) dX10_byLaw_53 rfl kw_2_110 kw_1_203 kw_1_204 kw_1_2 kw_1_205 oky_X8_numberAt ⟨Nat.le_of_ble_eq_true rfl, Nat.le_of_ble_eq_true rfl⟩ rfl (Nat.le_of_ble_eq_true rfl) ea53 (k_X8_numberAt G l e53) ?_
        have hf := Option.some.inj hf
        subst hf
        exact r_iret rfl dX10_byLaw_56
/-! ===== NumberedByAge.isCarriedOut(LNumberedByAge$Shelf;I)Z ===== -/
abbrev M_X10_isCarriedOut : Mx := (cX10_isCarriedOut, 6, RX10, (false, []), (some .boolean), 5, 107)
def f_X10_isCarriedOut (h : Hp) (this : Nat) (x1 : Option Nat) (x2 : Int32) : Option (Int32 × Hp) :=
    (rcv h x1 5).bind fun a4 =>
    (f_X5_at h a4 (x2 + (1 : Int32))).bind fun v4 =>
    (rcv h x1 5).bind fun a15 =>
    (f_X5_at h a15 (x2 + (2 : Int32))).bind fun v15 =>
    (rcv h x1 5).bind fun a25 =>
    (f_X5_at h a25 x2).bind fun v25 =>
    if v25 = (98 : Int32) then
      (gR h (some this) [10] 1).bind fun v57 =>
      (rcv h x1 5).bind fun a71 =>
      (f_X5_at h a71 (x2 + (3 : Int32))).bind fun v71 =>
      (rcv h v57 8).bind fun a77 =>
      (f_X8_raise h a77 (((v4 - (48 : Int32)) * (10 : Int32)) + (v15 - (48 : Int32))) (v71 - (48 : Int32))).bind fun q77 =>
      if q77.1 ≤ 0 then
        (okZ (0 : Int32)).bind fun z88 => some (z88, q77.2)
      else
        (okZ (1 : Int32)).bind fun z88 => some (z88, q77.2)
    else
    if v25 = (102 : Int32) then
      (gR h (some this) [10] 1).bind fun v90 =>
      (rcv h v90 8).bind fun a100 =>
      (f_X8_raze h a100 (((v4 - (48 : Int32)) * (10 : Int32)) + (v15 - (48 : Int32)))).bind fun q100 =>
      if q100.1 ≤ 0 then
        (okZ (0 : Int32)).bind fun z111 => some (z111, q100.2)
      else
        (okZ (1 : Int32)).bind fun z111 => some (z111, q100.2)
    else
      (f_X10_lawOf h (v4 - (48 : Int32)) (v15 - (48 : Int32))).bind fun q115 =>
      if q115.1 = none then
        (okZ (0 : Int32)).bind fun z126 => some (z126, q115.2)
      else
        (gR q115.2 (some this) [10] 1).bind fun v128 =>
        (pF q115.2 v128 [8] 9 (vR q115.1)).bind fun h133 =>
        (okZ (1 : Int32)).bind fun z137 => some (z137, h133)
set_option maxRecDepth 100000 in
set_option maxHeartbeats 4000000 in
theorem k_X10_isCarriedOut (G : Gx) (l : Launch) {h : Hp} {this : Nat} {x1 : Option Nat} {x2 : Int32} {r : (Int32 × Hp)} (hf : f_X10_isCarriedOut h this x1 x2 = some r) : KM l yX10_isCarriedOut (.code yX10_isCarriedOut cX10_isCarriedOut 6 (some .boolean) :: wsK) 5 107 G [vR (some this), vR x1, vI x2] h (some (vI r.1)) r.2 := by
  refine r_entry (ctor := false) (own := RX10) (by decide +kernel) rfl (fun q => by cases q) (Nat.le_of_ble_eq_true rfl) ?_
  show RJ G l M_X10_isCarriedOut (some (vI r.1)) r.2 0 [(0, vR (some this)), (1, vR x1), (2, vI x2)] [] h
  unfold f_X10_isCarriedOut at hf
  refine r_aload_n 1 dX10_isCarriedOut_0 rfl ?_
  refine r_iload_n 2 dX10_isCarriedOut_1 rfl ?_
  refine r_iconst (x := (1 : Int32)) dX10_isCarriedOut_2 (by decide) ?_
  refine r_iadd dX10_isCarriedOut_3 ?_
  obtain ⟨a4, ea4, hf⟩ := ob hf
  obtain ⟨v4, e4, hf⟩ := ob hf
  refine r_callV (y := yX5_at) (ci := 5) (avs := [vI (x2 + (1 : Int32))]) dX10_isCarriedOut_4 rfl kw_1_159 kw_1_160 kw_1_161 kw_1_4 kw_1_162 oky_X5_at ⟨Nat.le_of_ble_eq_true rfl, Nat.le_of_ble_eq_true rfl⟩ rfl (Nat.le_of_ble_eq_true rfl) ea4 (k_X5_at G l e4) ?_
  refine r_bipush (x := (48 : Int32)) dX10_isCarriedOut_7 (by decide) ?_
  refine r_isub dX10_isCarriedOut_9 ?_
  refine r_istore_n (lv' := [(3, vI (v4 - (48 : Int32))), (0, vR (some this)), (1, vR x1), (2, vI x2)]) dX10_isCarriedOut_10 (Nat.le_of_ble_eq_true rfl) rfl ?_
  refine r_aload_n 2 dX10_isCarriedOut_11 rfl ?_
  refine r_iload_n 3 dX10_isCarriedOut_12 rfl ?_
  refine r_iconst (x := (2 : Int32)) dX10_isCarriedOut_13 (by decide) ?_
  refine r_iadd dX10_isCarriedOut_14 ?_
  obtain ⟨a15, ea15, hf⟩ := ob hf
  obtain ⟨v15, e15, hf⟩ := ob hf
  refine r_callV (y := yX5_at) (ci := 5) (avs := [vI (x2 + (2 : Int32))]) dX10_isCarriedOut_15 rfl kw_1_159 kw_1_160 kw_1_161 kw_1_4 kw_1_162 oky_X5_at ⟨Nat.le_of_ble_eq_true rfl, Nat.le_of_ble_eq_true rfl⟩ rfl (Nat.le_of_ble_eq_true rfl) ea15 (k_X5_at G l e15) ?_
  refine r_pc (pc' := 18) rfl ?_
  refine r_bipush (x := (48 : Int32)) dX10_isCarriedOut_18 (by decide) ?_
  refine r_isub dX10_isCarriedOut_20 ?_
  refine r_istore (lv' := [(4, vI (v15 - (48 : Int32))), (3, vI (v4 - (48 : Int32))), (0, vR (some this)), (1, vR x1), (2, vI x2)]) dX10_isCarriedOut_21 (Nat.le_of_ble_eq_true rfl) rfl ?_
  refine r_aload_n 3 dX10_isCarriedOut_23 rfl ?_
  refine r_iload_n 4 dX10_isCarriedOut_24 rfl ?_
  obtain ⟨a25, ea25, hf⟩ := ob hf
  obtain ⟨v25, e25, hf⟩ := ob hf
  refine r_callV (y := yX5_at) (ci := 5) (avs := [vI x2]) dX10_isCarriedOut_25 rfl kw_1_159 kw_1_160 kw_1_161 kw_1_4 kw_1_162 oky_X5_at ⟨Nat.le_of_ble_eq_true rfl, Nat.le_of_ble_eq_true rfl⟩ rfl (Nat.le_of_ble_eq_true rfl) ea25 (k_X5_at G l e25) ?_
  by_cases c28_0 : v25 = (98 : Int32)
  · replace hf := (if_pos c28_0).symm.trans hf
    refine r_lookup (off := 28) (tgt := 56) dX10_isCarriedOut_28 (by decide) (by rw [c28_0]; decide +kernel) (by decide) ?_
    refine r_aload_n 2 dX10_isCarriedOut_56 rfl ?_
    obtain ⟨v57, e57, hf⟩ := ob hf
    refine r_get dX10_isCarriedOut_57 fl_10_1 kw_1_122 (Or.inl rfl) (gR_sp e57) ?_
    refine r_iload_n 1 dX10_isCarriedOut_60 rfl ?_
    refine r_bipush (x := (10 : Int32)) dX10_isCarriedOut_61 (by decide) ?_
    refine r_imul dX10_isCarriedOut_63 ?_
    refine r_iload 0 dX10_isCarriedOut_64 rfl ?_
    refine r_iadd dX10_isCarriedOut_66 ?_
    refine r_aload_n 3 dX10_isCarriedOut_67 rfl ?_
    refine r_iload_n 4 dX10_isCarriedOut_68 rfl ?_
    refine r_iconst (x := (3 : Int32)) dX10_isCarriedOut_69 (by decide) ?_
    refine r_iadd dX10_isCarriedOut_70 ?_
    obtain ⟨a71, ea71, hf⟩ := ob hf
    obtain ⟨v71, e71, hf⟩ := ob hf
    refine r_callV (y := yX5_at) (ci := 5) (avs := [vI (x2 + (3 : Int32))]) dX10_isCarriedOut_71 rfl kw_1_159 kw_1_160 kw_1_161 kw_1_4 kw_1_162 oky_X5_at ⟨Nat.le_of_ble_eq_true rfl, Nat.le_of_ble_eq_true rfl⟩ rfl (Nat.le_of_ble_eq_true rfl) ea71 (k_X5_at G l e71) ?_
    refine r_bipush (x := (48 : Int32)) dX10_isCarriedOut_74 (by decide) ?_
    refine r_pc (pc' := 76) rfl ?_
    refine r_isub dX10_isCarriedOut_76 ?_
    obtain ⟨a77, ea77, hf⟩ := ob hf
    obtain ⟨q77, e77, hf⟩ := ob hf
    refine r_callV (y := yX8_raise) (ci := 8) (avs := [vI (((v4 - (48 : Int32)) * (10 : Int32)) + (v15 - (48 : Int32))), vI (v71 - (48 : Int32))]) dX10_isCarriedOut_77 rfl kw_1_188 kw_1_189 kw_1_190 kw_1_2 kw_1_191 oky_X8_raise ⟨Nat.le_of_ble_eq_true rfl, Nat.le_of_ble_eq_true rfl⟩ rfl (Nat.le_of_ble_eq_true rfl) ea77 (k_X8_raise G l e77) ?_
    refine r_if_le (tgt := 87) dX10_isCarriedOut_80 (by decide) (fun c80 => ?_) (fun c80 => ?_)
    · replace hf := (if_pos c80).symm.trans hf
      refine r_iconst (x := (0 : Int32)) dX10_isCarriedOut_87 (by decide) ?_
      obtain ⟨z88, ez88, hf⟩ := ob hf
      have hf := Option.some.inj hf
      subst hf
      exact r_zret rfl dX10_isCarriedOut_88 ez88
    · replace hf := (if_neg c80).symm.trans hf
      refine r_iconst (x := (1 : Int32)) dX10_isCarriedOut_83 (by decide) ?_
      refine r_goto (tgt := 88) dX10_isCarriedOut_84 (by decide) ?_
      obtain ⟨z88, ez88, hf⟩ := ob hf
      have hf := Option.some.inj hf
      subst hf
      exact r_zret rfl dX10_isCarriedOut_88 ez88
  · replace hf := (if_neg c28_0).symm.trans hf
    by_cases c28_1 : v25 = (102 : Int32)
    · replace hf := (if_pos c28_1).symm.trans hf
      refine r_lookup (off := 61) (tgt := 89) dX10_isCarriedOut_28 (by decide) (by rw [c28_1]; decide +kernel) (by decide) ?_
      refine r_aload_n 2 dX10_isCarriedOut_89 rfl ?_
      obtain ⟨v90, e90, hf⟩ := ob hf
      refine r_get dX10_isCarriedOut_90 fl_10_1 kw_1_122 (Or.inl rfl) (gR_sp e90) ?_
      refine r_iload_n 1 dX10_isCarriedOut_93 rfl ?_
      refine r_bipush (x := (10 : Int32)) dX10_isCarriedOut_94 (by decide) ?_
      refine r_imul dX10_isCarriedOut_96 ?_
      refine r_iload 0 dX10_isCarriedOut_97 rfl ?_
      refine r_iadd dX10_isCarriedOut_99 ?_
      obtain ⟨a100, ea100, hf⟩ := ob hf
      obtain ⟨q100, e100, hf⟩ := ob hf
      refine r_callV (y := yX8_raze) (ci := 8) (avs := [vI (((v4 - (48 : Int32)) * (10 : Int32)) + (v15 - (48 : Int32)))]) dX10_isCarriedOut_100 rfl kw_2_21 kw_2_22 kw_2_23 kw_1_2 kw_2_24 oky_X8_raze ⟨Nat.le_of_ble_eq_true rfl, Nat.le_of_ble_eq_true rfl⟩ rfl (Nat.le_of_ble_eq_true rfl) ea100 (k_X8_raze G l e100) ?_
      refine r_if_le (tgt := 110) dX10_isCarriedOut_103 (by decide) (fun c103 => ?_) (fun c103 => ?_)
      · replace hf := (if_pos c103).symm.trans hf
        refine r_iconst (x := (0 : Int32)) dX10_isCarriedOut_110 (by decide) ?_
        obtain ⟨z111, ez111, hf⟩ := ob hf
        have hf := Option.some.inj hf
        subst hf
        exact r_zret rfl dX10_isCarriedOut_111 ez111
      · replace hf := (if_neg c103).symm.trans hf
        refine r_iconst (x := (1 : Int32)) dX10_isCarriedOut_106 (by decide) ?_
        refine r_goto (tgt := 111) dX10_isCarriedOut_107 (by decide) ?_
        obtain ⟨z111, ez111, hf⟩ := ob hf
        have hf := Option.some.inj hf
        subst hf
        exact r_zret rfl dX10_isCarriedOut_111 ez111
    · replace hf := (if_neg c28_1).symm.trans hf
      refine r_lookup (off := 84) (tgt := 112) dX10_isCarriedOut_28 (by decide) (by show Op.lookupswitch.offset [(98, 28), (102, 61)] 84 _ = _; rw [lv_osw (k := (98 : Int32)) c28_0 (by decide), lv_osw (k := (102 : Int32)) c28_1 (by decide)]; rfl) (by decide) ?_
      refine r_iload_n 1 dX10_isCarriedOut_112 rfl ?_
      refine r_iload 0 dX10_isCarriedOut_113 rfl ?_
      obtain ⟨q115, e115, hf⟩ := ob hf
      refine r_callS (y := yX10_lawOf) (avs := [vI (v4 - (48 : Int32)), vI (v15 - (48 : Int32))]) dX10_isCarriedOut_115 kw_2_25 kw_2_26 kw_1_1 kw_2_27 oky_X10_lawOf ⟨Nat.le_of_ble_eq_true rfl, Nat.le_of_ble_eq_true rfl⟩ rfl (Nat.le_of_ble_eq_true rfl) (k_X10_lawOf G l e115) ?_
      refine r_astore (lv' := [(5, vR q115.1), (4, vI (v15 - (48 : Int32))), (3, vI (v4 - (48 : Int32))), (0, vR (some this)), (1, vR x1), (2, vI x2)]) dX10_isCarriedOut_118 (Nat.le_of_ble_eq_true rfl) rfl ?_
      refine r_aload 0 dX10_isCarriedOut_120 rfl ?_
      refine r_ifnonnull (tgt := 127) dX10_isCarriedOut_122 (by decide) (fun c122 => ?_) (fun c122 => ?_)
      · replace hf := (if_pos c122).symm.trans hf
        refine r_iconst (x := (0 : Int32)) dX10_isCarriedOut_125 (by decide) ?_
        obtain ⟨z126, ez126, hf⟩ := ob hf
        have hf := Option.some.inj hf
        subst hf
        exact r_zret rfl dX10_isCarriedOut_126 ez126
      · replace hf := (if_neg c122).symm.trans hf
        refine r_aload_n 3 dX10_isCarriedOut_127 rfl ?_
        obtain ⟨v128, e128, hf⟩ := ob hf
        refine r_get dX10_isCarriedOut_128 fl_10_1 kw_1_122 (Or.inl rfl) (gR_sp e128) ?_
        refine r_aload 0 dX10_isCarriedOut_131 rfl ?_
        obtain ⟨h133, e133, hf⟩ := ob hf
        refine r_putN (ref := "NumberedByAge$Street") dX10_isCarriedOut_133 fl_8_9 (by decide) (by decide +kernel) (fit_ref "NumberedByAge$Law" _) e133 ?_
        refine r_iconst (x := (1 : Int32)) dX10_isCarriedOut_136 (by decide) ?_
        obtain ⟨z137, ez137, hf⟩ := ob hf
        have hf := Option.some.inj hf
        subst hf
        exact r_zret rfl dX10_isCarriedOut_137 ez137
/-! ===== NumberedByAge.digitsBehind(I)I ===== -/
abbrev M_X10_digitsBehind : Mx := (cX10_digitsBehind, 1, RX10, (false, []), (some .int), 0, 0)
def f_X10_digitsBehind (h : Hp) (x0 : Int32) : Option Int32 :=
    if x0 = (98 : Int32) then
      some (3 : Int32)
    else
    if x0 = (102 : Int32) then
      some (2 : Int32)
    else
    if x0 = (108 : Int32) then
      some (2 : Int32)
    else
      some (0 : Int32)
set_option maxRecDepth 100000 in
set_option maxHeartbeats 4000000 in
theorem k_X10_digitsBehind (G : Gx) (l : Launch) {h : Hp} {x0 : Int32} {r : Int32} (hf : f_X10_digitsBehind h x0 = some r) : KM l yX10_digitsBehind (.code yX10_digitsBehind cX10_digitsBehind 1 (some .int) :: wsK) 0 0 G [vI x0] h (some (vI r)) h := by
  refine r_entry (ctor := false) (own := RX10) (by decide +kernel) rfl (fun q => by cases q) (Nat.le_of_ble_eq_true rfl) ?_
  show RJ G l M_X10_digitsBehind (some (vI r)) h 0 [(0, vI x0)] [] h
  unfold f_X10_digitsBehind at hf
  refine r_iload_n 0 dX10_digitsBehind_0 rfl ?_
  by_cases c1_0 : x0 = (98 : Int32)
  · replace hf := (if_pos c1_0).symm.trans hf
    refine r_lookup (off := 35) (tgt := 36) dX10_digitsBehind_1 (by decide) (by rw [c1_0]; decide +kernel) (by decide) ?_
    refine r_iconst (x := (3 : Int32)) dX10_digitsBehind_36 (by decide) ?_
    have hf := Option.some.inj hf
    subst hf
    exact r_iret rfl dX10_digitsBehind_37
  · replace hf := (if_neg c1_0).symm.trans hf
    by_cases c1_1 : x0 = (102 : Int32)
    · replace hf := (if_pos c1_1).symm.trans hf
      refine r_lookup (off := 37) (tgt := 38) dX10_digitsBehind_1 (by decide) (by rw [c1_1]; decide +kernel) (by decide) ?_
      refine r_iconst (x := (2 : Int32)) dX10_digitsBehind_38 (by decide) ?_
      have hf := Option.some.inj hf
      subst hf
      exact r_iret rfl dX10_digitsBehind_39
    · replace hf := (if_neg c1_1).symm.trans hf
      by_cases c1_2 : x0 = (108 : Int32)
      · replace hf := (if_pos c1_2).symm.trans hf
        refine r_lookup (off := 37) (tgt := 38) dX10_digitsBehind_1 (by decide) (by rw [c1_2]; decide +kernel) (by decide) ?_
        refine r_iconst (x := (2 : Int32)) dX10_digitsBehind_38 (by decide) ?_
        have hf := Option.some.inj hf
        subst hf
        exact r_iret rfl dX10_digitsBehind_39
      · replace hf := (if_neg c1_2).symm.trans hf
        refine r_lookup (off := 39) (tgt := 40) dX10_digitsBehind_1 (by decide) (by show Op.lookupswitch.offset [(98, 35), (102, 37), (108, 37)] 39 _ = _; rw [lv_osw (k := (98 : Int32)) c1_0 (by decide), lv_osw (k := (102 : Int32)) c1_1 (by decide), lv_osw (k := (108 : Int32)) c1_2 (by decide)]; rfl) (by decide) ?_
        refine r_iconst (x := (0 : Int32)) dX10_digitsBehind_40 (by decide) ?_
        have hf := Option.some.inj hf
        subst hf
        exact r_iret rfl dX10_digitsBehind_41
/-! ===== NumberedByAge.lengthOf(I)I ===== -/
abbrev M_X10_lengthOf : Mx := (cX10_lengthOf, 1, RX10, (false, []), (some .int), 1, 20)
def f_X10_lengthOf (h : Hp) (x0 : Int32) : Option Int32 :=
    (f_X10_digitsBehind h x0).bind fun v1 =>
    some (v1 + (2 : Int32))
set_option maxRecDepth 100000 in
set_option maxHeartbeats 4000000 in
theorem k_X10_lengthOf (G : Gx) (l : Launch) {h : Hp} {x0 : Int32} {r : Int32} (hf : f_X10_lengthOf h x0 = some r) : KM l yX10_lengthOf (.code yX10_lengthOf cX10_lengthOf 1 (some .int) :: wsK) 1 20 G [vI x0] h (some (vI r)) h := by
  refine r_entry (ctor := false) (own := RX10) (by decide +kernel) rfl (fun q => by cases q) (Nat.le_of_ble_eq_true rfl) ?_
  show RJ G l M_X10_lengthOf (some (vI r)) h 0 [(0, vI x0)] [] h
  unfold f_X10_lengthOf at hf
  refine r_iload_n 0 dX10_lengthOf_0 rfl ?_
  obtain ⟨v1, e1, hf⟩ := ob hf
  refine r_callS (y := yX10_digitsBehind) (avs := [vI x0]) dX10_lengthOf_1 kw_1_167 kw_1_168 kw_1_1 kw_1_169 oky_X10_digitsBehind ⟨Nat.le_of_ble_eq_true rfl, Nat.le_of_ble_eq_true rfl⟩ rfl (Nat.le_of_ble_eq_true rfl) (k_X10_digitsBehind G l e1) ?_
  refine r_iconst (x := (2 : Int32)) dX10_lengthOf_4 (by decide) ?_
  refine r_iadd dX10_lengthOf_5 ?_
  have hf := Option.some.inj hf
  subst hf
  exact r_iret rfl dX10_lengthOf_6
/-! ===== NumberedByAge.carryOut(LNumberedByAge$Shelf;)I ===== -/
abbrev M_X10_carryOut : Mx := (cX10_carryOut, 4, RX10, (false, []), (some .int), 6, 132)
def f_X10_carryOut_63 (this : Nat) (h : Hp) (x3 : Int32) : Option (Int32 × Hp) :=
    (gR h (some this) [10] 0).bind fun v64 =>
    (gR h (some this) [10] 1).bind fun v68 =>
    (rcv h v64 8).bind fun a71 =>
    (f_X8_become h a71 v68).bind fun h71 =>
    some (x3, h71)
set_option maxRecDepth 100000 in
set_option maxHeartbeats 4000000 in
theorem t_X10_carryOut_63 (G : Gx) (l : Launch) (this : Nat)  (h : Hp) (x3 : Int32) (r : (Int32 × Hp)) (hf : f_X10_carryOut_63 this h x3 = some r) : RJ G l M_X10_carryOut (some (vI r.1)) r.2 63 [(0, vR (some this)), (3, vI x3)] [] h := by
  unfold f_X10_carryOut_63 at hf
  refine r_aload_n 0 dX10_carryOut_63 rfl ?_
  obtain ⟨v64, e64, hf⟩ := ob hf
  refine r_get dX10_carryOut_64 fl_10_0 kw_1_121 (Or.inl rfl) (gR_sp e64) ?_
  refine r_aload_n 0 dX10_carryOut_67 rfl ?_
  obtain ⟨v68, e68, hf⟩ := ob hf
  refine r_get dX10_carryOut_68 fl_10_1 kw_1_122 (Or.inl rfl) (gR_sp e68) ?_
  obtain ⟨a71, ea71, hf⟩ := ob hf
  obtain ⟨h71, e71, hf⟩ := ob hf
  refine r_callV (y := yX8_become) (ci := 8) (avs := [vR v68]) dX10_carryOut_71 rfl kw_1_177 kw_1_178 kw_1_179 kw_1_2 kw_1_180 oky_X8_become ⟨Nat.le_of_ble_eq_true rfl, Nat.le_of_ble_eq_true rfl⟩ rfl (Nat.le_of_ble_eq_true rfl) ea71 (k_X8_become G l e71) ?_
  refine r_iload_n 1 dX10_carryOut_74 rfl ?_
  have hf := Option.some.inj hf
  subst hf
  exact r_iret rfl dX10_carryOut_75
def f_X10_carryOut_15 (this : Nat) : Nat → Hp → (Option Nat) → Int32 → Int32 → Option (Int32 × Hp)
  | 0, _, _, _, _ => none
  | n + 1, h, x1, x2, x3 =>
    (gI h x1 [5] 2).bind fun v17 =>
    if v17 ≤ x3 then
      f_X10_carryOut_63 this h x3
    else
      (gI h x1 [5] 2).bind fun v25 =>
      if v25 ≤ x2 then
        f_X10_carryOut_63 this h x3
      else
        (rcv h (some this) 10).bind fun a34 =>
        (f_X10_isCarriedOut h a34 x1 x2).bind fun q34 =>
        if q34.1 = 0 then
          some (((-2000 : Int32) - x2), q34.2)
        else
          (rcv q34.2 x1 5).bind fun a49 =>
          (f_X5_at q34.2 a49 x2).bind fun v49 =>
          (f_X10_lengthOf q34.2 v49).bind fun v52 =>
          (f_X10_carryOut_15 this n) q34.2 x1 (x2 + v52) (x3 + 1)
set_option maxRecDepth 100000 in
set_option maxHeartbeats 4000000 in
theorem t_X10_carryOut_15 (G : Gx) (l : Launch) (this : Nat)  : ∀ (n : Nat) (h : Hp) (x1 : Option Nat) (x2 : Int32) (x3 : Int32) (r : (Int32 × Hp)), f_X10_carryOut_15 this n h x1 x2 x3 = some r → RJ G l M_X10_carryOut (some (vI r.1)) r.2 15 [(0, vR (some this)), (1, vR x1), (2, vI x2), (3, vI x3)] [] h := by
  intro n
  induction n with
  | zero =>
    intro h x1 x2 x3 r hf
    rw [f_X10_carryOut_15] at hf
    cases hf
  | succ n ih =>
    intro h x1 x2 x3 r hf
    rw [f_X10_carryOut_15] at hf
    refine r_iload_n 3 dX10_carryOut_15 rfl ?_
    refine r_aload_n 1 dX10_carryOut_16 rfl ?_
    obtain ⟨v17, e17, hf⟩ := ob hf
    refine r_getN dX10_carryOut_17 fl_5_2 (by decide) (gI_sp e17) ?_
    refine r_icmp_ge (tgt := 63) dX10_carryOut_20 (by decide) (fun c20 => ?_) (fun c20 => ?_)
    · replace hf := (if_pos c20).symm.trans hf
      exact r_sub [0, 3] rfl (t_X10_carryOut_63 G l _ _ _ _ hf)
    · replace hf := (if_neg c20).symm.trans hf
      refine r_iload_n 2 dX10_carryOut_23 rfl ?_
      refine r_aload_n 1 dX10_carryOut_24 rfl ?_
      obtain ⟨v25, e25, hf⟩ := ob hf
      refine r_getN dX10_carryOut_25 fl_5_2 (by decide) (gI_sp e25) ?_
      refine r_icmp_ge (tgt := 63) dX10_carryOut_28 (by decide) (fun c28 => ?_) (fun c28 => ?_)
      · replace hf := (if_pos c28).symm.trans hf
        exact r_sub [0, 3] rfl (t_X10_carryOut_63 G l _ _ _ _ hf)
      · replace hf := (if_neg c28).symm.trans hf
        refine r_aload_n 0 dX10_carryOut_31 rfl ?_
        refine r_aload_n 1 dX10_carryOut_32 rfl ?_
        refine r_iload_n 2 dX10_carryOut_33 rfl ?_
        obtain ⟨a34, ea34, hf⟩ := ob hf
        obtain ⟨q34, e34, hf⟩ := ob hf
        refine r_callV (y := yX10_isCarriedOut) (ci := 10) (avs := [vR x1, vI x2]) dX10_carryOut_34 rfl kw_1_184 kw_1_186 kw_0_2 kw_1_1 kw_1_187 oky_X10_isCarriedOut ⟨Nat.le_of_ble_eq_true rfl, Nat.le_of_ble_eq_true rfl⟩ rfl (Nat.le_of_ble_eq_true rfl) ea34 (k_X10_isCarriedOut G l e34) ?_
        refine r_if_ne (tgt := 46) dX10_carryOut_37 (by decide) (fun c37 => ?_) (fun c37 => ?_)
        · replace hf := (if_pos c37).symm.trans hf
          refine r_sipush (x := (-2000 : Int32)) dX10_carryOut_40 (by decide) ?_
          refine r_iload_n 2 dX10_carryOut_43 rfl ?_
          refine r_isub dX10_carryOut_44 ?_
          have hf := Option.some.inj hf
          subst hf
          exact r_iret rfl dX10_carryOut_45
        · replace hf := (if_neg c37).symm.trans hf
          refine r_iload_n 2 dX10_carryOut_46 rfl ?_
          refine r_aload_n 1 dX10_carryOut_47 rfl ?_
          refine r_iload_n 2 dX10_carryOut_48 rfl ?_
          obtain ⟨a49, ea49, hf⟩ := ob hf
          obtain ⟨v49, e49, hf⟩ := ob hf
          refine r_callV (y := yX5_at) (ci := 5) (avs := [vI x2]) dX10_carryOut_49 rfl kw_1_159 kw_1_160 kw_1_161 kw_1_4 kw_1_162 oky_X5_at ⟨Nat.le_of_ble_eq_true rfl, Nat.le_of_ble_eq_true rfl⟩ rfl (Nat.le_of_ble_eq_true rfl) ea49 (k_X5_at G l e49) ?_
          obtain ⟨v52, e52, hf⟩ := ob hf
          refine r_callS (y := yX10_lengthOf) (avs := [vI v49]) dX10_carryOut_52 kw_1_170 kw_1_171 kw_1_1 kw_1_172 oky_X10_lengthOf ⟨Nat.le_of_ble_eq_true rfl, Nat.le_of_ble_eq_true rfl⟩ rfl (Nat.le_of_ble_eq_true rfl) (k_X10_lengthOf G l e52) ?_
          refine r_iadd dX10_carryOut_55 ?_
          refine r_istore_n (lv' := [(2, vI (x2 + v52)), (0, vR (some this)), (1, vR x1), (3, vI x3)]) dX10_carryOut_56 (Nat.le_of_ble_eq_true rfl) rfl ?_
          refine r_iinc (y := (x3 + 1)) (lv' := [(3, vI (x3 + 1)), (2, vI (x2 + v52)), (0, vR (some this)), (1, vR x1)]) 3 dX10_carryOut_57 rfl rfl (Nat.le_of_ble_eq_true rfl) rfl ?_
          refine r_goto (tgt := 15) dX10_carryOut_60 (by decide) ?_
          exact r_sub [2, 3, 1, 0] rfl (ih _ _ _ _ _ hf)
def f_X10_carryOut (h : Hp) (this : Nat) (x1 : Option Nat) : Option (Int32 × Hp) :=
    (gR h (some this) [10] 1).bind fun v1 =>
    (gR h (some this) [10] 0).bind fun v5 =>
    (rcv h v1 8).bind fun a8 =>
    (f_X8_become h a8 v5).bind fun h8 =>
    f_X10_carryOut_15 this 10000 h8 x1 (0 : Int32) (0 : Int32)
set_option maxRecDepth 100000 in
set_option maxHeartbeats 4000000 in
theorem k_X10_carryOut (G : Gx) (l : Launch) {h : Hp} {this : Nat} {x1 : Option Nat} {r : (Int32 × Hp)} (hf : f_X10_carryOut h this x1 = some r) : KM l yX10_carryOut (.code yX10_carryOut cX10_carryOut 4 (some .int) :: wsK) 6 132 G [vR (some this), vR x1] h (some (vI r.1)) r.2 := by
  refine r_entry (ctor := false) (own := RX10) (by decide +kernel) rfl (fun q => by cases q) (Nat.le_of_ble_eq_true rfl) ?_
  show RJ G l M_X10_carryOut (some (vI r.1)) r.2 0 [(0, vR (some this)), (1, vR x1)] [] h
  unfold f_X10_carryOut at hf
  refine r_aload_n 0 dX10_carryOut_0 rfl ?_
  obtain ⟨v1, e1, hf⟩ := ob hf
  refine r_get dX10_carryOut_1 fl_10_1 kw_1_122 (Or.inl rfl) (gR_sp e1) ?_
  refine r_aload_n 0 dX10_carryOut_4 rfl ?_
  obtain ⟨v5, e5, hf⟩ := ob hf
  refine r_get dX10_carryOut_5 fl_10_0 kw_1_121 (Or.inl rfl) (gR_sp e5) ?_
  obtain ⟨a8, ea8, hf⟩ := ob hf
  obtain ⟨h8, e8, hf⟩ := ob hf
  refine r_callV (y := yX8_become) (ci := 8) (avs := [vR v5]) dX10_carryOut_8 rfl kw_1_177 kw_1_178 kw_1_179 kw_1_2 kw_1_180 oky_X8_become ⟨Nat.le_of_ble_eq_true rfl, Nat.le_of_ble_eq_true rfl⟩ rfl (Nat.le_of_ble_eq_true rfl) ea8 (k_X8_become G l e8) ?_
  refine r_iconst (x := (0 : Int32)) dX10_carryOut_11 (by decide) ?_
  refine r_istore_n (lv' := [(2, vI (0 : Int32)), (0, vR (some this)), (1, vR x1)]) dX10_carryOut_12 (Nat.le_of_ble_eq_true rfl) rfl ?_
  refine r_iconst (x := (0 : Int32)) dX10_carryOut_13 (by decide) ?_
  refine r_istore_n (lv' := [(3, vI (0 : Int32)), (2, vI (0 : Int32)), (0, vR (some this)), (1, vR x1)]) dX10_carryOut_14 (Nat.le_of_ble_eq_true rfl) rfl ?_
  exact r_sub [2, 3, 1, 0] rfl (t_X10_carryOut_15 G l _ _ _ _ _ _ _ hf)
/-! ===== NumberedByAge.comesByAll(LNumberedByAge$Shelf;I)Z ===== -/
abbrev M_X10_comesByAll : Mx := (cX10_comesByAll, 4, RX10, (false, []), (some .boolean), 2, 42)
def f_X10_comesByAll_2 (h : Hp) (this : Nat) : Nat → (Option Nat) → Int32 → Int32 → Option Int32
  | 0, _, _, _ => none
  | n + 1, x1, x2, x3 =>
    (gI h x1 [5] 2).bind fun v4 =>
    if v4 ≤ x3 then
      okZ (1 : Int32)
    else
      (gR h (some this) [10] 0).bind fun v11 =>
      (rcv h x1 5).bind fun a16 =>
      (f_X5_at h a16 x3).bind fun v16 =>
      (rcv h v11 8).bind fun a19 =>
      (f_X8_plotsWith h a19 v16).bind fun v19 =>
      if (v19 &&& x2) = 0 then
        okZ (0 : Int32)
      else
        (f_X10_comesByAll_2 h this n) x1 x2 (x3 + 1)
set_option maxRecDepth 100000 in
set_option maxHeartbeats 4000000 in
theorem t_X10_comesByAll_2 (G : Gx) (l : Launch) (h : Hp) (this : Nat)  : ∀ (n : Nat) (x1 : Option Nat) (x2 : Int32) (x3 : Int32) (r : Int32), f_X10_comesByAll_2 h this n x1 x2 x3 = some r → RJ G l M_X10_comesByAll (some (vI r)) h 2 [(0, vR (some this)), (1, vR x1), (2, vI x2), (3, vI x3)] [] h := by
  intro n
  induction n with
  | zero =>
    intro x1 x2 x3 r hf
    rw [f_X10_comesByAll_2] at hf
    cases hf
  | succ n ih =>
    intro x1 x2 x3 r hf
    rw [f_X10_comesByAll_2] at hf
    refine r_iload_n 3 dX10_comesByAll_2 rfl ?_
    refine r_aload_n 1 dX10_comesByAll_3 rfl ?_
    obtain ⟨v4, e4, hf⟩ := ob hf
    refine r_getN dX10_comesByAll_4 fl_5_2 (by decide) (gI_sp e4) ?_
    refine r_icmp_ge (tgt := 35) dX10_comesByAll_7 (by decide) (fun c7 => ?_) (fun c7 => ?_)
    · replace hf := (if_pos c7).symm.trans hf
      refine r_iconst (x := (1 : Int32)) dX10_comesByAll_35 (by decide) ?_
      exact r_zret rfl dX10_comesByAll_36 hf
    · replace hf := (if_neg c7).symm.trans hf
      refine r_aload_n 0 dX10_comesByAll_10 rfl ?_
      obtain ⟨v11, e11, hf⟩ := ob hf
      refine r_get dX10_comesByAll_11 fl_10_0 kw_1_121 (Or.inl rfl) (gR_sp e11) ?_
      refine r_aload_n 1 dX10_comesByAll_14 rfl ?_
      refine r_iload_n 3 dX10_comesByAll_15 rfl ?_
      obtain ⟨a16, ea16, hf⟩ := ob hf
      obtain ⟨v16, e16, hf⟩ := ob hf
      refine r_callV (y := yX5_at) (ci := 5) (avs := [vI x3]) dX10_comesByAll_16 rfl kw_1_159 kw_1_160 kw_1_161 kw_1_4 kw_1_162 oky_X5_at ⟨Nat.le_of_ble_eq_true rfl, Nat.le_of_ble_eq_true rfl⟩ rfl (Nat.le_of_ble_eq_true rfl) ea16 (k_X5_at G l e16) ?_
      obtain ⟨a19, ea19, hf⟩ := ob hf
      obtain ⟨v19, e19, hf⟩ := ob hf
      refine r_callV (y := yX8_plotsWith) (ci := 8) (avs := [vI v16]) dX10_comesByAll_19 rfl kw_2_123 kw_2_124 kw_2_125 kw_1_2 kw_2_126 oky_X8_plotsWith ⟨Nat.le_of_ble_eq_true rfl, Nat.le_of_ble_eq_true rfl⟩ rfl (Nat.le_of_ble_eq_true rfl) ea19 (k_X8_plotsWith G l e19) ?_
      refine r_iload_n 2 dX10_comesByAll_22 rfl ?_
      refine r_iand dX10_comesByAll_23 ?_
      refine r_if_ne (tgt := 29) dX10_comesByAll_24 (by decide) (fun c24 => ?_) (fun c24 => ?_)
      · replace hf := (if_pos c24).symm.trans hf
        refine r_iconst (x := (0 : Int32)) dX10_comesByAll_27 (by decide) ?_
        exact r_zret rfl dX10_comesByAll_28 hf
      · replace hf := (if_neg c24).symm.trans hf
        refine r_iinc (y := (x3 + 1)) (lv' := [(3, vI (x3 + 1)), (0, vR (some this)), (1, vR x1), (2, vI x2)]) 3 dX10_comesByAll_29 rfl rfl (Nat.le_of_ble_eq_true rfl) rfl ?_
        refine r_goto (tgt := 2) dX10_comesByAll_32 (by decide) ?_
        exact r_sub [1, 2, 3, 0] rfl (ih _ _ _ _ hf)
def f_X10_comesByAll (h : Hp) (this : Nat) (x1 : Option Nat) (x2 : Int32) : Option Int32 :=
    f_X10_comesByAll_2 h this 10000 x1 x2 (0 : Int32)
set_option maxRecDepth 100000 in
set_option maxHeartbeats 4000000 in
theorem k_X10_comesByAll (G : Gx) (l : Launch) {h : Hp} {this : Nat} {x1 : Option Nat} {x2 : Int32} {r : Int32} (hf : f_X10_comesByAll h this x1 x2 = some r) : KM l yX10_comesByAll (.code yX10_comesByAll cX10_comesByAll 4 (some .boolean) :: wsK) 2 42 G [vR (some this), vR x1, vI x2] h (some (vI r)) h := by
  refine r_entry (ctor := false) (own := RX10) (by decide +kernel) rfl (fun q => by cases q) (Nat.le_of_ble_eq_true rfl) ?_
  show RJ G l M_X10_comesByAll (some (vI r)) h 0 [(0, vR (some this)), (1, vR x1), (2, vI x2)] [] h
  unfold f_X10_comesByAll at hf
  refine r_iconst (x := (0 : Int32)) dX10_comesByAll_0 (by decide) ?_
  refine r_istore_n (lv' := [(3, vI (0 : Int32)), (0, vR (some this)), (1, vR x1), (2, vI x2)]) dX10_comesByAll_1 (Nat.le_of_ble_eq_true rfl) rfl ?_
  exact r_sub [1, 2, 3, 0] rfl (t_X10_comesByAll_2 G l _ _ _ _ _ _ _ hf)
/-! ===== NumberedByAge.shelfAt(I)LNumberedByAge$Shelf; ===== -/
abbrev M_X10_shelfAt : Mx := (cX10_shelfAt, 2, RX10, (false, []), (some (.object "NumberedByAge$Shelf")), 0, 0)
def f_X10_shelfAt_22 (h : Hp) (this : Nat)  : Option (Option Nat) :=
    some none
set_option maxRecDepth 100000 in
set_option maxHeartbeats 4000000 in
theorem t_X10_shelfAt_22 (G : Gx) (l : Launch) (h : Hp) (this : Nat)   (r : Option Nat) (hf : f_X10_shelfAt_22 h this = some r) : RJ G l M_X10_shelfAt (some (vR r)) h 22 [(0, vR (some this))] [] h := by
  unfold f_X10_shelfAt_22 at hf
  refine r_null dX10_shelfAt_22 ?_
  have hf := Option.some.inj hf
  subst hf
  exact r_aret rfl dX10_shelfAt_23
def f_X10_shelfAt (h : Hp) (this : Nat) (x1 : Int32) : Option (Option Nat) :=
    if x1 < 0 then
      f_X10_shelfAt_22 h this 
    else
      (gR h (some this) [10] 4).bind fun v6 =>
      (lenR h v6).bind fun v9 =>
      if v9 ≤ x1 then
        f_X10_shelfAt_22 h this 
      else
        (gR h (some this) [10] 4).bind fun v14 =>
        (aR h v14 x1).bind fun v18 =>
        some v18
set_option maxRecDepth 100000 in
set_option maxHeartbeats 4000000 in
theorem k_X10_shelfAt (G : Gx) (l : Launch) {h : Hp} {this : Nat} {x1 : Int32} {r : Option Nat} (hf : f_X10_shelfAt h this x1 = some r) : KM l yX10_shelfAt (.code yX10_shelfAt cX10_shelfAt 2 (some (.object "NumberedByAge$Shelf")) :: wsK) 0 0 G [vR (some this), vI x1] h (some (vR r)) h := by
  refine r_entry (ctor := false) (own := RX10) (by decide +kernel) rfl (fun q => by cases q) (Nat.le_of_ble_eq_true rfl) ?_
  show RJ G l M_X10_shelfAt (some (vR r)) h 0 [(0, vR (some this)), (1, vI x1)] [] h
  unfold f_X10_shelfAt at hf
  refine r_iload_n 1 dX10_shelfAt_0 rfl ?_
  refine r_if_lt (tgt := 22) dX10_shelfAt_1 (by decide) (fun c1 => ?_) (fun c1 => ?_)
  · replace hf := (if_pos c1).symm.trans hf
    exact r_sub [0] rfl (t_X10_shelfAt_22 G l _ _  _ hf)
  · replace hf := (if_neg c1).symm.trans hf
    refine r_iload_n 1 dX10_shelfAt_4 rfl ?_
    refine r_aload_n 0 dX10_shelfAt_5 rfl ?_
    obtain ⟨v6, e6, hf⟩ := ob hf
    refine r_get dX10_shelfAt_6 fl_10_4 kw_1_125 (Or.inl rfl) (gR_sp e6) ?_
    obtain ⟨v9, e9, hf⟩ := ob hf
    refine r_lenR dX10_shelfAt_9 e9 ?_
    refine r_icmp_ge (tgt := 22) dX10_shelfAt_10 (by decide) (fun c10 => ?_) (fun c10 => ?_)
    · replace hf := (if_pos c10).symm.trans hf
      exact r_sub [0] rfl (t_X10_shelfAt_22 G l _ _  _ hf)
    · replace hf := (if_neg c10).symm.trans hf
      refine r_aload_n 0 dX10_shelfAt_13 rfl ?_
      obtain ⟨v14, e14, hf⟩ := ob hf
      refine r_get dX10_shelfAt_14 fl_10_4 kw_1_125 (Or.inl rfl) (gR_sp e14) ?_
      refine r_iload_n 1 dX10_shelfAt_17 rfl ?_
      obtain ⟨v18, e18, hf⟩ := ob hf
      refine r_aaload dX10_shelfAt_18 e18 ?_
      refine r_goto (tgt := 23) dX10_shelfAt_19 (by decide) ?_
      have hf := Option.some.inj hf
      subst hf
      exact r_aret rfl dX10_shelfAt_23
