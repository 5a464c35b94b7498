/-! ===== NumberedByAgeModel.numberBy(IIII)I ===== -/
abbrev M_X11_numberBy : Mx := (cX11_numberBy, 7, RX11, (false, []), (some .int), 2, 44)
def f_X11_numberBy (h : Hp) (this : Nat) (x1 : Int32) (x2 : Int32) (x3 : Int32) (x4 : Int32) : Option Int32 :=
    (gR h (some this) [11] 8).bind fun v1 =>
    (aI h v1 (0 : Int32)).bind fun v5 =>
    (gR h (some this) [11] 8).bind fun v7 =>
    (aI h v7 (1 : Int32)).bind fun v11 =>
    (gR h (some this) [11] 8).bind fun v14 =>
    (aI h v14 (2 : Int32)).bind fun v18 =>
    (gR h (some this) [11] 8).bind fun v25 =>
    (dvI x3 (4 : Int32)).bind fun v30 =>
    (aI h v25 v30).bind fun v31 =>
    if x1 = (0 : Int32) then
      some (((v5 + v11) + v18) + (1 : Int32))
    else
    if x1 = (1 : Int32) then
      (rcv h (some this) 11).bind fun a84 =>
      (f_X11_firstGap h a84).bind fun v84 =>
      some v84
    else
    if x1 = (2 : Int32) then
      some (v31 + (1 : Int32))
    else
    if x1 = (3 : Int32) then
      some ((((v5 + v11) + v18) + (1 : Int32)) + (x2 * x4))
    else
    if x1 = (4 : Int32) then
      some ((2 : Int32) * (((v5 + v11) + v18) + (1 : Int32)))
    else
    if x1 = (5 : Int32) then
      (f_X11_skipped h (((v5 + v11) + v18) + (1 : Int32)) x2).bind fun v107 =>
      some v107
    else
    if x1 = (6 : Int32) then
      (rcv h (some this) 11).bind fun a112 =>
      (f_X11_firstGap h a112).bind fun v112 =>
      if x2 ≤ v112 then
        (rcv h (some this) 11).bind fun a127 =>
        (f_X11_greatest h a127).bind fun v127 =>
        some (v127 + (1 : Int32))
      else
        (rcv h (some this) 11).bind fun a120 =>
        (f_X11_firstGap h a120).bind fun v120 =>
        some v120
    else
      (rmI x3 (2 : Int32)).bind fun v135 =>
      if v135 = 0 then
        some (((2 : Int32) * (v31 + (1 : Int32))) - (1 : Int32))
      else
        some ((2 : Int32) * (v31 + (1 : Int32)))
set_option maxRecDepth 100000 in
set_option maxHeartbeats 4000000 in
theorem k_X11_numberBy (G : Gx) (l : Launch) {h : Hp} {this : Nat} {x1 : Int32} {x2 : Int32} {x3 : Int32} {x4 : Int32} {r : Int32} (hf : f_X11_numberBy h this x1 x2 x3 x4 = some r) : KM l yX11_numberBy (.code yX11_numberBy cX11_numberBy 7 (some .int) :: wsK) 2 44 G [vR (some this), vI x1, vI x2, vI x3, vI x4] h (some (vI r)) h := by
  refine r_entry (ctor := false) (own := RX11) (by decide +kernel) rfl (fun q => by cases q) (Nat.le_of_ble_eq_true rfl) ?_
  show RJ G l M_X11_numberBy (some (vI r)) h 0 [(0, vR (some this)), (1, vI x1), (2, vI x2), (3, vI x3), (4, vI x4)] [] h
  unfold f_X11_numberBy at hf
  refine r_aload_n 0 dX11_numberBy_0 rfl ?_
  obtain ⟨v1, e1, hf⟩ := ob hf
  refine r_get dX11_numberBy_1 fl_11_8 kw_4_63 (Or.inl rfl) (gR_sp e1) ?_
  refine r_iconst (x := (0 : Int32)) dX11_numberBy_4 (by decide) ?_
  obtain ⟨v5, e5, hf⟩ := ob hf
  refine r_iaload dX11_numberBy_5 e5 ?_
  refine r_aload_n 0 dX11_numberBy_6 rfl ?_
  obtain ⟨v7, e7, hf⟩ := ob hf
  refine r_get dX11_numberBy_7 fl_11_8 kw_4_63 (Or.inl rfl) (gR_sp e7) ?_
  refine r_iconst (x := (1 : Int32)) dX11_numberBy_10 (by decide) ?_
  obtain ⟨v11, e11, hf⟩ := ob hf
  refine r_iaload dX11_numberBy_11 e11 ?_
  refine r_iadd dX11_numberBy_12 ?_
  refine r_aload_n 0 dX11_numberBy_13 rfl ?_
  obtain ⟨v14, e14, hf⟩ := ob hf
  refine r_get dX11_numberBy_14 fl_11_8 kw_4_63 (Or.inl rfl) (gR_sp e14) ?_
  refine r_iconst (x := (2 : Int32)) dX11_numberBy_17 (by decide) ?_
  obtain ⟨v18, e18, hf⟩ := ob hf
  refine r_iaload dX11_numberBy_18 e18 ?_
  refine r_pc (pc' := 19) rfl ?_
  refine r_iadd dX11_numberBy_19 ?_
  refine r_iconst (x := (1 : Int32)) dX11_numberBy_20 (by decide) ?_
  refine r_iadd dX11_numberBy_21 ?_
  refine r_istore (lv' := [(5, vI (((v5 + v11) + v18) + (1 : Int32))), (0, vR (some this)), (1, vI x1), (2, vI x2), (3, vI x3), (4, vI x4)]) dX11_numberBy_22 (Nat.le_of_ble_eq_true rfl) rfl ?_
  refine r_aload_n 1 dX11_numberBy_24 rfl ?_
  obtain ⟨v25, e25, hf⟩ := ob hf
  refine r_get dX11_numberBy_25 fl_11_8 kw_4_63 (Or.inl rfl) (gR_sp e25) ?_
  refine r_iload_n 4 dX11_numberBy_28 rfl ?_
  refine r_iconst (x := (4 : Int32)) dX11_numberBy_29 (by decide) ?_
  obtain ⟨v30, e30, hf⟩ := ob hf
  refine r_idiv dX11_numberBy_30 e30 ?_
  obtain ⟨v31, e31, hf⟩ := ob hf
  refine r_iaload dX11_numberBy_31 e31 ?_
  refine r_iconst (x := (1 : Int32)) dX11_numberBy_32 (by decide) ?_
  refine r_iadd dX11_numberBy_33 ?_
  refine r_istore (lv' := [(6, vI (v31 + (1 : Int32))), (5, vI (((v5 + v11) + v18) + (1 : Int32))), (0, vR (some this)), (1, vI x1), (2, vI x2), (3, vI x3), (4, vI x4)]) dX11_numberBy_34 (Nat.le_of_ble_eq_true rfl) rfl ?_
  refine r_iload_n 3 dX11_numberBy_36 rfl ?_
  refine r_pc (pc' := 37) rfl ?_
  by_cases c37_0 : x1 = (0 : Int32)
  · replace hf := (if_pos c37_0).symm.trans hf
    refine r_tabIn (off := 43) (tgt := 80) dX11_numberBy_37 (by rw [c37_0]; decide +kernel) (by rw [c37_0]; decide +kernel) (by rw [c37_0]; decide +kernel) (by decide) ?_
    refine r_iload 1 dX11_numberBy_80 rfl ?_
    have hf := Option.some.inj hf
    subst hf
    exact r_iret rfl dX11_numberBy_82
  · replace hf := (if_neg c37_0).symm.trans hf
    by_cases c37_1 : x1 = (1 : Int32)
    · replace hf := (if_pos c37_1).symm.trans hf
      refine r_tabIn (off := 46) (tgt := 83) dX11_numberBy_37 (by rw [c37_1]; decide +kernel) (by rw [c37_1]; decide +kernel) (by rw [c37_1]; decide +kernel) (by decide) ?_
      refine r_aload_n 2 dX11_numberBy_83 rfl ?_
      obtain ⟨a84, ea84, hf⟩ := ob hf
      obtain ⟨v84, e84, hf⟩ := ob hf
      refine r_callV (y := yX11_firstGap) (ci := 11) (avs := []) dX11_numberBy_84 rfl kw_4_224 kw_4_226 kw_0_26 kw_1_5 kw_4_227 oky_X11_firstGap ⟨Nat.le_of_ble_eq_true rfl, Nat.le_of_ble_eq_true rfl⟩ rfl (Nat.le_of_ble_eq_true rfl) ea84 (k_X11_firstGap G l e84) ?_
      have hf := Option.some.inj hf
      subst hf
      exact r_iret rfl dX11_numberBy_87
    · replace hf := (if_neg c37_1).symm.trans hf
      by_cases c37_2 : x1 = (2 : Int32)
      · replace hf := (if_pos c37_2).symm.trans hf
        refine r_tabIn (off := 51) (tgt := 88) dX11_numberBy_37 (by rw [c37_2]; decide +kernel) (by rw [c37_2]; decide +kernel) (by rw [c37_2]; decide +kernel) (by decide) ?_
        refine r_iload 0 dX11_numberBy_88 rfl ?_
        have hf := Option.some.inj hf
        subst hf
        exact r_iret rfl dX11_numberBy_90
      · replace hf := (if_neg c37_2).symm.trans hf
        by_cases c37_3 : x1 = (3 : Int32)
        · replace hf := (if_pos c37_3).symm.trans hf
          refine r_tabIn (off := 54) (tgt := 91) dX11_numberBy_37 (by rw [c37_3]; decide +kernel) (by rw [c37_3]; decide +kernel) (by rw [c37_3]; decide +kernel) (by decide) ?_
          refine r_iload 1 dX11_numberBy_91 rfl ?_
          refine r_iload_n 4 dX11_numberBy_93 rfl ?_
          refine r_iload 6 dX11_numberBy_94 rfl ?_
          refine r_imul dX11_numberBy_96 ?_
          refine r_iadd dX11_numberBy_97 ?_
          have hf := Option.some.inj hf
          subst hf
          exact r_iret rfl dX11_numberBy_98
        · replace hf := (if_neg c37_3).symm.trans hf
          by_cases c37_4 : x1 = (4 : Int32)
          · replace hf := (if_pos c37_4).symm.trans hf
            refine r_tabIn (off := 62) (tgt := 99) dX11_numberBy_37 (by rw [c37_4]; decide +kernel) (by rw [c37_4]; decide +kernel) (by rw [c37_4]; decide +kernel) (by decide) ?_
            refine r_iconst (x := (2 : Int32)) dX11_numberBy_99 (by decide) ?_
            refine r_iload 1 dX11_numberBy_100 rfl ?_
            refine r_imul dX11_numberBy_102 ?_
            have hf := Option.some.inj hf
            subst hf
            exact r_iret rfl dX11_numberBy_103
          · replace hf := (if_neg c37_4).symm.trans hf
            by_cases c37_5 : x1 = (5 : Int32)
            · replace hf := (if_pos c37_5).symm.trans hf
              refine r_tabIn (off := 67) (tgt := 104) dX11_numberBy_37 (by rw [c37_5]; decide +kernel) (by rw [c37_5]; decide +kernel) (by rw [c37_5]; decide +kernel) (by decide) ?_
              refine r_iload 1 dX11_numberBy_104 rfl ?_
              refine r_iload_n 4 dX11_numberBy_106 rfl ?_
              obtain ⟨v107, e107, hf⟩ := ob hf
              refine r_callS (y := yX11_skipped) (avs := [vI (((v5 + v11) + v18) + (1 : Int32)), vI x2]) dX11_numberBy_107 kw_4_232 kw_4_233 kw_1_5 kw_4_234 oky_X11_skipped ⟨Nat.le_of_ble_eq_true rfl, Nat.le_of_ble_eq_true rfl⟩ rfl (Nat.le_of_ble_eq_true rfl) (k_X11_skipped G l e107) ?_
              have hf := Option.some.inj hf
              subst hf
              exact r_iret rfl dX11_numberBy_110
            · replace hf := (if_neg c37_5).symm.trans hf
              by_cases c37_6 : x1 = (6 : Int32)
              · replace hf := (if_pos c37_6).symm.trans hf
                refine r_tabIn (off := 74) (tgt := 111) dX11_numberBy_37 (by rw [c37_6]; decide +kernel) (by rw [c37_6]; decide +kernel) (by rw [c37_6]; decide +kernel) (by decide) ?_
                refine r_aload_n 2 dX11_numberBy_111 rfl ?_
                obtain ⟨a112, ea112, hf⟩ := ob hf
                obtain ⟨v112, e112, hf⟩ := ob hf
                refine r_callV (y := yX11_firstGap) (ci := 11) (avs := []) dX11_numberBy_112 rfl kw_4_224 kw_4_226 kw_0_26 kw_1_5 kw_4_227 oky_X11_firstGap ⟨Nat.le_of_ble_eq_true rfl, Nat.le_of_ble_eq_true rfl⟩ rfl (Nat.le_of_ble_eq_true rfl) ea112 (k_X11_firstGap G l e112) ?_
                refine r_iload_n 4 dX11_numberBy_115 rfl ?_
                refine r_icmp_ge (tgt := 126) dX11_numberBy_116 (by decide) (fun c116 => ?_) (fun c116 => ?_)
                · replace hf := (if_pos c116).symm.trans hf
                  refine r_aload_n 2 dX11_numberBy_126 rfl ?_
                  obtain ⟨a127, ea127, hf⟩ := ob hf
                  obtain ⟨v127, e127, hf⟩ := ob hf
                  refine r_callV (y := yX11_greatest) (ci := 11) (avs := []) dX11_numberBy_127 rfl kw_4_235 kw_4_237 kw_0_28 kw_1_5 kw_4_238 oky_X11_greatest ⟨Nat.le_of_ble_eq_true rfl, Nat.le_of_ble_eq_true rfl⟩ rfl (Nat.le_of_ble_eq_true rfl) ea127 (k_X11_greatest G l e127) ?_
                  refine r_iconst (x := (1 : Int32)) dX11_numberBy_130 (by decide) ?_
                  refine r_iadd dX11_numberBy_131 ?_
                  have hf := Option.some.inj hf
                  subst hf
                  exact r_iret rfl dX11_numberBy_132
                · replace hf := (if_neg c116).symm.trans hf
                  refine r_aload_n 2 dX11_numberBy_119 rfl ?_
                  obtain ⟨a120, ea120, hf⟩ := ob hf
                  obtain ⟨v120, e120, hf⟩ := ob hf
                  refine r_callV (y := yX11_firstGap) (ci := 11) (avs := []) dX11_numberBy_120 rfl kw_4_224 kw_4_226 kw_0_26 kw_1_5 kw_4_227 oky_X11_firstGap ⟨Nat.le_of_ble_eq_true rfl, Nat.le_of_ble_eq_true rfl⟩ rfl (Nat.le_of_ble_eq_true rfl) ea120 (k_X11_firstGap G l e120) ?_
                  refine r_goto (tgt := 132) dX11_numberBy_123 (by decide) ?_
                  have hf := Option.some.inj hf
                  subst hf
                  exact r_iret rfl dX11_numberBy_132
              · replace hf := (if_neg c37_6).symm.trans hf
                refine r_tabOut (tgt := 133) dX11_numberBy_37 (by have g0 := lv_neT (k := (0 : Int32)) c37_0 (by decide : ((0 : Int32)).toInt = 0); have g1 := lv_neT (k := (1 : Int32)) c37_1 (by decide : ((1 : Int32)).toInt = 1); have g2 := lv_neT (k := (2 : Int32)) c37_2 (by decide : ((2 : Int32)).toInt = 2); have g3 := lv_neT (k := (3 : Int32)) c37_3 (by decide : ((3 : Int32)).toInt = 3); have g4 := lv_neT (k := (4 : Int32)) c37_4 (by decide : ((4 : Int32)).toInt = 4); have g5 := lv_neT (k := (5 : Int32)) c37_5 (by decide : ((5 : Int32)).toInt = 5); have g6 := lv_neT (k := (6 : Int32)) c37_6 (by decide : ((6 : Int32)).toInt = 6); omega) (by decide) ?_
                refine r_iload_n 5 dX11_numberBy_133 rfl ?_
                refine r_iconst (x := (2 : Int32)) dX11_numberBy_134 (by decide) ?_
                obtain ⟨v135, e135, hf⟩ := ob hf
                refine r_irem dX11_numberBy_135 e135 ?_
                refine r_if_ne (tgt := 148) dX11_numberBy_136 (by decide) (fun c136 => ?_) (fun c136 => ?_)
                · replace hf := (if_pos c136).symm.trans hf
                  refine r_iconst (x := (2 : Int32)) dX11_numberBy_139 (by decide) ?_
                  refine r_iload 0 dX11_numberBy_140 rfl ?_
                  refine r_imul dX11_numberBy_142 ?_
                  refine r_iconst (x := (1 : Int32)) dX11_numberBy_143 (by decide) ?_
                  refine r_isub dX11_numberBy_144 ?_
                  refine r_goto (tgt := 152) dX11_numberBy_145 (by decide) ?_
                  have hf := Option.some.inj hf
                  subst hf
                  exact r_iret rfl dX11_numberBy_152
                · replace hf := (if_neg c136).symm.trans hf
                  refine r_iconst (x := (2 : Int32)) dX11_numberBy_148 (by decide) ?_
                  refine r_iload 0 dX11_numberBy_149 rfl ?_
                  refine r_imul dX11_numberBy_151 ?_
                  have hf := Option.some.inj hf
                  subst hf
                  exact r_iret rfl dX11_numberBy_152
/-! ===== NumberedByAgeModel.builds(II)V ===== -/
abbrev M_X11_builds : Mx := (cX11_builds, 3, RX11, (false, []), none, 3, 70)
def f_X11_builds (h : Hp) (this : Nat) (x1 : Int32) (x2 : Int32) : Option Hp :=
    (rcv h (some this) 11).bind fun a1 =>
    (f_X11_lookNow h a1).bind fun h1 =>
    (gR h1 (some this) [11] 5).bind fun v5 =>
    (gI h1 (some this) [11] 0).bind fun v11 =>
    (gI h1 (some this) [11] 1).bind fun v15 =>
    (rcv h1 (some this) 11).bind fun a20 =>
    (f_X11_numberBy h1 a20 v11 v15 x1 x2).bind fun v20 =>
    (wI h1 v5 x1 v20).bind fun h23 =>
    (gR h23 (some this) [11] 3).bind fun v25 =>
    (gI h23 (some this) [11] 2).bind fun v29 =>
    (wI h23 v25 v29 x1).bind fun h33 =>
    (gR h33 (some this) [11] 4).bind fun v35 =>
    (gI h33 (some this) [11] 2).bind fun v39 =>
    (wI h33 v35 v39 x2).bind fun h43 =>
    (gI h43 (some this) [11] 2).bind fun v46 =>
    (pF h43 (some this) [11] 2 (vI (v46 + (1 : Int32)))).bind fun h51 =>
    some h51
set_option maxRecDepth 100000 in
set_option maxHeartbeats 4000000 in
theorem k_X11_builds (G : Gx) (l : Launch) {h : Hp} {this : Nat} {x1 : Int32} {x2 : Int32} {r : Hp} (hf : f_X11_builds h this x1 x2 = some r) : KM l yX11_builds (.code yX11_builds cX11_builds 3 none :: wsK) 3 70 G [vR (some this), vI x1, vI x2] h none r := by
  refine r_entry (ctor := false) (own := RX11) (by decide +kernel) rfl (fun q => by cases q) (Nat.le_of_ble_eq_true rfl) ?_
  show RJ G l M_X11_builds none r 0 [(0, vR (some this)), (1, vI x1), (2, vI x2)] [] h
  unfold f_X11_builds at hf
  refine r_aload_n 0 dX11_builds_0 rfl ?_
  obtain ⟨a1, ea1, hf⟩ := ob hf
  obtain ⟨h1, e1, hf⟩ := ob hf
  refine r_callV (y := yX11_lookNow) (ci := 11) (avs := []) dX11_builds_1 rfl kw_4_212 kw_4_214 kw_0_23 kw_1_5 kw_4_215 oky_X11_lookNow ⟨Nat.le_of_ble_eq_true rfl, Nat.le_of_ble_eq_true rfl⟩ rfl (Nat.le_of_ble_eq_true rfl) ea1 (k_X11_lookNow G l e1) ?_
  refine r_aload_n 0 dX11_builds_4 rfl ?_
  obtain ⟨v5, e5, hf⟩ := ob hf
  refine r_get dX11_builds_5 fl_11_5 kw_4_60 (Or.inl rfl) (gR_sp e5) ?_
  refine r_iload_n 1 dX11_builds_8 rfl ?_
  refine r_aload_n 0 dX11_builds_9 rfl ?_
  refine r_aload_n 0 dX11_builds_10 rfl ?_
  obtain ⟨v11, e11, hf⟩ := ob hf
  refine r_get dX11_builds_11 fl_11_0 kw_4_55 (Or.inl rfl) (gI_sp e11) ?_
  refine r_aload_n 0 dX11_builds_14 rfl ?_
  obtain ⟨v15, e15, hf⟩ := ob hf
  refine r_get dX11_builds_15 fl_11_1 kw_4_56 (Or.inl rfl) (gI_sp e15) ?_
  refine r_iload_n 1 dX11_builds_18 rfl ?_
  refine r_iload_n 2 dX11_builds_19 rfl ?_
  obtain ⟨a20, ea20, hf⟩ := ob hf
  obtain ⟨v20, e20, hf⟩ := ob hf
  refine r_callV (y := yX11_numberBy) (ci := 11) (avs := [vI v11, vI v15, vI x1, vI x2]) dX11_builds_20 rfl kw_4_220 kw_4_222 kw_0_25 kw_1_5 kw_4_223 oky_X11_numberBy ⟨Nat.le_of_ble_eq_true rfl, Nat.le_of_ble_eq_true rfl⟩ rfl (Nat.le_of_ble_eq_true rfl) ea20 (k_X11_numberBy G l e20) ?_
  refine r_pc (pc' := 23) rfl ?_
  obtain ⟨h23, e23, hf⟩ := ob hf
  refine r_iastore dX11_builds_23 e23 ?_
  refine r_aload_n 0 dX11_builds_24 rfl ?_
  obtain ⟨v25, e25, hf⟩ := ob hf
  refine r_get dX11_builds_25 fl_11_3 kw_4_58 (Or.inl rfl) (gR_sp e25) ?_
  refine r_aload_n 0 dX11_builds_28 rfl ?_
  obtain ⟨v29, e29, hf⟩ := ob hf
  refine r_get dX11_builds_29 fl_11_2 kw_4_57 (Or.inl rfl) (gI_sp e29) ?_
  refine r_iload_n 1 dX11_builds_32 rfl ?_
  obtain ⟨h33, e33, hf⟩ := ob hf
  refine r_iastore dX11_builds_33 e33 ?_
  refine r_aload_n 0 dX11_builds_34 rfl ?_
  obtain ⟨v35, e35, hf⟩ := ob hf
  refine r_get dX11_builds_35 fl_11_4 kw_4_59 (Or.inl rfl) (gR_sp e35) ?_
  refine r_aload_n 0 dX11_builds_38 rfl ?_
  obtain ⟨v39, e39, hf⟩ := ob hf
  refine r_get dX11_builds_39 fl_11_2 kw_4_57 (Or.inl rfl) (gI_sp e39) ?_
  refine r_iload_n 2 dX11_builds_42 rfl ?_
  obtain ⟨h43, e43, hf⟩ := ob hf
  refine r_iastore dX11_builds_43 e43 ?_
  refine r_aload_n 0 dX11_builds_44 rfl ?_
  refine r_pc (pc' := 45) rfl ?_
  refine r_dup dX11_builds_45 rfl ?_
  obtain ⟨v46, e46, hf⟩ := ob hf
  refine r_get dX11_builds_46 fl_11_2 kw_4_57 (Or.inl rfl) (gI_sp e46) ?_
  refine r_iconst (x := (1 : Int32)) dX11_builds_49 (by decide) ?_
  refine r_iadd dX11_builds_50 ?_
  obtain ⟨h51, e51, hf⟩ := ob hf
  refine r_put dX11_builds_51 fl_11_2 kw_4_57 (Or.inl rfl) (by decide +kernel) (fit_int _) e51 ?_
  have hf := Option.some.inj hf
  subst hf
  exact r_vret rfl dX11_builds_54
/-! ===== NumberedByAgeModel.build(II)I ===== -/
abbrev M_X11_build : Mx := (cX11_build, 3, RX11, (false, []), (some .int), 4, 92)
def f_X11_build_44 (this : Nat) (h : Hp) (x1 : Int32) : Option (Int32 × Hp) :=
    (gR h (some this) [11] 5).bind fun v45 =>
    (aI h v45 x1).bind fun v49 =>
    if v49 ≤ 0 then
      some ((-2 : Int32), h)
    else
      some ((-3 : Int32), h)
set_option maxRecDepth 100000 in
set_option maxHeartbeats 4000000 in
theorem t_X11_build_44 (G : Gx) (l : Launch) (this : Nat)  (h : Hp) (x1 : Int32) (r : (Int32 × Hp)) (hf : f_X11_build_44 this h x1 = some r) : RJ G l M_X11_build (some (vI r.1)) r.2 44 [(0, vR (some this)), (1, vI x1)] [] h := by
  unfold f_X11_build_44 at hf
  refine r_aload_n 0 dX11_build_44 rfl ?_
  obtain ⟨v45, e45, hf⟩ := ob hf
  refine r_get dX11_build_45 fl_11_5 kw_4_60 (Or.inl rfl) (gR_sp e45) ?_
  refine r_iload_n 1 dX11_build_48 rfl ?_
  obtain ⟨v49, e49, hf⟩ := ob hf
  refine r_iaload dX11_build_49 e49 ?_
  refine r_if_le (tgt := 58) dX11_build_50 (by decide) (fun c50 => ?_) (fun c50 => ?_)
  · replace hf := (if_pos c50).symm.trans hf
    refine r_bipush (x := (-2 : Int32)) dX11_build_58 (by decide) ?_
    have hf := Option.some.inj hf
    subst hf
    exact r_iret rfl dX11_build_60
  · replace hf := (if_neg c50).symm.trans hf
    refine r_bipush (x := (-3 : Int32)) dX11_build_53 (by decide) ?_
    refine r_goto (tgt := 60) dX11_build_55 (by decide) ?_
    have hf := Option.some.inj hf
    subst hf
    exact r_iret rfl dX11_build_60
def f_X11_build (h : Hp) (this : Nat) (x1 : Int32) (x2 : Int32) : Option (Int32 × Hp) :=
    (pF h (some this) [11] 6 (vI (0 : Int32))).bind fun h2 =>
    (f_X11_isPlot h2 x1).bind fun v6 =>
    if v6 = 0 then
      some ((-1 : Int32), h2)
    else
      (f_X11_in h2 x2.toInt64 (1 : Int64) (9 : Int64)).bind fun v18 =>
      if v18 = 0 then
        some ((-1 : Int32), h2)
      else
        (gR h2 (some this) [11] 5).bind fun v27 =>
        (aI h2 v27 x1).bind fun v31 =>
        if 0 < v31 then
          f_X11_build_44 this h2 x1
        else
          (gI h2 (some this) [11] 2).bind fun v36 =>
          if v36 = (30 : Int32) then
            f_X11_build_44 this h2 x1
          else
            (rcv h2 (some this) 11).bind fun a64 =>
            (f_X11_builds h2 a64 x1 x2).bind fun h64 =>
            (gR h64 (some this) [11] 5).bind fun v68 =>
            (aI h64 v68 x1).bind fun v72 =>
            some (v72, h64)
set_option maxRecDepth 100000 in
set_option maxHeartbeats 4000000 in
theorem k_X11_build (G : Gx) (l : Launch) {h : Hp} {this : Nat} {x1 : Int32} {x2 : Int32} {r : (Int32 × Hp)} (hf : f_X11_build h this x1 x2 = some r) : KM l yX11_build (.code yX11_build cX11_build 3 (some .int) :: wsK) 4 92 G [vR (some this), vI x1, vI x2] h (some (vI r.1)) r.2 := by
  refine r_entry (ctor := false) (own := RX11) (by decide +kernel) rfl (fun q => by cases q) (Nat.le_of_ble_eq_true rfl) ?_
  show RJ G l M_X11_build (some (vI r.1)) r.2 0 [(0, vR (some this)), (1, vI x1), (2, vI x2)] [] h
  unfold f_X11_build at hf
  refine r_aload_n 0 dX11_build_0 rfl ?_
  refine r_iconst (x := (0 : Int32)) dX11_build_1 (by decide) ?_
  obtain ⟨h2, e2, hf⟩ := ob hf
  refine r_put dX11_build_2 fl_11_6 kw_4_61 (Or.inl rfl) (by decide +kernel) (fit_int _) e2 ?_
  refine r_iload_n 1 dX11_build_5 rfl ?_
  obtain ⟨v6, e6, hf⟩ := ob hf
  refine r_callS (y := yX11_isPlot) (avs := [vI x1]) dX11_build_6 kw_5_15 kw_5_16 kw_1_5 kw_5_17 oky_X11_isPlot ⟨Nat.le_of_ble_eq_true rfl, Nat.le_of_ble_eq_true rfl⟩ rfl (Nat.le_of_ble_eq_true rfl) (k_X11_isPlot G l e6) ?_
  refine r_if_eq (tgt := 24) dX11_build_9 (by decide) (fun c9 => ?_) (fun c9 => ?_)
  · replace hf := (if_pos c9).symm.trans hf
    refine r_iconst (x := (-1 : Int32)) dX11_build_24 (by decide) ?_
    have hf := Option.some.inj hf
    subst hf
    exact r_iret rfl dX11_build_25
  · replace hf := (if_neg c9).symm.trans hf
    refine r_iload_n 2 dX11_build_12 rfl ?_
    refine r_i2l dX11_build_13 ?_
    refine r_lconst (x := (1 : Int64)) dX11_build_14 (by decide) ?_
    refine r_ldc2 (x := (9 : Int64)) dX11_build_15 kw_5_19 ?_
    obtain ⟨v18, e18, hf⟩ := ob hf
    refine r_callS (y := yX11_in) (avs := [vL x2.toInt64, vL (1 : Int64), vL (9 : Int64)]) dX11_build_18 kw_4_179 kw_4_180 kw_1_5 kw_4_181 oky_X11_in ⟨Nat.le_of_ble_eq_true rfl, Nat.le_of_ble_eq_true rfl⟩ rfl (Nat.le_of_ble_eq_true rfl) (k_X11_in G l e18) ?_
    refine r_if_ne (tgt := 26) dX11_build_21 (by decide) (fun c21 => ?_) (fun c21 => ?_)
    · replace hf := (if_pos c21).symm.trans hf
      refine r_iconst (x := (-1 : Int32)) dX11_build_24 (by decide) ?_
      have hf := Option.some.inj hf
      subst hf
      exact r_iret rfl dX11_build_25
    · replace hf := (if_neg c21).symm.trans hf
      refine r_aload_n 0 dX11_build_26 rfl ?_
      obtain ⟨v27, e27, hf⟩ := ob hf
      refine r_get dX11_build_27 fl_11_5 kw_4_60 (Or.inl rfl) (gR_sp e27) ?_
      refine r_iload_n 1 dX11_build_30 rfl ?_
      obtain ⟨v31, e31, hf⟩ := ob hf
      refine r_iaload dX11_build_31 e31 ?_
      refine r_if_gt (tgt := 44) dX11_build_32 (by decide) (fun c32 => ?_) (fun c32 => ?_)
      · replace hf := (if_pos c32).symm.trans hf
        exact r_sub [0, 1] rfl (t_X11_build_44 G l _ _ _ _ hf)
      · replace hf := (if_neg c32).symm.trans hf
        refine r_aload_n 0 dX11_build_35 rfl ?_
        obtain ⟨v36, e36, hf⟩ := ob hf
        refine r_get dX11_build_36 fl_11_2 kw_4_57 (Or.inl rfl) (gI_sp e36) ?_
        refine r_bipush (x := (30 : Int32)) dX11_build_39 (by decide) ?_
        refine r_icmp_ne (tgt := 61) dX11_build_41 (by decide) (fun c41 => ?_) (fun c41 => ?_)
        · replace hf := (if_pos c41).symm.trans hf
          exact r_sub [0, 1] rfl (t_X11_build_44 G l _ _ _ _ hf)
        · replace hf := (if_neg c41).symm.trans hf
          refine r_aload_n 0 dX11_build_61 rfl ?_
          refine r_iload_n 1 dX11_build_62 rfl ?_
          refine r_iload_n 2 dX11_build_63 rfl ?_
          obtain ⟨a64, ea64, hf⟩ := ob hf
          obtain ⟨h64, e64, hf⟩ := ob hf
          refine r_callV (y := yX11_builds) (ci := 11) (avs := [vI x1, vI x2]) dX11_build_64 rfl kw_4_208 kw_4_210 kw_0_22 kw_1_5 kw_4_211 oky_X11_builds ⟨Nat.le_of_ble_eq_true rfl, Nat.le_of_ble_eq_true rfl⟩ rfl (Nat.le_of_ble_eq_true rfl) ea64 (k_X11_builds G l e64) ?_
          refine r_aload_n 0 dX11_build_67 rfl ?_
          obtain ⟨v68, e68, hf⟩ := ob hf
          refine r_get dX11_build_68 fl_11_5 kw_4_60 (Or.inl rfl) (gR_sp e68) ?_
          refine r_iload_n 1 dX11_build_71 rfl ?_
          obtain ⟨v72, e72, hf⟩ := ob hf
          refine r_iaload dX11_build_72 e72 ?_
          have hf := Option.some.inj hf
          subst hf
          exact r_iret rfl dX11_build_73
/-! ===== NumberedByAgeModel.buildLooked(IIII)V ===== -/
abbrev M_X11_buildLooked : Mx := (cX11_buildLooked, 5, RX11, (false, []), none, 3, 70)
def f_X11_buildLooked (h : Hp) (this : Nat) (x1 : Int32) (x2 : Int32) (x3 : Int32) (x4 : Int32) : Option Hp :=
    (gR h (some this) [11] 7).bind fun v1 =>
    (rcv h (some this) 11).bind fun a11 =>
    (f_X11_numberBy h a11 x1 x2 x3 x4).bind fun v11 =>
    (wI h v1 x3 v11).bind fun h14 =>
    (gR h14 (some this) [11] 8).bind fun v16 =>
    (dvI x3 (4 : Int32)).bind fun v21 =>
    (aI h14 v16 v21).bind fun v23 =>
    (wI h14 v16 v21 (v23 + (1 : Int32))).bind fun h26 =>
    some h26
set_option maxRecDepth 100000 in
set_option maxHeartbeats 4000000 in
theorem k_X11_buildLooked (G : Gx) (l : Launch) {h : Hp} {this : Nat} {x1 : Int32} {x2 : Int32} {x3 : Int32} {x4 : Int32} {r : Hp} (hf : f_X11_buildLooked h this x1 x2 x3 x4 = some r) : KM l yX11_buildLooked (.code yX11_buildLooked cX11_buildLooked 5 none :: wsK) 3 70 G [vR (some this), vI x1, vI x2, vI x3, vI x4] h none r := by
  refine r_entry (ctor := false) (own := RX11) (by decide +kernel) rfl (fun q => by cases q) (Nat.le_of_ble_eq_true rfl) ?_
  show RJ G l M_X11_buildLooked none r 0 [(0, vR (some this)), (1, vI x1), (2, vI x2), (3, vI x3), (4, vI x4)] [] h
  unfold f_X11_buildLooked at hf
  refine r_aload_n 0 dX11_buildLooked_0 rfl ?_
  obtain ⟨v1, e1, hf⟩ := ob hf
  refine r_get dX11_buildLooked_1 fl_11_7 kw_4_62 (Or.inl rfl) (gR_sp e1) ?_
  refine r_iload_n 3 dX11_buildLooked_4 rfl ?_
  refine r_aload_n 0 dX11_buildLooked_5 rfl ?_
  refine r_iload_n 1 dX11_buildLooked_6 rfl ?_
  refine r_iload_n 2 dX11_buildLooked_7 rfl ?_
  refine r_iload_n 3 dX11_buildLooked_8 rfl ?_
  refine r_iload 4 dX11_buildLooked_9 rfl ?_
  obtain ⟨a11, ea11, hf⟩ := ob hf
  obtain ⟨v11, e11, hf⟩ := ob hf
  refine r_callV (y := yX11_numberBy) (ci := 11) (avs := [vI x1, vI x2, vI x3, vI x4]) dX11_buildLooked_11 rfl kw_4_220 kw_4_222 kw_0_25 kw_1_5 kw_4_223 oky_X11_numberBy ⟨Nat.le_of_ble_eq_true rfl, Nat.le_of_ble_eq_true rfl⟩ rfl (Nat.le_of_ble_eq_true rfl) ea11 (k_X11_numberBy G l e11) ?_
  obtain ⟨h14, e14, hf⟩ := ob hf
  refine r_iastore dX11_buildLooked_14 e14 ?_
  refine r_aload_n 0 dX11_buildLooked_15 rfl ?_
  obtain ⟨v16, e16, hf⟩ := ob hf
  refine r_get dX11_buildLooked_16 fl_11_8 kw_4_63 (Or.inl rfl) (gR_sp e16) ?_
  refine r_iload_n 3 dX11_buildLooked_19 rfl ?_
  refine r_pc (pc' := 20) rfl ?_
  refine r_iconst (x := (4 : Int32)) dX11_buildLooked_20 (by decide) ?_
  obtain ⟨v21, e21, hf⟩ := ob hf
  refine r_idiv dX11_buildLooked_21 e21 ?_
  refine r_dup2 dX11_buildLooked_22 rfl rfl ?_
  obtain ⟨v23, e23, hf⟩ := ob hf
  refine r_iaload dX11_buildLooked_23 e23 ?_
  refine r_iconst (x := (1 : Int32)) dX11_buildLooked_24 (by decide) ?_
  refine r_iadd dX11_buildLooked_25 ?_
  obtain ⟨h26, e26, hf⟩ := ob hf
  refine r_iastore dX11_buildLooked_26 e26 ?_
  have hf := Option.some.inj hf
  subst hf
  exact r_vret rfl dX11_buildLooked_27
/-! ===== NumberedByAgeModel.builtAt(I)I ===== -/
abbrev M_X11_builtAt : Mx := (cX11_builtAt, 4, RX11, (false, []), (some .int), 0, 0)
def f_X11_builtAt_27 (h : Hp) (this : Nat) (k4 : Int32 → Int32 → Int32 → Option Int32) (x1 : Int32) (x3 : Int32) (s0 : Int32) : Option Int32 :=
    k4 x1 s0 (x3 + 1)
set_option maxRecDepth 100000 in
set_option maxHeartbeats 4000000 in
theorem t_X11_builtAt_27 (G : Gx) (l : Launch) (h : Hp) (this : Nat) (k4 : Int32 → Int32 → Int32 → Option Int32) (hk4 : ∀ (x1 : Int32) (x2 : Int32) (x3 : Int32) (r : Int32), k4 x1 x2 x3 = some r → RJ G l M_X11_builtAt (some (vI r)) h 4 [(0, vR (some this)), (1, vI x1), (2, vI x2), (3, vI x3)] [] h) (x1 : Int32) (x3 : Int32) (s0 : Int32) (r : Int32) (hf : f_X11_builtAt_27 h this k4 x1 x3 s0 = some r) : RJ G l M_X11_builtAt (some (vI r)) h 27 [(0, vR (some this)), (1, vI x1), (3, vI x3)] [vI s0] h := by
  unfold f_X11_builtAt_27 at hf
  refine r_istore_n (lv' := [(2, vI s0), (0, vR (some this)), (1, vI x1), (3, vI x3)]) dX11_builtAt_27 (Nat.le_of_ble_eq_true rfl) rfl ?_
  refine r_iinc (y := (x3 + 1)) (lv' := [(3, vI (x3 + 1)), (2, vI s0), (0, vR (some this)), (1, vI x1)]) 3 dX11_builtAt_28 rfl rfl (Nat.le_of_ble_eq_true rfl) rfl ?_
  refine r_goto (tgt := 4) dX11_builtAt_31 (by decide) ?_
  exact r_sub [2, 3, 1, 0] rfl (hk4 _ _ _ _ hf)
def f_X11_builtAt_4 (h : Hp) (this : Nat) : Nat → Int32 → Int32 → Int32 → Option Int32
  | 0, _, _, _ => none
  | n + 1, x1, x2, x3 =>
    (gI h (some this) [11] 2).bind fun v6 =>
    if v6 ≤ x3 then
      some x2
    else
      (gR h (some this) [11] 3).bind fun v13 =>
      (aI h v13 x3).bind fun v17 =>
      if v17 = x1 then
        f_X11_builtAt_27 h this (f_X11_builtAt_4 h this n) x1 x3 x3
      else
        f_X11_builtAt_27 h this (f_X11_builtAt_4 h this n) x1 x3 x2
set_option maxRecDepth 100000 in
set_option maxHeartbeats 4000000 in
theorem t_X11_builtAt_4 (G : Gx) (l : Launch) (h : Hp) (this : Nat)  : ∀ (n : Nat) (x1 : Int32) (x2 : Int32) (x3 : Int32) (r : Int32), f_X11_builtAt_4 h this n x1 x2 x3 = some r → RJ G l M_X11_builtAt (some (vI r)) h 4 [(0, vR (some this)), (1, vI x1), (2, vI x2), (3, vI x3)] [] h := by
  intro n
  induction n with
  | zero =>
    intro x1 x2 x3 r hf
    rw [f_X11_builtAt_4] at hf
    cases hf
  | succ n ih =>
    intro x1 x2 x3 r hf
    rw [f_X11_builtAt_4] at hf
    refine r_iload_n 3 dX11_builtAt_4 rfl ?_
    refine r_aload_n 0 dX11_builtAt_5 rfl ?_
    obtain ⟨v6, e6, hf⟩ := ob hf
    refine r_get dX11_builtAt_6 fl_11_2 kw_4_57 (Or.inl rfl) (gI_sp e6) ?_
    refine r_icmp_ge (tgt := 34) dX11_builtAt_9 (by decide) (fun c9 => ?_) (fun c9 => ?_)
    · replace hf := (if_pos c9).symm.trans hf
      refine r_iload_n 2 dX11_builtAt_34 rfl ?_
      have hf := Option.some.inj hf
      subst hf
      exact r_iret rfl dX11_builtAt_35
    · replace hf := (if_neg c9).symm.trans hf
      refine r_aload_n 0 dX11_builtAt_12 rfl ?_
      obtain ⟨v13, e13, hf⟩ := ob hf
      refine r_get dX11_builtAt_13 fl_11_3 kw_4_58 (Or.inl rfl) (gR_sp e13) ?_
      refine r_iload_n 3 dX11_builtAt_16 rfl ?_
      obtain ⟨v17, e17, hf⟩ := ob hf
      refine r_iaload dX11_builtAt_17 e17 ?_
      refine r_iload_n 1 dX11_builtAt_18 rfl ?_
      refine r_icmp_ne (tgt := 26) dX11_builtAt_19 (by decide) (fun c19 => ?_) (fun c19 => ?_)
      · replace hf := (if_pos c19).symm.trans hf
        refine r_iload_n 3 dX11_builtAt_22 rfl ?_
        refine r_goto (tgt := 27) dX11_builtAt_23 (by decide) ?_
        exact r_sub [0, 1, 3] rfl (t_X11_builtAt_27 G l _ _ (f_X11_builtAt_4 h this n) ih _ _ _ _ hf)
      · replace hf := (if_neg c19).symm.trans hf
        refine r_iload_n 2 dX11_builtAt_26 rfl ?_
        exact r_sub [0, 1, 3] rfl (t_X11_builtAt_27 G l _ _ (f_X11_builtAt_4 h this n) ih _ _ _ _ hf)
def f_X11_builtAt (h : Hp) (this : Nat) (x1 : Int32) : Option Int32 :=
    f_X11_builtAt_4 h this 10000 x1 (-1 : Int32) (0 : Int32)
set_option maxRecDepth 100000 in
set_option maxHeartbeats 4000000 in
theorem k_X11_builtAt (G : Gx) (l : Launch) {h : Hp} {this : Nat} {x1 : Int32} {r : Int32} (hf : f_X11_builtAt h this x1 = some r) : KM l yX11_builtAt (.code yX11_builtAt cX11_builtAt 4 (some .int) :: wsK) 0 0 G [vR (some this), vI x1] h (some (vI r)) h := by
  refine r_entry (ctor := false) (own := RX11) (by decide +kernel) rfl (fun q => by cases q) (Nat.le_of_ble_eq_true rfl) ?_
  show RJ G l M_X11_builtAt (some (vI r)) h 0 [(0, vR (some this)), (1, vI x1)] [] h
  unfold f_X11_builtAt at hf
  refine r_iconst (x := (-1 : Int32)) dX11_builtAt_0 (by decide) ?_
  refine r_istore_n (lv' := [(2, vI (-1 : Int32)), (0, vR (some this)), (1, vI x1)]) dX11_builtAt_1 (Nat.le_of_ble_eq_true rfl) rfl ?_
  refine r_iconst (x := (0 : Int32)) dX11_builtAt_2 (by decide) ?_
  refine r_istore_n (lv' := [(3, vI (0 : Int32)), (2, vI (-1 : Int32)), (0, vR (some this)), (1, vI x1)]) dX11_builtAt_3 (Nat.le_of_ble_eq_true rfl) rfl ?_
  exact r_sub [2, 3, 1, 0] rfl (t_X11_builtAt_4 G l _ _ _ _ _ _ _ hf)
/-! ===== NumberedByAgeModel.burns(I)V ===== -/
abbrev M_X11_burns : Mx := (cX11_burns, 2, RX11, (false, []), none, 0, 0)
def f_X11_burns (h : Hp) (this : Nat) (x1 : Int32) : Option Hp :=
    (gR h (some this) [11] 5).bind fun v1 =>
    (wI h v1 x1 (0 : Int32)).bind fun h6 =>
    (gR h6 (some this) [11] 3).bind fun v8 =>
    (gI h6 (some this) [11] 2).bind fun v12 =>
    (wI h6 v8 v12 x1).bind fun h16 =>
    (gR h16 (some this) [11] 4).bind fun v18 =>
    (gI h16 (some this) [11] 2).bind fun v22 =>
    (wI h16 v18 v22 (0 : Int32)).bind fun h26 =>
    (gI h26 (some this) [11] 2).bind fun v29 =>
    (pF h26 (some this) [11] 2 (vI (v29 + (1 : Int32)))).bind fun h34 =>
    some h34
set_option maxRecDepth 100000 in
set_option maxHeartbeats 4000000 in
theorem k_X11_burns (G : Gx) (l : Launch) {h : Hp} {this : Nat} {x1 : Int32} {r : Hp} (hf : f_X11_burns h this x1 = some r) : KM l yX11_burns (.code yX11_burns cX11_burns 2 none :: wsK) 0 0 G [vR (some this), vI x1] h none r := by
  refine r_entry (ctor := false) (own := RX11) (by decide +kernel) rfl (fun q => by cases q) (Nat.le_of_ble_eq_true rfl) ?_
  show RJ G l M_X11_burns none r 0 [(0, vR (some this)), (1, vI x1)] [] h
  unfold f_X11_burns at hf
  refine r_aload_n 0 dX11_burns_0 rfl ?_
  obtain ⟨v1, e1, hf⟩ := ob hf
  refine r_get dX11_burns_1 fl_11_5 kw_4_60 (Or.inl rfl) (gR_sp e1) ?_
  refine r_iload_n 1 dX11_burns_4 rfl ?_
  refine r_iconst (x := (0 : Int32)) dX11_burns_5 (by decide) ?_
  obtain ⟨h6, e6, hf⟩ := ob hf
  refine r_iastore dX11_burns_6 e6 ?_
  refine r_aload_n 0 dX11_burns_7 rfl ?_
  obtain ⟨v8, e8, hf⟩ := ob hf
  refine r_get dX11_burns_8 fl_11_3 kw_4_58 (Or.inl rfl) (gR_sp e8) ?_
  refine r_aload_n 0 dX11_burns_11 rfl ?_
  obtain ⟨v12, e12, hf⟩ := ob hf
  refine r_get dX11_burns_12 fl_11_2 kw_4_57 (Or.inl rfl) (gI_sp e12) ?_
  refine r_iload_n 1 dX11_burns_15 rfl ?_
  obtain ⟨h16, e16, hf⟩ := ob hf
  refine r_iastore dX11_burns_16 e16 ?_
  refine r_aload_n 0 dX11_burns_17 rfl ?_
  obtain ⟨v18, e18, hf⟩ := ob hf
  refine r_get dX11_burns_18 fl_11_4 kw_4_59 (Or.inl rfl) (gR_sp e18) ?_
  refine r_pc (pc' := 21) rfl ?_
  refine r_aload_n 0 dX11_burns_21 rfl ?_
  obtain ⟨v22, e22, hf⟩ := ob hf
  refine r_get dX11_burns_22 fl_11_2 kw_4_57 (Or.inl rfl) (gI_sp e22) ?_
  refine r_iconst (x := (0 : Int32)) dX11_burns_25 (by decide) ?_
  obtain ⟨h26, e26, hf⟩ := ob hf
  refine r_iastore dX11_burns_26 e26 ?_
  refine r_aload_n 0 dX11_burns_27 rfl ?_
  refine r_dup dX11_burns_28 rfl ?_
  obtain ⟨v29, e29, hf⟩ := ob hf
  refine r_get dX11_burns_29 fl_11_2 kw_4_57 (Or.inl rfl) (gI_sp e29) ?_
  refine r_iconst (x := (1 : Int32)) dX11_burns_32 (by decide) ?_
  refine r_iadd dX11_burns_33 ?_
  obtain ⟨h34, e34, hf⟩ := ob hf
  refine r_put dX11_burns_34 fl_11_2 kw_4_57 (Or.inl rfl) (by decide +kernel) (fit_int _) e34 ?_
  have hf := Option.some.inj hf
  subst hf
  exact r_vret rfl dX11_burns_37
/-! ===== NumberedByAgeModel.burn(I)I ===== -/
abbrev M_X11_burn : Mx := (cX11_burn, 3, RX11, (false, []), (some .int), 2, 45)
def f_X11_burn_32 (this : Nat) (h : Hp) (x1 : Int32) : Option (Int32 × Hp) :=
    (gR h (some this) [11] 5).bind fun v33 =>
    (aI h v33 x1).bind fun v37 =>
    if v37 = 0 then
      some ((-3 : Int32), h)
    else
      some ((-2 : Int32), h)
set_option maxRecDepth 100000 in
set_option maxHeartbeats 4000000 in
theorem t_X11_burn_32 (G : Gx) (l : Launch) (this : Nat)  (h : Hp) (x1 : Int32) (r : (Int32 × Hp)) (hf : f_X11_burn_32 this h x1 = some r) : RJ G l M_X11_burn (some (vI r.1)) r.2 32 [(0, vR (some this)), (1, vI x1)] [] h := by
  unfold f_X11_burn_32 at hf
  refine r_aload_n 0 dX11_burn_32 rfl ?_
  obtain ⟨v33, e33, hf⟩ := ob hf
  refine r_get dX11_burn_33 fl_11_5 kw_4_60 (Or.inl rfl) (gR_sp e33) ?_
  refine r_iload_n 1 dX11_burn_36 rfl ?_
  obtain ⟨v37, e37, hf⟩ := ob hf
  refine r_iaload dX11_burn_37 e37 ?_
  refine r_if_ne (tgt := 46) dX11_burn_38 (by decide) (fun c38 => ?_) (fun c38 => ?_)
  · replace hf := (if_pos c38).symm.trans hf
    refine r_bipush (x := (-3 : Int32)) dX11_burn_41 (by decide) ?_
    refine r_goto (tgt := 48) dX11_burn_43 (by decide) ?_
    have hf := Option.some.inj hf
    subst hf
    exact r_iret rfl dX11_burn_48
  · replace hf := (if_neg c38).symm.trans hf
    refine r_bipush (x := (-2 : Int32)) dX11_burn_46 (by decide) ?_
    have hf := Option.some.inj hf
    subst hf
    exact r_iret rfl dX11_burn_48
def f_X11_burn (h : Hp) (this : Nat) (x1 : Int32) : Option (Int32 × Hp) :=
    (pF h (some this) [11] 6 (vI (0 : Int32))).bind fun h2 =>
    (f_X11_isPlot h2 x1).bind fun v6 =>
    if v6 = 0 then
      some ((-1 : Int32), h2)
    else
      (gR h2 (some this) [11] 5).bind fun v15 =>
      (aI h2 v15 x1).bind fun v19 =>
      if v19 = 0 then
        f_X11_burn_32 this h2 x1
      else
        (gI h2 (some this) [11] 2).bind fun v24 =>
        if v24 = (30 : Int32) then
          f_X11_burn_32 this h2 x1
        else
          (gR h2 (some this) [11] 5).bind fun v50 =>
          (aI h2 v50 x1).bind fun v54 =>
          (rcv h2 (some this) 11).bind fun a58 =>
          (f_X11_burns h2 a58 x1).bind fun h58 =>
          some (v54, h58)
set_option maxRecDepth 100000 in
set_option maxHeartbeats 4000000 in
theorem k_X11_burn (G : Gx) (l : Launch) {h : Hp} {this : Nat} {x1 : Int32} {r : (Int32 × Hp)} (hf : f_X11_burn h this x1 = some r) : KM l yX11_burn (.code yX11_burn cX11_burn 3 (some .int) :: wsK) 2 45 G [vR (some this), vI x1] h (some (vI r.1)) r.2 := by
  refine r_entry (ctor := false) (own := RX11) (by decide +kernel) rfl (fun q => by cases q) (Nat.le_of_ble_eq_true rfl) ?_
  show RJ G l M_X11_burn (some (vI r.1)) r.2 0 [(0, vR (some this)), (1, vI x1)] [] h
  unfold f_X11_burn at hf
  refine r_aload_n 0 dX11_burn_0 rfl ?_
  refine r_iconst (x := (0 : Int32)) dX11_burn_1 (by decide) ?_
  obtain ⟨h2, e2, hf⟩ := ob hf
  refine r_put dX11_burn_2 fl_11_6 kw_4_61 (Or.inl rfl) (by decide +kernel) (fit_int _) e2 ?_
  refine r_iload_n 1 dX11_burn_5 rfl ?_
  obtain ⟨v6, e6, hf⟩ := ob hf
  refine r_callS (y := yX11_isPlot) (avs := [vI x1]) dX11_burn_6 kw_5_15 kw_5_16 kw_1_5 kw_5_17 oky_X11_isPlot ⟨Nat.le_of_ble_eq_true rfl, Nat.le_of_ble_eq_true rfl⟩ rfl (Nat.le_of_ble_eq_true rfl) (k_X11_isPlot G l e6) ?_
  refine r_if_ne (tgt := 14) dX11_burn_9 (by decide) (fun c9 => ?_) (fun c9 => ?_)
  · replace hf := (if_pos c9).symm.trans hf
    refine r_iconst (x := (-1 : Int32)) dX11_burn_12 (by decide) ?_
    have hf := Option.some.inj hf
    subst hf
    exact r_iret rfl dX11_burn_13
  · replace hf := (if_neg c9).symm.trans hf
    refine r_aload_n 0 dX11_burn_14 rfl ?_
    obtain ⟨v15, e15, hf⟩ := ob hf
    refine r_get dX11_burn_15 fl_11_5 kw_4_60 (Or.inl rfl) (gR_sp e15) ?_
    refine r_iload_n 1 dX11_burn_18 rfl ?_
    obtain ⟨v19, e19, hf⟩ := ob hf
    refine r_iaload dX11_burn_19 e19 ?_
    refine r_if_eq (tgt := 32) dX11_burn_20 (by decide) (fun c20 => ?_) (fun c20 => ?_)
    · replace hf := (if_pos c20).symm.trans hf
      exact r_sub [0, 1] rfl (t_X11_burn_32 G l _ _ _ _ hf)
    · replace hf := (if_neg c20).symm.trans hf
      refine r_aload_n 0 dX11_burn_23 rfl ?_
      obtain ⟨v24, e24, hf⟩ := ob hf
      refine r_get dX11_burn_24 fl_11_2 kw_4_57 (Or.inl rfl) (gI_sp e24) ?_
      refine r_bipush (x := (30 : Int32)) dX11_burn_27 (by decide) ?_
      refine r_icmp_ne (tgt := 49) dX11_burn_29 (by decide) (fun c29 => ?_) (fun c29 => ?_)
      · replace hf := (if_pos c29).symm.trans hf
        exact r_sub [0, 1] rfl (t_X11_burn_32 G l _ _ _ _ hf)
      · replace hf := (if_neg c29).symm.trans hf
        refine r_aload_n 0 dX11_burn_49 rfl ?_
        obtain ⟨v50, e50, hf⟩ := ob hf
        refine r_get dX11_burn_50 fl_11_5 kw_4_60 (Or.inl rfl) (gR_sp e50) ?_
        refine r_iload_n 1 dX11_burn_53 rfl ?_
        obtain ⟨v54, e54, hf⟩ := ob hf
        refine r_iaload dX11_burn_54 e54 ?_
        refine r_istore_n (lv' := [(2, vI v54), (0, vR (some this)), (1, vI x1)]) dX11_burn_55 (Nat.le_of_ble_eq_true rfl) rfl ?_
        refine r_aload_n 1 dX11_burn_56 rfl ?_
        refine r_iload_n 2 dX11_burn_57 rfl ?_
        obtain ⟨a58, ea58, hf⟩ := ob hf
        obtain ⟨h58, e58, hf⟩ := ob hf
        refine r_callV (y := yX11_burns) (ci := 11) (avs := [vI x1]) dX11_burn_58 rfl kw_4_239 kw_5_1 kw_0_29 kw_1_5 kw_5_2 oky_X11_burns ⟨Nat.le_of_ble_eq_true rfl, Nat.le_of_ble_eq_true rfl⟩ rfl (Nat.le_of_ble_eq_true rfl) ea58 (k_X11_burns G l e58) ?_
        refine r_iload_n 0 dX11_burn_61 rfl ?_
        have hf := Option.some.inj hf
        subst hf
        exact r_iret rfl dX11_burn_62
/-! ===== NumberedByAgeModel.replay(II)V ===== -/
abbrev M_X11_replay : Mx := (cX11_replay, 4, RX11, (false, []), none, 4, 94)
def f_X11_replay_56 (this : Nat) (k6 : Hp → Int32 → Int32 → Int32 → Option Hp) (h : Hp) (x1 : Int32) (x2 : Int32) (x3 : Int32) : Option Hp :=
    k6 h x1 x2 (x3 + 1)
set_option maxRecDepth 100000 in
set_option maxHeartbeats 4000000 in
theorem t_X11_replay_56 (G : Gx) (l : Launch) (this : Nat) (k6 : Hp → Int32 → Int32 → Int32 → Option Hp) (hk6 : ∀ (h : Hp) (x1 : Int32) (x2 : Int32) (x3 : Int32) (r : Hp), k6 h x1 x2 x3 = some r → RJ G l M_X11_replay none r 6 [(0, vR (some this)), (1, vI x1), (2, vI x2), (3, vI x3)] [] h) (h : Hp) (x1 : Int32) (x2 : Int32) (x3 : Int32) (r : Hp) (hf : f_X11_replay_56 this k6 h x1 x2 x3 = some r) : RJ G l M_X11_replay none r 56 [(0, vR (some this)), (1, vI x1), (2, vI x2), (3, vI x3)] [] h := by
  unfold f_X11_replay_56 at hf
  refine r_iinc (y := (x3 + 1)) (lv' := [(3, vI (x3 + 1)), (0, vR (some this)), (1, vI x1), (2, vI x2)]) 3 dX11_replay_56 rfl rfl (Nat.le_of_ble_eq_true rfl) rfl ?_
  refine r_goto (tgt := 6) dX11_replay_59 (by decide) ?_
  exact r_sub [1, 2, 3, 0] rfl (hk6 _ _ _ _ _ hf)
def f_X11_replay_6 (this : Nat) : Nat → Hp → Int32 → Int32 → Int32 → Option Hp
  | 0, _, _, _, _ => none
  | n + 1, h, x1, x2, x3 =>
    (gI h (some this) [11] 2).bind fun v8 =>
    if v8 ≤ x3 then
      some h
    else
      (gR h (some this) [11] 4).bind fun v15 =>
      (aI h v15 x3).bind fun v19 =>
      if v19 ≤ 0 then
        (gR h (some this) [11] 7).bind fun v45 =>
        (gR h (some this) [11] 3).bind fun v49 =>
        (aI h v49 x3).bind fun v53 =>
        (wI h v45 v53 (0 : Int32)).bind fun h55 =>
        f_X11_replay_56 this (f_X11_replay_6 this n) h55 x1 x2 x3
      else
        (gR h (some this) [11] 3).bind fun v27 =>
        (aI h v27 x3).bind fun v31 =>
        (gR h (some this) [11] 4).bind fun v33 =>
        (aI h v33 x3).bind fun v37 =>
        (rcv h (some this) 11).bind fun a38 =>
        (f_X11_buildLooked h a38 x1 x2 v31 v37).bind fun h38 =>
        f_X11_replay_56 this (f_X11_replay_6 this n) h38 x1 x2 x3
set_option maxRecDepth 100000 in
set_option maxHeartbeats 4000000 in
theorem t_X11_replay_6 (G : Gx) (l : Launch) (this : Nat)  : ∀ (n : Nat) (h : Hp) (x1 : Int32) (x2 : Int32) (x3 : Int32) (r : Hp), f_X11_replay_6 this n h x1 x2 x3 = some r → RJ G l M_X11_replay none r 6 [(0, vR (some this)), (1, vI x1), (2, vI x2), (3, vI x3)] [] h := by
  intro n
  induction n with
  | zero =>
    intro h x1 x2 x3 r hf
    rw [f_X11_replay_6] at hf
    cases hf
  | succ n ih =>
    intro h x1 x2 x3 r hf
    rw [f_X11_replay_6] at hf
    refine r_iload_n 3 dX11_replay_6 rfl ?_
    refine r_aload_n 0 dX11_replay_7 rfl ?_
    obtain ⟨v8, e8, hf⟩ := ob hf
    refine r_get dX11_replay_8 fl_11_2 kw_4_57 (Or.inl rfl) (gI_sp e8) ?_
    refine r_icmp_ge (tgt := 62) dX11_replay_11 (by decide) (fun c11 => ?_) (fun c11 => ?_)
    · replace hf := (if_pos c11).symm.trans hf
      have hf := Option.some.inj hf
      subst hf
      exact r_vret rfl dX11_replay_62
    · replace hf := (if_neg c11).symm.trans hf
      refine r_aload_n 0 dX11_replay_14 rfl ?_
      obtain ⟨v15, e15, hf⟩ := ob hf
      refine r_get dX11_replay_15 fl_11_4 kw_4_59 (Or.inl rfl) (gR_sp e15) ?_
      refine r_iload_n 3 dX11_replay_18 rfl ?_
      obtain ⟨v19, e19, hf⟩ := ob hf
      refine r_iaload dX11_replay_19 e19 ?_
      refine r_if_le (tgt := 44) dX11_replay_20 (by decide) (fun c20 => ?_) (fun c20 => ?_)
      · replace hf := (if_pos c20).symm.trans hf
        refine r_aload_n 0 dX11_replay_44 rfl ?_
        obtain ⟨v45, e45, hf⟩ := ob hf
        refine r_get dX11_replay_45 fl_11_7 kw_4_62 (Or.inl rfl) (gR_sp e45) ?_
        refine r_aload_n 0 dX11_replay_48 rfl ?_
        obtain ⟨v49, e49, hf⟩ := ob hf
        refine r_get dX11_replay_49 fl_11_3 kw_4_58 (Or.inl rfl) (gR_sp e49) ?_
        refine r_iload_n 3 dX11_replay_52 rfl ?_
        obtain ⟨v53, e53, hf⟩ := ob hf
        refine r_iaload dX11_replay_53 e53 ?_
        refine r_iconst (x := (0 : Int32)) dX11_replay_54 (by decide) ?_
        obtain ⟨h55, e55, hf⟩ := ob hf
        refine r_iastore dX11_replay_55 e55 ?_
        exact r_sub [0, 1, 2, 3] rfl (t_X11_replay_56 G l _ (f_X11_replay_6 this n) ih _ _ _ _ _ hf)
      · replace hf := (if_neg c20).symm.trans hf
        refine r_aload_n 0 dX11_replay_23 rfl ?_
        refine r_iload_n 1 dX11_replay_24 rfl ?_
        refine r_iload_n 2 dX11_replay_25 rfl ?_
        refine r_aload_n 0 dX11_replay_26 rfl ?_
        obtain ⟨v27, e27, hf⟩ := ob hf
        refine r_get dX11_replay_27 fl_11_3 kw_4_58 (Or.inl rfl) (gR_sp e27) ?_
        refine r_iload_n 3 dX11_replay_30 rfl ?_
        obtain ⟨v31, e31, hf⟩ := ob hf
        refine r_iaload dX11_replay_31 e31 ?_
        refine r_aload_n 0 dX11_replay_32 rfl ?_
        obtain ⟨v33, e33, hf⟩ := ob hf
        refine r_get dX11_replay_33 fl_11_4 kw_4_59 (Or.inl rfl) (gR_sp e33) ?_
        refine r_iload_n 3 dX11_replay_36 rfl ?_
        obtain ⟨v37, e37, hf⟩ := ob hf
        refine r_iaload dX11_replay_37 e37 ?_
        obtain ⟨a38, ea38, hf⟩ := ob hf
        obtain ⟨h38, e38, hf⟩ := ob hf
        refine r_callV (y := yX11_buildLooked) (ci := 11) (avs := [vI x1, vI x2, vI v31, vI v37]) dX11_replay_38 rfl kw_5_102 kw_5_104 kw_0_37 kw_1_5 kw_5_105 oky_X11_buildLooked ⟨Nat.le_of_ble_eq_true rfl, Nat.le_of_ble_eq_true rfl⟩ rfl (Nat.le_of_ble_eq_true rfl) ea38 (k_X11_buildLooked G l e38) ?_
        refine r_goto (tgt := 56) dX11_replay_41 (by decide) ?_
        exact r_sub [0, 1, 2, 3] rfl (t_X11_replay_56 G l _ (f_X11_replay_6 this n) ih _ _ _ _ _ hf)
def f_X11_replay (h : Hp) (this : Nat) (x1 : Int32) (x2 : Int32) : Option Hp :=
    (rcv h (some this) 11).bind fun a1 =>
    (f_X11_lookEmpty h a1).bind fun h1 =>
    f_X11_replay_6 this 10000 h1 x1 x2 (0 : Int32)
set_option maxRecDepth 100000 in
set_option maxHeartbeats 4000000 in
theorem k_X11_replay (G : Gx) (l : Launch) {h : Hp} {this : Nat} {x1 : Int32} {x2 : Int32} {r : Hp} (hf : f_X11_replay h this x1 x2 = some r) : KM l yX11_replay (.code yX11_replay cX11_replay 4 none :: wsK) 4 94 G [vR (some this), vI x1, vI x2] h none r := by
  refine r_entry (ctor := false) (own := RX11) (by decide +kernel) rfl (fun q => by cases q) (Nat.le_of_ble_eq_true rfl) ?_
  show RJ G l M_X11_replay none r 0 [(0, vR (some this)), (1, vI x1), (2, vI x2)] [] h
  unfold f_X11_replay at hf
  refine r_aload_n 0 dX11_replay_0 rfl ?_
  obtain ⟨a1, ea1, hf⟩ := ob hf
  obtain ⟨h1, e1, hf⟩ := ob hf
  refine r_callV (y := yX11_lookEmpty) (ci := 11) (avs := []) dX11_replay_1 rfl kw_4_216 kw_4_218 kw_0_24 kw_1_5 kw_4_219 oky_X11_lookEmpty ⟨Nat.le_of_ble_eq_true rfl, Nat.le_of_ble_eq_true rfl⟩ rfl (Nat.le_of_ble_eq_true rfl) ea1 (k_X11_lookEmpty G l e1) ?_
  refine r_iconst (x := (0 : Int32)) dX11_replay_4 (by decide) ?_
  refine r_istore_n (lv' := [(3, vI (0 : Int32)), (0, vR (some this)), (1, vI x1), (2, vI x2)]) dX11_replay_5 (Nat.le_of_ble_eq_true rfl) rfl ?_
  exact r_sub [1, 2, 3, 0] rfl (t_X11_replay_6 G l _ _ _ _ _ _ _ hf)
/-! ===== NumberedByAgeModel.byLaw(III)I ===== -/
abbrev M_X11_byLaw : Mx := (cX11_byLaw, 4, RX11, (false, []), (some .int), 5, 117)
def f_X11_byLaw (h : Hp) (this : Nat) (x1 : Int32) (x2 : Int32) (x3 : Int32) : Option (Int32 × Hp) :=
    (pF h (some this) [11] 6 (vI (0 : Int32))).bind fun h2 =>
    (f_X11_isPlot h2 x1).bind fun v6 =>
    if v6 = 0 then
      some ((-1 : Int32), h2)
    else
      (f_X11_in h2 x2.toInt64 (0 : Int64) (7 : Int64)).bind fun v18 =>
      if v18 = 0 then
        some ((-1 : Int32), h2)
      else
        (f_X11_in h2 x3.toInt64 (0 : Int64) (9 : Int64)).bind fun v30 =>
        if v30 = 0 then
          some ((-1 : Int32), h2)
        else
          (rcv h2 (some this) 11).bind fun a41 =>
          (f_X11_replay h2 a41 x2 x3).bind fun h41 =>
          (gR h41 (some this) [11] 7).bind fun v45 =>
          (aI h41 v45 x1).bind fun v49 =>
          if v49 = 0 then
            some ((-4 : Int32), h41)
          else
            (gR h41 (some this) [11] 7).bind fun v59 =>
            (aI h41 v59 x1).bind fun v63 =>
            some (v63, h41)
set_option maxRecDepth 100000 in
set_option maxHeartbeats 4000000 in
theorem k_X11_byLaw (G : Gx) (l : Launch) {h : Hp} {this : Nat} {x1 : Int32} {x2 : Int32} {x3 : Int32} {r : (Int32 × Hp)} (hf : f_X11_byLaw h this x1 x2 x3 = some r) : KM l yX11_byLaw (.code yX11_byLaw cX11_byLaw 4 (some .int) :: wsK) 5 117 G [vR (some this), vI x1, vI x2, vI x3] h (some (vI r.1)) r.2 := by
  refine r_entry (ctor := false) (own := RX11) (by decide +kernel) rfl (fun q => by cases q) (Nat.le_of_ble_eq_true rfl) ?_
  show RJ G l M_X11_byLaw (some (vI r.1)) r.2 0 [(0, vR (some this)), (1, vI x1), (2, vI x2), (3, vI x3)] [] h
  unfold f_X11_byLaw at hf
  refine r_aload_n 0 dX11_byLaw_0 rfl ?_
  refine r_iconst (x := (0 : Int32)) dX11_byLaw_1 (by decide) ?_
  obtain ⟨h2, e2, hf⟩ := ob hf
  refine r_put dX11_byLaw_2 fl_11_6 kw_4_61 (Or.inl rfl) (by decide +kernel) (fit_int _) e2 ?_
  refine r_iload_n 1 dX11_byLaw_5 rfl ?_
  obtain ⟨v6, e6, hf⟩ := ob hf
  refine r_callS (y := yX11_isPlot) (avs := [vI x1]) dX11_byLaw_6 kw_5_15 kw_5_16 kw_1_5 kw_5_17 oky_X11_isPlot ⟨Nat.le_of_ble_eq_true rfl, Nat.le_of_ble_eq_true rfl⟩ rfl (Nat.le_of_ble_eq_true rfl) (k_X11_isPlot G l e6) ?_
  refine r_if_eq (tgt := 36) dX11_byLaw_9 (by decide) (fun c9 => ?_) (fun c9 => ?_)
  · replace hf := (if_pos c9).symm.trans hf
    refine r_iconst (x := (-1 : Int32)) dX11_byLaw_36 (by decide) ?_
    have hf := Option.some.inj hf
    subst hf
    exact r_iret rfl dX11_byLaw_37
  · replace hf := (if_neg c9).symm.trans hf
    refine r_iload_n 2 dX11_byLaw_12 rfl ?_
    refine r_i2l dX11_byLaw_13 ?_
    refine r_lconst (x := (0 : Int64)) dX11_byLaw_14 (by decide) ?_
    refine r_ldc2 (x := (7 : Int64)) dX11_byLaw_15 kw_4_178 ?_
    obtain ⟨v18, e18, hf⟩ := ob hf
    refine r_callS (y := yX11_in) (avs := [vL x2.toInt64, vL (0 : Int64), vL (7 : Int64)]) dX11_byLaw_18 kw_4_179 kw_4_180 kw_1_5 kw_4_181 oky_X11_in ⟨Nat.le_of_ble_eq_true rfl, Nat.le_of_ble_eq_true rfl⟩ rfl (Nat.le_of_ble_eq_true rfl) (k_X11_in G l e18) ?_
    refine r_if_eq (tgt := 36) dX11_byLaw_21 (by decide) (fun c21 => ?_) (fun c21 => ?_)
    · replace hf := (if_pos c21).symm.trans hf
      refine r_iconst (x := (-1 : Int32)) dX11_byLaw_36 (by decide) ?_
      have hf := Option.some.inj hf
      subst hf
      exact r_iret rfl dX11_byLaw_37
    · replace hf := (if_neg c21).symm.trans hf
      refine r_iload_n 3 dX11_byLaw_24 rfl ?_
      refine r_i2l dX11_byLaw_25 ?_
      refine r_lconst (x := (0 : Int64)) dX11_byLaw_26 (by decide) ?_
      refine r_ldc2 (x := (9 : Int64)) dX11_byLaw_27 kw_5_19 ?_
      obtain ⟨v30, e30, hf⟩ := ob hf
      refine r_callS (y := yX11_in) (avs := [vL x3.toInt64, vL (0 : Int64), vL (9 : Int64)]) dX11_byLaw_30 kw_4_179 kw_4_180 kw_1_5 kw_4_181 oky_X11_in ⟨Nat.le_of_ble_eq_true rfl, Nat.le_of_ble_eq_true rfl⟩ rfl (Nat.le_of_ble_eq_true rfl) (k_X11_in G l e30) ?_
      refine r_if_ne (tgt := 38) dX11_byLaw_33 (by decide) (fun c33 => ?_) (fun c33 => ?_)
      · replace hf := (if_pos c33).symm.trans hf
        refine r_iconst (x := (-1 : Int32)) dX11_byLaw_36 (by decide) ?_
        have hf := Option.some.inj hf
        subst hf
        exact r_iret rfl dX11_byLaw_37
      · replace hf := (if_neg c33).symm.trans hf
        refine r_aload_n 0 dX11_byLaw_38 rfl ?_
        refine r_iload_n 2 dX11_byLaw_39 rfl ?_
        refine r_iload_n 3 dX11_byLaw_40 rfl ?_
        obtain ⟨a41, ea41, hf⟩ := ob hf
        obtain ⟨h41, e41, hf⟩ := ob hf
        refine r_callV (y := yX11_replay) (ci := 11) (avs := [vI x2, vI x3]) dX11_byLaw_41 rfl kw_5_98 kw_5_100 kw_0_36 kw_1_5 kw_5_101 oky_X11_replay ⟨Nat.le_of_ble_eq_true rfl, Nat.le_of_ble_eq_true rfl⟩ rfl (Nat.le_of_ble_eq_true rfl) ea41 (k_X11_replay G l e41) ?_
        refine r_aload_n 0 dX11_byLaw_44 rfl ?_
        obtain ⟨v45, e45, hf⟩ := ob hf
        refine r_get dX11_byLaw_45 fl_11_7 kw_4_62 (Or.inl rfl) (gR_sp e45) ?_
        refine r_iload_n 1 dX11_byLaw_48 rfl ?_
        obtain ⟨v49, e49, hf⟩ := ob hf
        refine r_iaload dX11_byLaw_49 e49 ?_
        refine r_if_ne (tgt := 58) dX11_byLaw_50 (by decide) (fun c50 => ?_) (fun c50 => ?_)
        · replace hf := (if_pos c50).symm.trans hf
          refine r_bipush (x := (-4 : Int32)) dX11_byLaw_53 (by decide) ?_
          refine r_goto (tgt := 64) dX11_byLaw_55 (by decide) ?_
          have hf := Option.some.inj hf
          subst hf
          exact r_iret rfl dX11_byLaw_64
        · replace hf := (if_neg c50).symm.trans hf
          refine r_aload_n 0 dX11_byLaw_58 rfl ?_
          obtain ⟨v59, e59, hf⟩ := ob hf
          refine r_get dX11_byLaw_59 fl_11_7 kw_4_62 (Or.inl rfl) (gR_sp e59) ?_
          refine r_iload_n 1 dX11_byLaw_62 rfl ?_
          obtain ⟨v63, e63, hf⟩ := ob hf
          refine r_iaload dX11_byLaw_63 e63 ?_
          have hf := Option.some.inj hf
          subst hf
          exact r_iret rfl dX11_byLaw_64
/-! ===== NumberedByAgeModel.carry(I)I ===== -/
abbrev M_X11_carry : Mx := (cX11_carry, 2, RX11, (false, []), (some .int), 0, 0)
def f_X11_carry_17 (this : Nat) (h : Hp) : Option (Int32 × Hp) :=
    (gI h (some this) [11] 21).bind fun v19 =>
    (pF h (some this) [11] 21 (vI (v19 + (1 : Int32)))).bind fun h24 =>
    (gR h24 (some this) [11] 23).bind fun v28 =>
    (gI h24 (some this) [11] 21).bind fun v32 =>
    (aI h24 v28 (v32 - (1 : Int32))).bind fun v37 =>
    some (v37, h24)
set_option maxRecDepth 100000 in
set_option maxHeartbeats 4000000 in
theorem t_X11_carry_17 (G : Gx) (l : Launch) (this : Nat)  (h : Hp) (r : (Int32 × Hp)) (hf : f_X11_carry_17 this h = some r) : RJ G l M_X11_carry (some (vI r.1)) r.2 17 [(0, vR (some this))] [] h := by
  unfold f_X11_carry_17 at hf
  refine r_aload_n 0 dX11_carry_17 rfl ?_
  refine r_dup dX11_carry_18 rfl ?_
  obtain ⟨v19, e19, hf⟩ := ob hf
  refine r_get dX11_carry_19 fl_11_21 kw_4_76 (Or.inl rfl) (gI_sp e19) ?_
  refine r_iconst (x := (1 : Int32)) dX11_carry_22 (by decide) ?_
  refine r_iadd dX11_carry_23 ?_
  obtain ⟨h24, e24, hf⟩ := ob hf
  refine r_put dX11_carry_24 fl_11_21 kw_4_76 (Or.inl rfl) (by decide +kernel) (fit_int _) e24 ?_
  refine r_aload_n 0 dX11_carry_27 rfl ?_
  obtain ⟨v28, e28, hf⟩ := ob hf
  refine r_get dX11_carry_28 fl_11_23 kw_4_78 (Or.inl rfl) (gR_sp e28) ?_
  refine r_aload_n 0 dX11_carry_31 rfl ?_
  obtain ⟨v32, e32, hf⟩ := ob hf
  refine r_get dX11_carry_32 fl_11_21 kw_4_76 (Or.inl rfl) (gI_sp e32) ?_
  refine r_iconst (x := (1 : Int32)) dX11_carry_35 (by decide) ?_
  refine r_isub dX11_carry_36 ?_
  obtain ⟨v37, e37, hf⟩ := ob hf
  refine r_iaload dX11_carry_37 e37 ?_
  refine r_pc (pc' := 38) rfl ?_
  have hf := Option.some.inj hf
  subst hf
  exact r_iret rfl dX11_carry_38
def f_X11_carry (h : Hp) (this : Nat) (x1 : Int32) : Option (Int32 × Hp) :=
    (gI h (some this) [11] 22).bind fun v1 =>
    if v1 = 0 then
      f_X11_carry_17 this h
    else
      (gR h (some this) [11] 23).bind fun v8 =>
      (gI h (some this) [11] 21).bind fun v12 =>
      (wI h v8 v12 x1).bind fun h16 =>
      f_X11_carry_17 this h16
set_option maxRecDepth 100000 in
set_option maxHeartbeats 4000000 in
theorem k_X11_carry (G : Gx) (l : Launch) {h : Hp} {this : Nat} {x1 : Int32} {r : (Int32 × Hp)} (hf : f_X11_carry h this x1 = some r) : KM l yX11_carry (.code yX11_carry cX11_carry 2 (some .int) :: wsK) 0 0 G [vR (some this), vI x1] h (some (vI r.1)) r.2 := by
  refine r_entry (ctor := false) (own := RX11) (by decide +kernel) rfl (fun q => by cases q) (Nat.le_of_ble_eq_true rfl) ?_
  show RJ G l M_X11_carry (some (vI r.1)) r.2 0 [(0, vR (some this)), (1, vI x1)] [] h
  unfold f_X11_carry at hf
  refine r_aload_n 0 dX11_carry_0 rfl ?_
  obtain ⟨v1, e1, hf⟩ := ob hf
  refine r_get dX11_carry_1 fl_11_22 kw_4_77 (Or.inl rfl) (gI_sp e1) ?_
  refine r_if_eq (tgt := 17) dX11_carry_4 (by decide) (fun c4 => ?_) (fun c4 => ?_)
  · replace hf := (if_pos c4).symm.trans hf
    exact r_sub [0] rfl (t_X11_carry_17 G l _ _ _ hf)
  · replace hf := (if_neg c4).symm.trans hf
    refine r_aload_n 0 dX11_carry_7 rfl ?_
    obtain ⟨v8, e8, hf⟩ := ob hf
    refine r_get dX11_carry_8 fl_11_23 kw_4_78 (Or.inl rfl) (gR_sp e8) ?_
    refine r_aload_n 0 dX11_carry_11 rfl ?_
    obtain ⟨v12, e12, hf⟩ := ob hf
    refine r_get dX11_carry_12 fl_11_21 kw_4_76 (Or.inl rfl) (gI_sp e12) ?_
    refine r_iload_n 1 dX11_carry_15 rfl ?_
    obtain ⟨h16, e16, hf⟩ := ob hf
    refine r_iastore dX11_carry_16 e16 ?_
    exact r_sub [0] rfl (t_X11_carry_17 G l _ _ _ hf)
