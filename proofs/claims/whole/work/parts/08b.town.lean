/-! ===== NumberedByAge.copy(IIIII)I ===== -/
abbrev M_X10_copy : Mx := (cX10_copy, 8, RX10, (false, []), (some .int), 1, 40)
def f_X10_copy (h : Hp) (this : Nat) (x1 : Int32) (x2 : Int32) (x3 : Int32) (x4 : Int32) (x5 : Int32) : Option (Int32 × Hp) :=
    (rcv h (some this) 10).bind fun a2 =>
    (f_X10_shelfAt h a2 x1).bind fun v2 =>
    (rcv h (some this) 10).bind fun a9 =>
    (f_X10_shelfAt h a9 x3).bind fun v9 =>
    if v2 = none then
      some ((-1 : Int32), h)
    else
      if v9 = none then
        some ((-1 : Int32), h)
      else
        (rcv h v2 5).bind fun a28 =>
        (f_X5_holdsNothing h a28).bind fun v28 =>
        if v28 = 0 then
          (rcv h v9 5).bind fun a36 =>
          (f_X5_holdsNothing h a36).bind fun v36 =>
          if v36 = 0 then
            (rcv h v2 5).bind fun a47 =>
            (f_X5_holdsRow h a47).bind fun v47 =>
            if v47 = 0 then
              some ((-12 : Int32), h)
            else
              (gI h v2 [5] 1).bind fun v55 =>
              (gI h v9 [5] 1).bind fun v60 =>
              if v55 = v60 then
                (rcv h v2 5).bind fun a74 =>
                (f_X5_hasPlaces h a74 x2 x5).bind fun v74 =>
                if v74 = 0 then
                  some ((-13 : Int32), h)
                else
                  (rcv h v9 5).bind fun a86 =>
                  (f_X5_hasPlaces h a86 x4 x5).bind fun v86 =>
                  if v86 = 0 then
                    some ((-13 : Int32), h)
                  else
                    (gR h v2 [5] 3).bind fun v97 =>
                    (gR h v9 [5] 3).bind fun v103 =>
                    (cpI h v97 x2 v103 x4 x5).bind fun h110 =>
                    some (x5, h110)
              else
                some ((-12 : Int32), h)
          else
            some ((-11 : Int32), h)
        else
          some ((-11 : Int32), h)
set_option maxRecDepth 100000 in
set_option maxHeartbeats 4000000 in
theorem k_X10_copy (G : Gx) (l : Launch) {h : Hp} {this : Nat} {x1 : Int32} {x2 : Int32} {x3 : Int32} {x4 : Int32} {x5 : Int32} {r : (Int32 × Hp)} (hf : f_X10_copy h this x1 x2 x3 x4 x5 = some r) : KM l yX10_copy (.code yX10_copy cX10_copy 8 (some .int) :: wsK) 1 40 G [vR (some this), vI x1, vI x2, vI x3, vI x4, vI x5] h (some (vI r.1)) r.2 := by
  refine r_entry (ctor := false) (own := RX10) (by decide +kernel) rfl (fun q => by cases q) (Nat.le_of_ble_eq_true rfl) ?_
  show RJ G l M_X10_copy (some (vI r.1)) r.2 0 [(0, vR (some this)), (1, vI x1), (2, vI x2), (3, vI x3), (4, vI x4), (5, vI x5)] [] h
  unfold f_X10_copy at hf
  refine r_aload_n 0 dX10_copy_0 rfl ?_
  refine r_iload_n 1 dX10_copy_1 rfl ?_
  obtain ⟨a2, ea2, hf⟩ := ob hf
  obtain ⟨v2, e2, hf⟩ := ob hf
  refine r_callV (y := yX10_shelfAt) (ci := 10) (avs := [vI x1]) dX10_copy_2 rfl kw_1_141 kw_1_143 kw_0_0 kw_1_1 kw_1_144 oky_X10_shelfAt ⟨Nat.le_of_ble_eq_true rfl, Nat.le_of_ble_eq_true rfl⟩ rfl (Nat.le_of_ble_eq_true rfl) ea2 (k_X10_shelfAt G l e2) ?_
  refine r_astore (lv' := [(6, vR v2), (0, vR (some this)), (1, vI x1), (2, vI x2), (3, vI x3), (4, vI x4), (5, vI x5)]) dX10_copy_5 (Nat.le_of_ble_eq_true rfl) rfl ?_
  refine r_aload_n 1 dX10_copy_7 rfl ?_
  refine r_iload_n 4 dX10_copy_8 rfl ?_
  obtain ⟨a9, ea9, hf⟩ := ob hf
  obtain ⟨v9, e9, hf⟩ := ob hf
  refine r_callV (y := yX10_shelfAt) (ci := 10) (avs := [vI x3]) dX10_copy_9 rfl kw_1_141 kw_1_143 kw_0_0 kw_1_1 kw_1_144 oky_X10_shelfAt ⟨Nat.le_of_ble_eq_true rfl, Nat.le_of_ble_eq_true rfl⟩ rfl (Nat.le_of_ble_eq_true rfl) ea9 (k_X10_shelfAt G l e9) ?_
  refine r_astore (lv' := [(7, vR v9), (6, vR v2), (0, vR (some this)), (1, vI x1), (2, vI x2), (3, vI x3), (4, vI x4), (5, vI x5)]) dX10_copy_12 (Nat.le_of_ble_eq_true rfl) rfl ?_
  refine r_aload 1 dX10_copy_14 rfl ?_
  refine r_ifnull (tgt := 24) dX10_copy_16 (by decide) (fun c16 => ?_) (fun c16 => ?_)
  · replace hf := (if_pos c16).symm.trans hf
    refine r_iconst (x := (-1 : Int32)) dX10_copy_24 (by decide) ?_
    have hf := Option.some.inj hf
    subst hf
    exact r_iret rfl dX10_copy_25
  · replace hf := (if_neg c16).symm.trans hf
    refine r_aload 0 dX10_copy_19 rfl ?_
    refine r_ifnonnull (tgt := 26) dX10_copy_21 (by decide) (fun c21 => ?_) (fun c21 => ?_)
    · replace hf := (if_pos c21).symm.trans hf
      refine r_iconst (x := (-1 : Int32)) dX10_copy_24 (by decide) ?_
      have hf := Option.some.inj hf
      subst hf
      exact r_iret rfl dX10_copy_25
    · replace hf := (if_neg c21).symm.trans hf
      refine r_aload 1 dX10_copy_26 rfl ?_
      obtain ⟨a28, ea28, hf⟩ := ob hf
      obtain ⟨v28, e28, hf⟩ := ob hf
      refine r_callV (y := yX5_holdsNothing) (ci := 5) (avs := []) dX10_copy_28 rfl kw_3_107 kw_1_150 kw_1_151 kw_1_4 kw_1_152 oky_X5_holdsNothing ⟨Nat.le_of_ble_eq_true rfl, Nat.le_of_ble_eq_true rfl⟩ rfl (Nat.le_of_ble_eq_true rfl) ea28 (k_X5_holdsNothing G l e28) ?_
      refine r_if_ne (tgt := 42) dX10_copy_31 (by decide) (fun c31 => ?_) (fun c31 => ?_)
      · replace hf := (if_pos c31).symm.trans hf
        refine r_aload 0 dX10_copy_34 rfl ?_
        obtain ⟨a36, ea36, hf⟩ := ob hf
        obtain ⟨v36, e36, hf⟩ := ob hf
        refine r_callV (y := yX5_holdsNothing) (ci := 5) (avs := []) dX10_copy_36 rfl kw_3_107 kw_1_150 kw_1_151 kw_1_4 kw_1_152 oky_X5_holdsNothing ⟨Nat.le_of_ble_eq_true rfl, Nat.le_of_ble_eq_true rfl⟩ rfl (Nat.le_of_ble_eq_true rfl) ea36 (k_X5_holdsNothing G l e36) ?_
        refine r_if_eq (tgt := 45) dX10_copy_39 (by decide) (fun c39 => ?_) (fun c39 => ?_)
        · replace hf := (if_pos c39).symm.trans hf
          refine r_aload 1 dX10_copy_45 rfl ?_
          obtain ⟨a47, ea47, hf⟩ := ob hf
          obtain ⟨v47, e47, hf⟩ := ob hf
          refine r_callV (y := yX5_holdsRow) (ci := 5) (avs := []) dX10_copy_47 rfl kw_3_108 kw_3_53 kw_3_54 kw_1_4 kw_3_55 oky_X5_holdsRow ⟨Nat.le_of_ble_eq_true rfl, Nat.le_of_ble_eq_true rfl⟩ rfl (Nat.le_of_ble_eq_true rfl) ea47 (k_X5_holdsRow G l e47) ?_
          refine r_if_eq (tgt := 66) dX10_copy_50 (by decide) (fun c50 => ?_) (fun c50 => ?_)
          · replace hf := (if_pos c50).symm.trans hf
            refine r_bipush (x := (-12 : Int32)) dX10_copy_66 (by decide) ?_
            have hf := Option.some.inj hf
            subst hf
            exact r_iret rfl dX10_copy_68
          · replace hf := (if_neg c50).symm.trans hf
            refine r_aload 1 dX10_copy_53 rfl ?_
            obtain ⟨v55, e55, hf⟩ := ob hf
            refine r_getN dX10_copy_55 fl_5_1 (by decide) (gI_sp e55) ?_
            refine r_aload 0 dX10_copy_58 rfl ?_
            obtain ⟨v60, e60, hf⟩ := ob hf
            refine r_getN dX10_copy_60 fl_5_1 (by decide) (gI_sp e60) ?_
            refine r_icmp_eq (tgt := 69) dX10_copy_63 (by decide) (fun c63 => ?_) (fun c63 => ?_)
            · replace hf := (if_pos c63).symm.trans hf
              refine r_aload 1 dX10_copy_69 rfl ?_
              refine r_iload_n 4 dX10_copy_71 rfl ?_
              refine r_iload 7 dX10_copy_72 rfl ?_
              obtain ⟨a74, ea74, hf⟩ := ob hf
              obtain ⟨v74, e74, hf⟩ := ob hf
              refine r_callV (y := yX5_hasPlaces) (ci := 5) (avs := [vI x2, vI x5]) dX10_copy_74 rfl kw_3_109 kw_3_110 kw_3_111 kw_1_4 kw_3_112 oky_X5_hasPlaces ⟨Nat.le_of_ble_eq_true rfl, Nat.le_of_ble_eq_true rfl⟩ rfl (Nat.le_of_ble_eq_true rfl) ea74 (k_X5_hasPlaces G l e74) ?_
              refine r_if_eq (tgt := 92) dX10_copy_77 (by decide) (fun c77 => ?_) (fun c77 => ?_)
              · replace hf := (if_pos c77).symm.trans hf
                refine r_bipush (x := (-13 : Int32)) dX10_copy_92 (by decide) ?_
                have hf := Option.some.inj hf
                subst hf
                exact r_iret rfl dX10_copy_94
              · replace hf := (if_neg c77).symm.trans hf
                refine r_aload 0 dX10_copy_80 rfl ?_
                refine r_iload 6 dX10_copy_82 rfl ?_
                refine r_iload 7 dX10_copy_84 rfl ?_
                obtain ⟨a86, ea86, hf⟩ := ob hf
                obtain ⟨v86, e86, hf⟩ := ob hf
                refine r_callV (y := yX5_hasPlaces) (ci := 5) (avs := [vI x4, vI x5]) dX10_copy_86 rfl kw_3_109 kw_3_110 kw_3_111 kw_1_4 kw_3_112 oky_X5_hasPlaces ⟨Nat.le_of_ble_eq_true rfl, Nat.le_of_ble_eq_true rfl⟩ rfl (Nat.le_of_ble_eq_true rfl) ea86 (k_X5_hasPlaces G l e86) ?_
                refine r_if_ne (tgt := 95) dX10_copy_89 (by decide) (fun c89 => ?_) (fun c89 => ?_)
                · replace hf := (if_pos c89).symm.trans hf
                  refine r_bipush (x := (-13 : Int32)) dX10_copy_92 (by decide) ?_
                  have hf := Option.some.inj hf
                  subst hf
                  exact r_iret rfl dX10_copy_94
                · replace hf := (if_neg c89).symm.trans hf
                  refine r_aload 1 dX10_copy_95 rfl ?_
                  obtain ⟨v97, e97, hf⟩ := ob hf
                  refine r_getN dX10_copy_97 fl_5_3 (by decide) (gR_sp e97) ?_
                  refine r_iload_n 4 dX10_copy_100 rfl ?_
                  refine r_aload 0 dX10_copy_101 rfl ?_
                  obtain ⟨v103, e103, hf⟩ := ob hf
                  refine r_getN dX10_copy_103 fl_5_3 (by decide) (gR_sp e103) ?_
                  refine r_iload 6 dX10_copy_106 rfl ?_
                  refine r_iload 7 dX10_copy_108 rfl ?_
                  obtain ⟨h110, e110, hf⟩ := ob hf
                  refine r_copy dX10_copy_110 kw_3_113 kw_1_183 kw_1_182 kw_1_6 (Nat.le_of_ble_eq_true rfl) (Nat.le_of_ble_eq_true rfl) (Nat.le_of_ble_eq_true rfl) e110 ?_
                  refine r_iload 7 dX10_copy_113 rfl ?_
                  have hf := Option.some.inj hf
                  subst hf
                  exact r_iret rfl dX10_copy_115
            · replace hf := (if_neg c63).symm.trans hf
              refine r_bipush (x := (-12 : Int32)) dX10_copy_66 (by decide) ?_
              have hf := Option.some.inj hf
              subst hf
              exact r_iret rfl dX10_copy_68
        · replace hf := (if_neg c39).symm.trans hf
          refine r_bipush (x := (-11 : Int32)) dX10_copy_42 (by decide) ?_
          have hf := Option.some.inj hf
          subst hf
          exact r_iret rfl dX10_copy_44
      · replace hf := (if_neg c31).symm.trans hf
        refine r_bipush (x := (-11 : Int32)) dX10_copy_42 (by decide) ?_
        have hf := Option.some.inj hf
        subst hf
        exact r_iret rfl dX10_copy_44
/-! ===== NumberedByAge.count(I)I ===== -/
abbrev M_X10_count : Mx := (cX10_count, 2, RX10, (false, []), (some .int), 2, 43)
def f_X10_count (h : Hp) (this : Nat) (x1 : Int32) : Option Int32 :=
    if x1 = (0 : Int32) then
      (gR h (some this) [10] 0).bind fun v41 =>
      (rcv h v41 8).bind fun a44 =>
      (f_X8_houses h a44).bind fun v44 =>
      some v44
    else
    if x1 = (1 : Int32) then
      (gR h (some this) [10] 0).bind fun v49 =>
      (gI h v49 [8] 7).bind fun v52 =>
      some v52
    else
    if x1 = (2 : Int32) then
      (gR h (some this) [10] 0).bind fun v57 =>
      (gI h v57 [8] 8).bind fun v60 =>
      some v60
    else
    if x1 = (3 : Int32) then
      (gR h (some this) [10] 0).bind fun v65 =>
      (rcv h v65 8).bind fun a68 =>
      (f_X8_greatest h a68).bind fun v68 =>
      some v68
    else
    if x1 = (4 : Int32) then
      (gR h (some this) [10] 0).bind fun v73 =>
      (gR h v73 [8] 9).bind fun v76 =>
      (gI h v76 lws 0).bind fun v79 =>
      some v79
    else
    if x1 = (5 : Int32) then
      (gR h (some this) [10] 0).bind fun v84 =>
      (gR h v84 [8] 9).bind fun v87 =>
      (gI h v87 lws 1).bind fun v90 =>
      some v90
    else
      some (-1 : Int32)
set_option maxRecDepth 100000 in
set_option maxHeartbeats 4000000 in
theorem k_X10_count (G : Gx) (l : Launch) {h : Hp} {this : Nat} {x1 : Int32} {r : Int32} (hf : f_X10_count h this x1 = some r) : KM l yX10_count (.code yX10_count cX10_count 2 (some .int) :: wsK) 2 43 G [vR (some this), vI x1] h (some (vI r)) h := by
  refine r_entry (ctor := false) (own := RX10) (by decide +kernel) rfl (fun q => by cases q) (Nat.le_of_ble_eq_true rfl) ?_
  show RJ G l M_X10_count (some (vI r)) h 0 [(0, vR (some this)), (1, vI x1)] [] h
  unfold f_X10_count at hf
  refine r_iload_n 1 dX10_count_0 rfl ?_
  by_cases c1_0 : x1 = (0 : Int32)
  · replace hf := (if_pos c1_0).symm.trans hf
    refine r_tabIn (off := 39) (tgt := 40) dX10_count_1 (by rw [c1_0]; decide +kernel) (by rw [c1_0]; decide +kernel) (by rw [c1_0]; decide +kernel) (by decide) ?_
    refine r_aload_n 0 dX10_count_40 rfl ?_
    obtain ⟨v41, e41, hf⟩ := ob hf
    refine r_get dX10_count_41 fl_10_0 kw_1_121 (Or.inl rfl) (gR_sp e41) ?_
    obtain ⟨a44, ea44, hf⟩ := ob hf
    obtain ⟨v44, e44, hf⟩ := ob hf
    refine r_callV (y := yX8_houses) (ci := 8) (avs := []) dX10_count_44 rfl kw_2_235 kw_2_236 kw_2_237 kw_1_2 kw_2_238 oky_X8_houses ⟨Nat.le_of_ble_eq_true rfl, Nat.le_of_ble_eq_true rfl⟩ rfl (Nat.le_of_ble_eq_true rfl) ea44 (k_X8_houses G l e44) ?_
    have hf := Option.some.inj hf
    subst hf
    exact r_iret rfl dX10_count_47
  · replace hf := (if_neg c1_0).symm.trans hf
    by_cases c1_1 : x1 = (1 : Int32)
    · replace hf := (if_pos c1_1).symm.trans hf
      refine r_tabIn (off := 47) (tgt := 48) dX10_count_1 (by rw [c1_1]; decide +kernel) (by rw [c1_1]; decide +kernel) (by rw [c1_1]; decide +kernel) (by decide) ?_
      refine r_aload_n 0 dX10_count_48 rfl ?_
      obtain ⟨v49, e49, hf⟩ := ob hf
      refine r_get dX10_count_49 fl_10_0 kw_1_121 (Or.inl rfl) (gR_sp e49) ?_
      obtain ⟨v52, e52, hf⟩ := ob hf
      refine r_getN dX10_count_52 fl_8_7 (by decide) (gI_sp e52) ?_
      have hf := Option.some.inj hf
      subst hf
      exact r_iret rfl dX10_count_55
    · replace hf := (if_neg c1_1).symm.trans hf
      by_cases c1_2 : x1 = (2 : Int32)
      · replace hf := (if_pos c1_2).symm.trans hf
        refine r_tabIn (off := 55) (tgt := 56) dX10_count_1 (by rw [c1_2]; decide +kernel) (by rw [c1_2]; decide +kernel) (by rw [c1_2]; decide +kernel) (by decide) ?_
        refine r_aload_n 0 dX10_count_56 rfl ?_
        obtain ⟨v57, e57, hf⟩ := ob hf
        refine r_get dX10_count_57 fl_10_0 kw_1_121 (Or.inl rfl) (gR_sp e57) ?_
        obtain ⟨v60, e60, hf⟩ := ob hf
        refine r_getN dX10_count_60 fl_8_8 (by decide) (gI_sp e60) ?_
        have hf := Option.some.inj hf
        subst hf
        exact r_iret rfl dX10_count_63
      · replace hf := (if_neg c1_2).symm.trans hf
        by_cases c1_3 : x1 = (3 : Int32)
        · replace hf := (if_pos c1_3).symm.trans hf
          refine r_tabIn (off := 63) (tgt := 64) dX10_count_1 (by rw [c1_3]; decide +kernel) (by rw [c1_3]; decide +kernel) (by rw [c1_3]; decide +kernel) (by decide) ?_
          refine r_aload_n 0 dX10_count_64 rfl ?_
          obtain ⟨v65, e65, hf⟩ := ob hf
          refine r_get dX10_count_65 fl_10_0 kw_1_121 (Or.inl rfl) (gR_sp e65) ?_
          obtain ⟨a68, ea68, hf⟩ := ob hf
          obtain ⟨v68, e68, hf⟩ := ob hf
          refine r_callV (y := yX8_greatest) (ci := 8) (avs := []) dX10_count_68 rfl kw_3_31 kw_1_228 kw_1_229 kw_1_2 kw_1_230 oky_X8_greatest ⟨Nat.le_of_ble_eq_true rfl, Nat.le_of_ble_eq_true rfl⟩ rfl (Nat.le_of_ble_eq_true rfl) ea68 (k_X8_greatest G l e68) ?_
          have hf := Option.some.inj hf
          subst hf
          exact r_iret rfl dX10_count_71
        · replace hf := (if_neg c1_3).symm.trans hf
          by_cases c1_4 : x1 = (4 : Int32)
          · replace hf := (if_pos c1_4).symm.trans hf
            refine r_tabIn (off := 71) (tgt := 72) dX10_count_1 (by rw [c1_4]; decide +kernel) (by rw [c1_4]; decide +kernel) (by rw [c1_4]; decide +kernel) (by decide) ?_
            refine r_aload_n 0 dX10_count_72 rfl ?_
            obtain ⟨v73, e73, hf⟩ := ob hf
            refine r_get dX10_count_73 fl_10_0 kw_1_121 (Or.inl rfl) (gR_sp e73) ?_
            obtain ⟨v76, e76, hf⟩ := ob hf
            refine r_getN dX10_count_76 fl_8_9 (by decide) (gR_sp e76) ?_
            obtain ⟨v79, e79, hf⟩ := ob hf
            refine r_get dX10_count_79 fl_L_0 kw_1_43 (Or.inl rfl) (gI_sp e79) ?_
            have hf := Option.some.inj hf
            subst hf
            exact r_iret rfl dX10_count_82
          · replace hf := (if_neg c1_4).symm.trans hf
            by_cases c1_5 : x1 = (5 : Int32)
            · replace hf := (if_pos c1_5).symm.trans hf
              refine r_tabIn (off := 82) (tgt := 83) dX10_count_1 (by rw [c1_5]; decide +kernel) (by rw [c1_5]; decide +kernel) (by rw [c1_5]; decide +kernel) (by decide) ?_
              refine r_aload_n 0 dX10_count_83 rfl ?_
              obtain ⟨v84, e84, hf⟩ := ob hf
              refine r_get dX10_count_84 fl_10_0 kw_1_121 (Or.inl rfl) (gR_sp e84) ?_
              obtain ⟨v87, e87, hf⟩ := ob hf
              refine r_getN dX10_count_87 fl_8_9 (by decide) (gR_sp e87) ?_
              obtain ⟨v90, e90, hf⟩ := ob hf
              refine r_get dX10_count_90 fl_L_1 kw_1_55 (Or.inl rfl) (gI_sp e90) ?_
              have hf := Option.some.inj hf
              subst hf
              exact r_iret rfl dX10_count_93
            · replace hf := (if_neg c1_5).symm.trans hf
              refine r_tabOut (tgt := 94) dX10_count_1 (by have g0 := lv_neT (k := (0 : Int32)) c1_0 (by decide : ((0 : Int32)).toInt = 0); have g1 := lv_neT (k := (1 : Int32)) c1_1 (by decide : ((1 : Int32)).toInt = 1); have g2 := lv_neT (k := (2 : Int32)) c1_2 (by decide : ((2 : Int32)).toInt = 2); have g3 := lv_neT (k := (3 : Int32)) c1_3 (by decide : ((3 : Int32)).toInt = 3); have g4 := lv_neT (k := (4 : Int32)) c1_4 (by decide : ((4 : Int32)).toInt = 4); have g5 := lv_neT (k := (5 : Int32)) c1_5 (by decide : ((5 : Int32)).toInt = 5); omega) (by decide) ?_
              refine r_iconst (x := (-1 : Int32)) dX10_count_94 (by decide) ?_
              have hf := Option.some.inj hf
              subst hf
              exact r_iret rfl dX10_count_95
/-! ===== NumberedByAge.drawnBits(I)I ===== -/
abbrev M_X10_drawnBits : Mx := (cX10_drawnBits, 1, RX10, (false, []), (some .int), 0, 0)
def f_X10_drawnBits (h : Hp) (x0 : Int32) : Option Int32 :=
    some ((x0 &&& (2147483647 : Int32)) >>> ((16 : Int32) &&& 31))
set_option maxRecDepth 100000 in
set_option maxHeartbeats 4000000 in
theorem k_X10_drawnBits (G : Gx) (l : Launch) {h : Hp} {x0 : Int32} {r : Int32} (hf : f_X10_drawnBits h x0 = some r) : KM l yX10_drawnBits (.code yX10_drawnBits cX10_drawnBits 1 (some .int) :: wsK) 0 0 G [vI x0] h (some (vI r)) h := by
  refine r_entry (ctor := false) (own := RX10) (by decide +kernel) rfl (fun q => by cases q) (Nat.le_of_ble_eq_true rfl) ?_
  show RJ G l M_X10_drawnBits (some (vI r)) h 0 [(0, vI x0)] [] h
  unfold f_X10_drawnBits at hf
  refine r_iload_n 0 dX10_drawnBits_0 rfl ?_
  refine r_ldcw (x := (2147483647 : Int32)) dX10_drawnBits_1 kw_3_43 ?_
  refine r_iand dX10_drawnBits_4 ?_
  refine r_bipush (x := (16 : Int32)) dX10_drawnBits_5 (by decide) ?_
  refine r_ishr dX10_drawnBits_7 ?_
  have hf := Option.some.inj hf
  subst hf
  exact r_iret rfl dX10_drawnBits_8
/-! ===== NumberedByAge.element(II)J ===== -/
abbrev M_X10_element : Mx := (cX10_element, 4, RX10, (false, []), (some .long), 6, 100)
def f_X10_element_35 (h : Hp) (this : Nat)  : Option Int64 :=
    none
set_option maxRecDepth 100000 in
set_option maxHeartbeats 4000000 in
theorem t_X10_element_35 (G : Gx) (l : Launch) (h : Hp) (this : Nat)   (r : Int64) (hf : f_X10_element_35 h this = some r) : RJ G l M_X10_element (some (vL r)) h 35 [(0, vR (some this))] [] h := by
  unfold f_X10_element_35 at hf
  cases hf
def f_X10_element (h : Hp) (this : Nat) (x1 : Int32) (x2 : Int32) : Option Int64 :=
    (rcv h (some this) 10).bind fun a2 =>
    (f_X10_shelfAt h a2 x1).bind fun v2 =>
    if v2 = none then
      none
    else
      (rcv h v2 5).bind fun a21 =>
      (f_X5_holdsRow h a21).bind fun v21 =>
      if v21 = 0 then
        f_X10_element_35 h this 
      else
        (rcv h v2 5).bind fun a29 =>
        (f_X5_hasPlace h a29 x2).bind fun v29 =>
        if v29 = 0 then
          f_X10_element_35 h this 
        else
          (rcv h v2 5).bind fun a47 =>
          (f_X5_at h a47 x2).bind fun v47 =>
          some v47.toInt64
set_option maxRecDepth 100000 in
set_option maxHeartbeats 4000000 in
theorem k_X10_element (G : Gx) (l : Launch) {h : Hp} {this : Nat} {x1 : Int32} {x2 : Int32} {r : Int64} (hf : f_X10_element h this x1 x2 = some r) : KM l yX10_element (.code yX10_element cX10_element 4 (some .long) :: wsK) 6 100 G [vR (some this), vI x1, vI x2] h (some (vL r)) h := by
  refine r_entry (ctor := false) (own := RX10) (by decide +kernel) rfl (fun q => by cases q) (Nat.le_of_ble_eq_true rfl) ?_
  show RJ G l M_X10_element (some (vL r)) h 0 [(0, vR (some this)), (1, vI x1), (2, vI x2)] [] h
  unfold f_X10_element at hf
  refine r_aload_n 0 dX10_element_0 rfl ?_
  refine r_iload_n 1 dX10_element_1 rfl ?_
  obtain ⟨a2, ea2, hf⟩ := ob hf
  obtain ⟨v2, e2, hf⟩ := ob hf
  refine r_callV (y := yX10_shelfAt) (ci := 10) (avs := [vI x1]) dX10_element_2 rfl kw_1_141 kw_1_143 kw_0_0 kw_1_1 kw_1_144 oky_X10_shelfAt ⟨Nat.le_of_ble_eq_true rfl, Nat.le_of_ble_eq_true rfl⟩ rfl (Nat.le_of_ble_eq_true rfl) ea2 (k_X10_shelfAt G l e2) ?_
  refine r_astore_n (lv' := [(3, vR v2), (0, vR (some this)), (1, vI x1), (2, vI x2)]) dX10_element_5 (Nat.le_of_ble_eq_true rfl) rfl ?_
  refine r_aload_n 0 dX10_element_6 rfl ?_
  refine r_ifnonnull (tgt := 20) dX10_element_7 (by decide) (fun c7 => ?_) (fun c7 => ?_)
  · replace hf := (if_pos c7).symm.trans hf
    cases hf
  · replace hf := (if_neg c7).symm.trans hf
    refine r_aload_n 0 dX10_element_20 rfl ?_
    obtain ⟨a21, ea21, hf⟩ := ob hf
    obtain ⟨v21, e21, hf⟩ := ob hf
    refine r_callV (y := yX5_holdsRow) (ci := 5) (avs := []) dX10_element_21 rfl kw_3_108 kw_3_53 kw_3_54 kw_1_4 kw_3_55 oky_X5_holdsRow ⟨Nat.le_of_ble_eq_true rfl, Nat.le_of_ble_eq_true rfl⟩ rfl (Nat.le_of_ble_eq_true rfl) ea21 (k_X5_holdsRow G l e21) ?_
    refine r_if_eq (tgt := 35) dX10_element_24 (by decide) (fun c24 => ?_) (fun c24 => ?_)
    · replace hf := (if_pos c24).symm.trans hf
      exact r_sub [1] rfl (t_X10_element_35 G l _ _  _ hf)
    · replace hf := (if_neg c24).symm.trans hf
      refine r_aload_n 0 dX10_element_27 rfl ?_
      refine r_iload_n 3 dX10_element_28 rfl ?_
      obtain ⟨a29, ea29, hf⟩ := ob hf
      obtain ⟨v29, e29, hf⟩ := ob hf
      refine r_callV (y := yX5_hasPlace) (ci := 5) (avs := [vI x2]) dX10_element_29 rfl kw_3_94 kw_1_164 kw_1_165 kw_1_4 kw_1_166 oky_X5_hasPlace ⟨Nat.le_of_ble_eq_true rfl, Nat.le_of_ble_eq_true rfl⟩ rfl (Nat.le_of_ble_eq_true rfl) ea29 (k_X5_hasPlace G l e29) ?_
      refine r_if_ne (tgt := 45) dX10_element_32 (by decide) (fun c32 => ?_) (fun c32 => ?_)
      · replace hf := (if_pos c32).symm.trans hf
        exact r_sub [1] rfl (t_X10_element_35 G l _ _  _ hf)
      · replace hf := (if_neg c32).symm.trans hf
        refine r_aload_n 0 dX10_element_45 rfl ?_
        refine r_iload_n 3 dX10_element_46 rfl ?_
        obtain ⟨a47, ea47, hf⟩ := ob hf
        obtain ⟨v47, e47, hf⟩ := ob hf
        refine r_callV (y := yX5_at) (ci := 5) (avs := [vI x2]) dX10_element_47 rfl kw_1_159 kw_1_160 kw_1_161 kw_1_4 kw_1_162 oky_X5_at ⟨Nat.le_of_ble_eq_true rfl, Nat.le_of_ble_eq_true rfl⟩ rfl (Nat.le_of_ble_eq_true rfl) ea47 (k_X5_at G l e47) ?_
        refine r_i2l dX10_element_50 ?_
        have hf := Option.some.inj hf
        subst hf
        exact r_lret rfl dX10_element_51
/-! ===== NumberedByAge.element(II)J ===== -/
abbrev M_X10_element_T : Mx := (cX10_element, 4, RX10, (false, []), (some .long), 6, 100)
def f_X10_element_T_35 (this : Nat) (h : Hp) : Option (String × Hp) :=
    some (xISE, h ++ [eJ 6])
set_option maxRecDepth 100000 in
set_option maxHeartbeats 4000000 in
theorem t_X10_element_T_35 (G : Gx) (l : Launch) (hfl : l.stackTraces = false) (this : Nat)  (h : Hp) (r : (String × Hp)) (hf : f_X10_element_T_35 this h = some r) : RQ G l M_X10_element_T (qT G r.1 r.2) r.2 35 [(0, vR (some this))] [] h := by
  unfold f_X10_element_T_35 at hf
  have hf := Option.some.inj hf
  subst hf
  exact r_throw (E := xISE) (text := "there is no ROW with such a place") hfl dX10_element_35 dX10_element_38 dX10_element_39 dX10_element_41 dX10_element_44 (by decide +kernel) (by decide +kernel) kw_3_157 kw_1_20 (by decide +kernel) vxg_RX10_216 vxb_RX10_216 vxh_RX10_216 rfl ⟨Nat.le_of_ble_eq_true rfl, Nat.le_of_ble_eq_true rfl⟩ (Nat.le_of_ble_eq_true rfl)
def f_X10_element_T (h : Hp) (this : Nat) (x1 : Int32) (x2 : Int32) : Option (String × Hp) :=
    (rcv h (some this) 10).bind fun a2 =>
    (f_X10_shelfAt h a2 x1).bind fun v2 =>
    if v2 = none then
      some (xIAE, h ++ [eJ 6])
    else
      (rcv h v2 5).bind fun a21 =>
      (f_X5_holdsRow h a21).bind fun v21 =>
      if v21 = 0 then
        f_X10_element_T_35 this h
      else
        (rcv h v2 5).bind fun a29 =>
        (f_X5_hasPlace h a29 x2).bind fun v29 =>
        if v29 = 0 then
          f_X10_element_T_35 this h
        else
          (rcv h v2 5).bind fun a47 =>
          (f_X5_at h a47 x2).bind fun v47 =>
          none
set_option maxRecDepth 100000 in
set_option maxHeartbeats 4000000 in
theorem k_X10_element_T (G : Gx) (l : Launch) (hfl : l.stackTraces = false) {h : Hp} {this : Nat} {x1 : Int32} {x2 : Int32} {r : (String × Hp)} (hf : f_X10_element_T h this x1 x2 = some r) : KT l yX10_element (.code yX10_element cX10_element 4 (some .long) :: wsK) 6 100 G [vR (some this), vI x1, vI x2] h r.1 r.2 := by
  refine r_entryT (own := RX10) (by decide +kernel) rfl (Nat.le_of_ble_eq_true rfl) ?_
  show RQ G l M_X10_element_T (qT G r.1 r.2) r.2 0 [(0, vR (some this)), (1, vI x1), (2, vI x2)] [] h
  unfold f_X10_element_T at hf
  refine r_aload_n 0 dX10_element_0 rfl ?_
  refine r_iload_n 1 dX10_element_1 rfl ?_
  obtain ⟨a2, ea2, hf⟩ := ob hf
  obtain ⟨v2, e2, hf⟩ := ob hf
  refine r_callV (y := yX10_shelfAt) (ci := 10) (avs := [vI x1]) dX10_element_2 rfl kw_1_141 kw_1_143 kw_0_0 kw_1_1 kw_1_144 oky_X10_shelfAt ⟨Nat.le_of_ble_eq_true rfl, Nat.le_of_ble_eq_true rfl⟩ rfl (Nat.le_of_ble_eq_true rfl) ea2 (k_X10_shelfAt G l e2) ?_
  refine r_astore_n (lv' := [(3, vR v2), (0, vR (some this)), (1, vI x1), (2, vI x2)]) dX10_element_5 (Nat.le_of_ble_eq_true rfl) rfl ?_
  refine r_aload_n 0 dX10_element_6 rfl ?_
  refine r_ifnonnull (tgt := 20) dX10_element_7 (by decide) (fun c7 => ?_) (fun c7 => ?_)
  · replace hf := (if_pos c7).symm.trans hf
    have hf := Option.some.inj hf
    subst hf
    exact r_throw (E := xIAE) (text := "there is no such SHELF") hfl dX10_element_10 dX10_element_13 dX10_element_14 dX10_element_16 dX10_element_19 (by decide +kernel) (by decide +kernel) kw_3_155 kw_1_19 (by decide +kernel) vxg_RX10_205 vxb_RX10_205 vxh_RX10_205 rfl ⟨Nat.le_of_ble_eq_true rfl, Nat.le_of_ble_eq_true rfl⟩ (Nat.le_of_ble_eq_true rfl)
  · replace hf := (if_neg c7).symm.trans hf
    refine r_aload_n 0 dX10_element_20 rfl ?_
    obtain ⟨a21, ea21, hf⟩ := ob hf
    obtain ⟨v21, e21, hf⟩ := ob hf
    refine r_callV (y := yX5_holdsRow) (ci := 5) (avs := []) dX10_element_21 rfl kw_3_108 kw_3_53 kw_3_54 kw_1_4 kw_3_55 oky_X5_holdsRow ⟨Nat.le_of_ble_eq_true rfl, Nat.le_of_ble_eq_true rfl⟩ rfl (Nat.le_of_ble_eq_true rfl) ea21 (k_X5_holdsRow G l e21) ?_
    refine r_if_eq (tgt := 35) dX10_element_24 (by decide) (fun c24 => ?_) (fun c24 => ?_)
    · replace hf := (if_pos c24).symm.trans hf
      exact r_sub [1] rfl (t_X10_element_T_35 G l hfl _ _ _ hf)
    · replace hf := (if_neg c24).symm.trans hf
      refine r_aload_n 0 dX10_element_27 rfl ?_
      refine r_iload_n 3 dX10_element_28 rfl ?_
      obtain ⟨a29, ea29, hf⟩ := ob hf
      obtain ⟨v29, e29, hf⟩ := ob hf
      refine r_callV (y := yX5_hasPlace) (ci := 5) (avs := [vI x2]) dX10_element_29 rfl kw_3_94 kw_1_164 kw_1_165 kw_1_4 kw_1_166 oky_X5_hasPlace ⟨Nat.le_of_ble_eq_true rfl, Nat.le_of_ble_eq_true rfl⟩ rfl (Nat.le_of_ble_eq_true rfl) ea29 (k_X5_hasPlace G l e29) ?_
      refine r_if_ne (tgt := 45) dX10_element_32 (by decide) (fun c32 => ?_) (fun c32 => ?_)
      · replace hf := (if_pos c32).symm.trans hf
        exact r_sub [1] rfl (t_X10_element_T_35 G l hfl _ _ _ hf)
      · replace hf := (if_neg c32).symm.trans hf
        refine r_aload_n 0 dX10_element_45 rfl ?_
        refine r_iload_n 3 dX10_element_46 rfl ?_
        obtain ⟨a47, ea47, hf⟩ := ob hf
        obtain ⟨v47, e47, hf⟩ := ob hf
        refine r_callV (y := yX5_at) (ci := 5) (avs := [vI x2]) dX10_element_47 rfl kw_1_159 kw_1_160 kw_1_161 kw_1_4 kw_1_162 oky_X5_at ⟨Nat.le_of_ble_eq_true rfl, Nat.le_of_ble_eq_true rfl⟩ rfl (Nat.le_of_ble_eq_true rfl) ea47 (k_X5_at G l e47) ?_
        refine r_i2l dX10_element_50 ?_
        cases hf
/-! ===== NumberedByAge.enact(I)I ===== -/
abbrev M_X10_enact : Mx := (cX10_enact, 5, RX10, (false, []), (some .int), 2, 40)
def f_X10_enact (h : Hp) (this : Nat) (x1 : Int32) : Option (Int32 × Hp) :=
    (rcv h (some this) 10).bind fun a2 =>
    (f_X10_shelfAt h a2 x1).bind fun v2 =>
    if v2 = none then
      some ((-1 : Int32), h)
    else
      (gR h v2 [5] 0).bind fun v13 =>
      if v13 = none then
        (rcv h v2 5).bind fun a22 =>
        (f_X5_refusalAsLaw h a22).bind fun v22 =>
        some (v22, h)
      else
        (gR h (some this) [10] 0).bind fun v27 =>
        (gR h v27 [8] 9).bind fun v30 =>
        (gI h v30 lws 0).bind fun v33 =>
        (gR h (some this) [10] 0).bind fun v39 =>
        (pF h v39 [8] 9 (vR v13)).bind fun h43 =>
        some (v33, h43)
set_option maxRecDepth 100000 in
set_option maxHeartbeats 4000000 in
theorem k_X10_enact (G : Gx) (l : Launch) {h : Hp} {this : Nat} {x1 : Int32} {r : (Int32 × Hp)} (hf : f_X10_enact h this x1 = some r) : KM l yX10_enact (.code yX10_enact cX10_enact 5 (some .int) :: wsK) 2 40 G [vR (some this), vI x1] h (some (vI r.1)) r.2 := by
  refine r_entry (ctor := false) (own := RX10) (by decide +kernel) rfl (fun q => by cases q) (Nat.le_of_ble_eq_true rfl) ?_
  show RJ G l M_X10_enact (some (vI r.1)) r.2 0 [(0, vR (some this)), (1, vI x1)] [] h
  unfold f_X10_enact at hf
  refine r_aload_n 0 dX10_enact_0 rfl ?_
  refine r_iload_n 1 dX10_enact_1 rfl ?_
  obtain ⟨a2, ea2, hf⟩ := ob hf
  obtain ⟨v2, e2, hf⟩ := ob hf
  refine r_callV (y := yX10_shelfAt) (ci := 10) (avs := [vI x1]) dX10_enact_2 rfl kw_1_141 kw_1_143 kw_0_0 kw_1_1 kw_1_144 oky_X10_shelfAt ⟨Nat.le_of_ble_eq_true rfl, Nat.le_of_ble_eq_true rfl⟩ rfl (Nat.le_of_ble_eq_true rfl) ea2 (k_X10_shelfAt G l e2) ?_
  refine r_astore_n (lv' := [(2, vR v2), (0, vR (some this)), (1, vI x1)]) dX10_enact_5 (Nat.le_of_ble_eq_true rfl) rfl ?_
  refine r_aload_n 0 dX10_enact_6 rfl ?_
  refine r_ifnonnull (tgt := 12) dX10_enact_7 (by decide) (fun c7 => ?_) (fun c7 => ?_)
  · replace hf := (if_pos c7).symm.trans hf
    refine r_iconst (x := (-1 : Int32)) dX10_enact_10 (by decide) ?_
    have hf := Option.some.inj hf
    subst hf
    exact r_iret rfl dX10_enact_11
  · replace hf := (if_neg c7).symm.trans hf
    refine r_aload_n 0 dX10_enact_12 rfl ?_
    obtain ⟨v13, e13, hf⟩ := ob hf
    refine r_getN dX10_enact_13 fl_5_0 (by decide) (gR_sp e13) ?_
    refine r_astore_n (lv' := [(3, vR v13), (2, vR v2), (0, vR (some this)), (1, vI x1)]) dX10_enact_16 (Nat.le_of_ble_eq_true rfl) rfl ?_
    refine r_aload_n 0 dX10_enact_17 rfl ?_
    refine r_ifnonnull (tgt := 26) dX10_enact_18 (by decide) (fun c18 => ?_) (fun c18 => ?_)
    · replace hf := (if_pos c18).symm.trans hf
      refine r_aload_n 1 dX10_enact_21 rfl ?_
      obtain ⟨a22, ea22, hf⟩ := ob hf
      obtain ⟨v22, e22, hf⟩ := ob hf
      refine r_callV (y := yX5_refusalAsLaw) (ci := 5) (avs := []) dX10_enact_22 rfl kw_2_100 kw_2_101 kw_2_102 kw_1_4 kw_2_103 oky_X5_refusalAsLaw ⟨Nat.le_of_ble_eq_true rfl, Nat.le_of_ble_eq_true rfl⟩ rfl (Nat.le_of_ble_eq_true rfl) ea22 (k_X5_refusalAsLaw G l e22) ?_
      have hf := Option.some.inj hf
      subst hf
      exact r_iret rfl dX10_enact_25
    · replace hf := (if_neg c18).symm.trans hf
      refine r_aload_n 2 dX10_enact_26 rfl ?_
      obtain ⟨v27, e27, hf⟩ := ob hf
      refine r_get dX10_enact_27 fl_10_0 kw_1_121 (Or.inl rfl) (gR_sp e27) ?_
      obtain ⟨v30, e30, hf⟩ := ob hf
      refine r_getN dX10_enact_30 fl_8_9 (by decide) (gR_sp e30) ?_
      obtain ⟨v33, e33, hf⟩ := ob hf
      refine r_get dX10_enact_33 fl_L_0 kw_1_43 (Or.inl rfl) (gI_sp e33) ?_
      refine r_istore (lv' := [(4, vI v33), (3, vR v13), (2, vR v2), (0, vR (some this)), (1, vI x1)]) dX10_enact_36 (Nat.le_of_ble_eq_true rfl) rfl ?_
      refine r_aload_n 3 dX10_enact_38 rfl ?_
      obtain ⟨v39, e39, hf⟩ := ob hf
      refine r_get dX10_enact_39 fl_10_0 kw_1_121 (Or.inl rfl) (gR_sp e39) ?_
      refine r_aload_n 1 dX10_enact_42 rfl ?_
      obtain ⟨h43, e43, hf⟩ := ob hf
      refine r_putN (ref := "NumberedByAge$Street") dX10_enact_43 fl_8_9 (by decide) (by decide +kernel) (fit_ref "NumberedByAge$Law" _) e43 ?_
      refine r_iload 0 dX10_enact_46 rfl ?_
      have hf := Option.some.inj hf
      subst hf
      exact r_iret rfl dX10_enact_48
/-! ===== NumberedByAge.falls()I ===== -/
abbrev M_X10_falls : Mx := (cX10_falls, 1, RX10, (false, []), (some .int), 1, 23)
def f_X10_falls (h : Hp) (this : Nat) : Option Int32 :=
    (gR h (some this) [10] 0).bind fun v1 =>
    (rcv h v1 8).bind fun a4 =>
    (f_X8_pairsNotRising h a4).bind fun v4 =>
    some v4
set_option maxRecDepth 100000 in
set_option maxHeartbeats 4000000 in
theorem k_X10_falls (G : Gx) (l : Launch) {h : Hp} {this : Nat} {r : Int32} (hf : f_X10_falls h this = some r) : KM l yX10_falls (.code yX10_falls cX10_falls 1 (some .int) :: wsK) 1 23 G [vR (some this)] h (some (vI r)) h := by
  refine r_entry (ctor := false) (own := RX10) (by decide +kernel) rfl (fun q => by cases q) (Nat.le_of_ble_eq_true rfl) ?_
  show RJ G l M_X10_falls (some (vI r)) h 0 [(0, vR (some this))] [] h
  unfold f_X10_falls at hf
  refine r_aload_n 0 dX10_falls_0 rfl ?_
  obtain ⟨v1, e1, hf⟩ := ob hf
  refine r_get dX10_falls_1 fl_10_0 kw_1_121 (Or.inl rfl) (gR_sp e1) ?_
  obtain ⟨a4, ea4, hf⟩ := ob hf
  obtain ⟨v4, e4, hf⟩ := ob hf
  refine r_callV (y := yX8_pairsNotRising) (ci := 8) (avs := []) dX10_falls_4 rfl kw_2_202 kw_2_203 kw_2_204 kw_1_2 kw_2_205 oky_X8_pairsNotRising ⟨Nat.le_of_ble_eq_true rfl, Nat.le_of_ble_eq_true rfl⟩ rfl (Nat.le_of_ble_eq_true rfl) ea4 (k_X8_pairsNotRising G l e4) ?_
  have hf := Option.some.inj hf
  subst hf
  exact r_iret rfl dX10_falls_7
/-! ===== NumberedByAge.ordersFrom(LNumberedByAge$Street;LNumberedByAge$Street;I)I ===== -/
abbrev M_X10_ordersFrom (d : Nat) : Mx := (cX10_ordersFrom, 5, RX10, (false, []), (some .int), 4 + (d + 1), 92 + 24 * (d + 1))
def f_X10_ordersFrom_58 (rec : Hp → (Option Nat) → (Option Nat) → Int32 → Option (Int32 × Hp)) (k11 : Hp → (Option Nat) → (Option Nat) → Int32 → Int32 → Int32 → Option (Int32 × Hp)) (h : Hp) (x0 : Option Nat) (x1 : Option Nat) (x2 : Int32) (x3 : Int32) (x4 : Int32) : Option (Int32 × Hp) :=
    k11 h x0 x1 x2 x3 (x4 + 1)
set_option maxRecDepth 100000 in
set_option maxHeartbeats 4000000 in
theorem t_X10_ordersFrom_58 (G : Gx) (l : Launch) (d : Nat) (rec : Hp → (Option Nat) → (Option Nat) → Int32 → Option (Int32 × Hp)) (hrec : ∀ (h : Hp) (y0 : Option Nat) (y1 : Option Nat) (y2 : Int32) (r : (Int32 × Hp)), rec h y0 y1 y2 = some r → KM l yX10_ordersFrom (.code yX10_ordersFrom cX10_ordersFrom 5 (some .int) :: wsK) (4 + d) (92 + 24 * d) G [vR y0, vR y1, vI y2] h (some (vI r.1)) r.2)  (k11 : Hp → (Option Nat) → (Option Nat) → Int32 → Int32 → Int32 → Option (Int32 × Hp)) (hk11 : ∀ (h : Hp) (x0 : Option Nat) (x1 : Option Nat) (x2 : Int32) (x3 : Int32) (x4 : Int32) (r : (Int32 × Hp)), k11 h x0 x1 x2 x3 x4 = some r → RJ G l (M_X10_ordersFrom d) (some (vI r.1)) r.2 11 [(0, vR x0), (1, vR x1), (2, vI x2), (3, vI x3), (4, vI x4)] [] h) (h : Hp) (x0 : Option Nat) (x1 : Option Nat) (x2 : Int32) (x3 : Int32) (x4 : Int32) (r : (Int32 × Hp)) (hf : f_X10_ordersFrom_58 rec k11 h x0 x1 x2 x3 x4 = some r) : RJ G l (M_X10_ordersFrom d) (some (vI r.1)) r.2 58 [(0, vR x0), (1, vR x1), (2, vI x2), (3, vI x3), (4, vI x4)] [] h := by
  unfold f_X10_ordersFrom_58 at hf
  refine r_iinc (y := (x4 + 1)) (lv' := [(4, vI (x4 + 1)), (0, vR x0), (1, vR x1), (2, vI x2), (3, vI x3)]) 4 dX10_ordersFrom_58 rfl rfl (Nat.le_of_ble_eq_true rfl) rfl ?_
  refine r_goto (tgt := 11) dX10_ordersFrom_61 (by decide) ?_
  exact r_sub [1, 2, 3, 4, 0] rfl (hk11 _ _ _ _ _ _ _ hf)
def f_X10_ordersFrom_11 (rec : Hp → (Option Nat) → (Option Nat) → Int32 → Option (Int32 × Hp)) : Nat → Hp → (Option Nat) → (Option Nat) → Int32 → Int32 → Int32 → Option (Int32 × Hp)
  | 0, _, _, _, _, _, _ => none
  | n + 1, h, x0, x1, x2, x3, x4 =>
    if (12 : Int32) ≤ x4 then
      some (x3, h)
    else
      (rcv h x0 8).bind fun a22 =>
      (f_X8_canRaiseAs h a22 x1 x4).bind fun v22 =>
      if v22 = 0 then
        f_X10_ordersFrom_58 rec (f_X10_ordersFrom_11 rec n) h x0 x1 x2 x3 x4
      else
        (rcv h x1 8).bind fun a34 =>
        (f_X8_heightAt h a34 x4).bind fun v34 =>
        (rcv h x0 8).bind fun a37 =>
        (f_X8_raise h a37 x4 v34).bind fun q37 =>
        (rec q37.2 x0 x1 (x2 - (1 : Int32))).bind fun q47 =>
        (rcv q47.2 x0 8).bind fun a55 =>
        (f_X8_takeBack q47.2 a55 x4).bind fun h55 =>
        f_X10_ordersFrom_58 rec (f_X10_ordersFrom_11 rec n) h55 x0 x1 x2 (x3 + q47.1) x4
set_option maxRecDepth 100000 in
set_option maxHeartbeats 4000000 in
theorem t_X10_ordersFrom_11 (G : Gx) (l : Launch) (d : Nat) (rec : Hp → (Option Nat) → (Option Nat) → Int32 → Option (Int32 × Hp)) (hrec : ∀ (h : Hp) (y0 : Option Nat) (y1 : Option Nat) (y2 : Int32) (r : (Int32 × Hp)), rec h y0 y1 y2 = some r → KM l yX10_ordersFrom (.code yX10_ordersFrom cX10_ordersFrom 5 (some .int) :: wsK) (4 + d) (92 + 24 * d) G [vR y0, vR y1, vI y2] h (some (vI r.1)) r.2)   : ∀ (n : Nat) (h : Hp) (x0 : Option Nat) (x1 : Option Nat) (x2 : Int32) (x3 : Int32) (x4 : Int32) (r : (Int32 × Hp)), f_X10_ordersFrom_11 rec n h x0 x1 x2 x3 x4 = some r → RJ G l (M_X10_ordersFrom d) (some (vI r.1)) r.2 11 [(0, vR x0), (1, vR x1), (2, vI x2), (3, vI x3), (4, vI x4)] [] h := by
  intro n
  induction n with
  | zero =>
    intro h x0 x1 x2 x3 x4 r hf
    rw [f_X10_ordersFrom_11] at hf
    cases hf
  | succ n ih =>
    intro h x0 x1 x2 x3 x4 r hf
    rw [f_X10_ordersFrom_11] at hf
    refine r_iload 4 dX10_ordersFrom_11 rfl ?_
    refine r_bipush (x := (12 : Int32)) dX10_ordersFrom_13 (by decide) ?_
    refine r_icmp_ge (tgt := 64) dX10_ordersFrom_15 (by decide) (fun c15 => ?_) (fun c15 => ?_)
    · replace hf := (if_pos c15).symm.trans hf
      refine r_iload_n 3 dX10_ordersFrom_64 rfl ?_
      have hf := Option.some.inj hf
      subst hf
      exact r_iret rfl dX10_ordersFrom_65
    · replace hf := (if_neg c15).symm.trans hf
      refine r_aload_n 0 dX10_ordersFrom_18 rfl ?_
      refine r_aload_n 1 dX10_ordersFrom_19 rfl ?_
      refine r_iload 4 dX10_ordersFrom_20 rfl ?_
      obtain ⟨a22, ea22, hf⟩ := ob hf
      obtain ⟨v22, e22, hf⟩ := ob hf
      refine r_callV (y := yX8_canRaiseAs) (ci := 8) (avs := [vR x1, vI x4]) dX10_ordersFrom_22 rfl kw_3_3 kw_3_4 kw_3_5 kw_1_2 kw_3_6 oky_X8_canRaiseAs ⟨Nat.le_trans (m := 4) (Nat.le_of_ble_eq_true rfl) (Nat.le_add_right _ _), Nat.le_trans (m := 92) (Nat.le_of_ble_eq_true rfl) (Nat.le_add_right _ _)⟩ rfl (Nat.le_of_ble_eq_true rfl) ea22 (k_X8_canRaiseAs G l e22) ?_
      refine r_if_eq (tgt := 58) dX10_ordersFrom_25 (by decide) (fun c25 => ?_) (fun c25 => ?_)
      · replace hf := (if_pos c25).symm.trans hf
        exact r_sub [0, 1, 2, 3, 4] rfl (t_X10_ordersFrom_58 G l d _ hrec (f_X10_ordersFrom_11 rec n) ih _ _ _ _ _ _ _ hf)
      · replace hf := (if_neg c25).symm.trans hf
        refine r_aload_n 0 dX10_ordersFrom_28 rfl ?_
        refine r_iload 4 dX10_ordersFrom_29 rfl ?_
        refine r_aload_n 1 dX10_ordersFrom_31 rfl ?_
        refine r_iload 4 dX10_ordersFrom_32 rfl ?_
        obtain ⟨a34, ea34, hf⟩ := ob hf
        obtain ⟨v34, e34, hf⟩ := ob hf
        refine r_callV (y := yX8_heightAt) (ci := 8) (avs := [vI x4]) dX10_ordersFrom_34 rfl kw_2_111 kw_2_112 kw_2_113 kw_1_2 kw_2_114 oky_X8_heightAt ⟨Nat.le_trans (m := 4) (Nat.le_of_ble_eq_true rfl) (Nat.le_add_right _ _), Nat.le_trans (m := 92) (Nat.le_of_ble_eq_true rfl) (Nat.le_add_right _ _)⟩ rfl (Nat.le_of_ble_eq_true rfl) ea34 (k_X8_heightAt G l e34) ?_
        obtain ⟨a37, ea37, hf⟩ := ob hf
        obtain ⟨q37, e37, hf⟩ := ob hf
        refine r_callV (y := yX8_raise) (ci := 8) (avs := [vI x4, vI v34]) dX10_ordersFrom_37 rfl kw_1_188 kw_1_189 kw_1_190 kw_1_2 kw_1_191 oky_X8_raise ⟨Nat.le_trans (m := 4) (Nat.le_of_ble_eq_true rfl) (Nat.le_add_right _ _), Nat.le_trans (m := 92) (Nat.le_of_ble_eq_true rfl) (Nat.le_add_right _ _)⟩ rfl (Nat.le_of_ble_eq_true rfl) ea37 (k_X8_raise G l e37) ?_
        refine r_pop dX10_ordersFrom_40 rfl ?_
        refine r_iload_n 3 dX10_ordersFrom_41 rfl ?_
        refine r_aload_n 0 dX10_ordersFrom_42 rfl ?_
        refine r_aload_n 1 dX10_ordersFrom_43 rfl ?_
        refine r_iload_n 2 dX10_ordersFrom_44 rfl ?_
        refine r_iconst (x := (1 : Int32)) dX10_ordersFrom_45 (by decide) ?_
        refine r_isub dX10_ordersFrom_46 ?_
        refine r_pc (pc' := 47) rfl ?_
        obtain ⟨q47, e47, hf⟩ := ob hf
        refine r_callS (y := yX10_ordersFrom) (avs := [vR x0, vR x1, vI (x2 - (1 : Int32))]) dX10_ordersFrom_47 kw_3_0 kw_3_1 kw_1_1 kw_3_2 oky_X10_ordersFrom ⟨by show 4 + d + 1 ≤ 4 + (d + 1); omega, by show 8 + (5 + 11) + (92 + 24 * d) ≤ 92 + 24 * (d + 1); omega⟩ rfl (Nat.le_of_ble_eq_true rfl) (hrec _ _ _ _ _ e47) ?_
        refine r_iadd dX10_ordersFrom_50 ?_
        refine r_istore_n (lv' := [(3, vI (x3 + q47.1)), (0, vR x0), (1, vR x1), (2, vI x2), (4, vI x4)]) dX10_ordersFrom_51 (Nat.le_of_ble_eq_true rfl) rfl ?_
        refine r_aload_n 1 dX10_ordersFrom_52 rfl ?_
        refine r_iload 4 dX10_ordersFrom_53 rfl ?_
        obtain ⟨a55, ea55, hf⟩ := ob hf
        obtain ⟨h55, e55, hf⟩ := ob hf
        refine r_callV (y := yX8_takeBack) (ci := 8) (avs := [vI x4]) dX10_ordersFrom_55 rfl kw_3_8 kw_3_9 kw_3_10 kw_1_2 kw_3_11 oky_X8_takeBack ⟨Nat.le_trans (m := 4) (Nat.le_of_ble_eq_true rfl) (Nat.le_add_right _ _), Nat.le_trans (m := 92) (Nat.le_of_ble_eq_true rfl) (Nat.le_add_right _ _)⟩ rfl (Nat.le_of_ble_eq_true rfl) ea55 (k_X8_takeBack G l e55) ?_
        exact r_sub [1, 2, 3, 0, 4] rfl (t_X10_ordersFrom_58 G l d _ hrec (f_X10_ordersFrom_11 rec n) ih _ _ _ _ _ _ _ hf)
def g_X10_ordersFrom (rec : Hp → (Option Nat) → (Option Nat) → Int32 → Option (Int32 × Hp)) (h : Hp) (x0 : Option Nat) (x1 : Option Nat) (x2 : Int32) : Option (Int32 × Hp) :=
    if 0 < x2 then
      f_X10_ordersFrom_11 rec 10000 h x0 x1 x2 (0 : Int32) (0 : Int32)
    else
      some ((1 : Int32), h)
def f_X10_ordersFrom : Nat → Hp → (Option Nat) → (Option Nat) → Int32 → Option (Int32 × Hp)
  | 0 => fun _ _ _ _ => none
  | d + 1 => g_X10_ordersFrom (f_X10_ordersFrom d)
set_option maxRecDepth 100000 in
set_option maxHeartbeats 4000000 in
theorem kg_X10_ordersFrom (G : Gx) (l : Launch) (d : Nat) (rec : Hp → (Option Nat) → (Option Nat) → Int32 → Option (Int32 × Hp)) (hrec : ∀ (h : Hp) (y0 : Option Nat) (y1 : Option Nat) (y2 : Int32) (r : (Int32 × Hp)), rec h y0 y1 y2 = some r → KM l yX10_ordersFrom (.code yX10_ordersFrom cX10_ordersFrom 5 (some .int) :: wsK) (4 + d) (92 + 24 * d) G [vR y0, vR y1, vI y2] h (some (vI r.1)) r.2) {h : Hp} {x0 : Option Nat} {x1 : Option Nat} {x2 : Int32} {r : (Int32 × Hp)} (hf : g_X10_ordersFrom rec h x0 x1 x2 = some r) : KM l yX10_ordersFrom (.code yX10_ordersFrom cX10_ordersFrom 5 (some .int) :: wsK) (4 + (d + 1)) (92 + 24 * (d + 1)) G [vR x0, vR x1, vI x2] h (some (vI r.1)) r.2 := by
  refine r_entry (ctor := false) (own := RX10) (by decide +kernel) rfl (fun q => by cases q) (Nat.le_of_ble_eq_true rfl) ?_
  show RJ G l (M_X10_ordersFrom d) (some (vI r.1)) r.2 0 [(0, vR x0), (1, vR x1), (2, vI x2)] [] h
  unfold g_X10_ordersFrom at hf
  refine r_iload_n 2 dX10_ordersFrom_0 rfl ?_
  refine r_if_gt (tgt := 6) dX10_ordersFrom_1 (by decide) (fun c1 => ?_) (fun c1 => ?_)
  · replace hf := (if_pos c1).symm.trans hf
    refine r_iconst (x := (0 : Int32)) dX10_ordersFrom_6 (by decide) ?_
    refine r_istore_n (lv' := [(3, vI (0 : Int32)), (0, vR x0), (1, vR x1), (2, vI x2)]) dX10_ordersFrom_7 (Nat.le_of_ble_eq_true rfl) rfl ?_
    refine r_iconst (x := (0 : Int32)) dX10_ordersFrom_8 (by decide) ?_
    refine r_istore (lv' := [(4, vI (0 : Int32)), (3, vI (0 : Int32)), (0, vR x0), (1, vR x1), (2, vI x2)]) dX10_ordersFrom_9 (Nat.le_of_ble_eq_true rfl) rfl ?_
    exact r_sub [2, 3, 4, 1, 0] rfl (t_X10_ordersFrom_11 G l d _ hrec _ _ _ _ _ _ _ _ hf)
  · replace hf := (if_neg c1).symm.trans hf
    refine r_iconst (x := (1 : Int32)) dX10_ordersFrom_4 (by decide) ?_
    have hf := Option.some.inj hf
    subst hf
    exact r_iret rfl dX10_ordersFrom_5
theorem k_X10_ordersFrom (G : Gx) (l : Launch) : ∀ (d : Nat) {h : Hp} {x0 : Option Nat} {x1 : Option Nat} {x2 : Int32} {r : (Int32 × Hp)}, f_X10_ordersFrom d h x0 x1 x2 = some r → KM l yX10_ordersFrom (.code yX10_ordersFrom cX10_ordersFrom 5 (some .int) :: wsK) (4 + d) (92 + 24 * d) G [vR x0, vR x1, vI x2] h (some (vI r.1)) r.2 := by
  intro d
  induction d with
  | zero =>
    intro h x0 x1 x2 r hf
    rw [f_X10_ordersFrom] at hf
    cases hf
  | succ d ih =>
    intro h x0 x1 x2 r hf
    rw [f_X10_ordersFrom] at hf
    exact kg_X10_ordersFrom G l d (f_X10_ordersFrom d) (fun h x0 x1 x2 r hr => ih hr) hf
/-! ===== NumberedByAge.firstInOrder(I)I ===== -/
abbrev M_X10_firstInOrder : Mx := (cX10_firstInOrder, 4, RX10, (false, []), (some .int), 14, 332)
def f_X10_firstInOrder_69 (this : Nat) (k2 : Hp → Int32 → Int32 → Option (Int32 × Hp)) (h : Hp) (x1 : Int32) (x2 : Int32) : Option (Int32 × Hp) :=
    k2 h x1 (x2 + 1)
set_option maxRecDepth 100000 in
set_option maxHeartbeats 4000000 in
theorem t_X10_firstInOrder_69 (G : Gx) (l : Launch) (this : Nat) (k2 : Hp → Int32 → Int32 → Option (Int32 × Hp)) (hk2 : ∀ (h : Hp) (x1 : Int32) (x2 : Int32) (r : (Int32 × Hp)), k2 h x1 x2 = some r → RJ G l M_X10_firstInOrder (some (vI r.1)) r.2 2 [(0, vR (some this)), (1, vI x1), (2, vI x2)] [] h) (h : Hp) (x1 : Int32) (x2 : Int32) (r : (Int32 × Hp)) (hf : f_X10_firstInOrder_69 this k2 h x1 x2 = some r) : RJ G l M_X10_firstInOrder (some (vI r.1)) r.2 69 [(0, vR (some this)), (1, vI x1), (2, vI x2)] [] h := by
  unfold f_X10_firstInOrder_69 at hf
  refine r_iinc (y := (x2 + 1)) (lv' := [(2, vI (x2 + 1)), (0, vR (some this)), (1, vI x1)]) 2 dX10_firstInOrder_69 rfl rfl (Nat.le_of_ble_eq_true rfl) rfl ?_
  refine r_goto (tgt := 2) dX10_firstInOrder_72 (by decide) ?_
  exact r_sub [1, 2, 0] rfl (hk2 _ _ _ _ hf)
def f_X10_firstInOrder_2 (this : Nat) : Nat → Hp → Int32 → Int32 → Option (Int32 × Hp)
  | 0, _, _, _ => none
  | n + 1, h, x1, x2 =>
    if (12 : Int32) ≤ x2 then
      some ((-4 : Int32), h)
    else
      (gR h (some this) [10] 1).bind fun v9 =>
      (gR h (some this) [10] 0).bind fun v13 =>
      (rcv h v9 8).bind fun a17 =>
      (f_X8_canRaiseAs h a17 v13 x2).bind fun v17 =>
      if v17 = 0 then
        f_X10_firstInOrder_69 this (f_X10_firstInOrder_2 this n) h x1 x2
      else
        (gR h (some this) [10] 1).bind fun v24 =>
        (gR h (some this) [10] 0).bind fun v29 =>
        (rcv h v29 8).bind fun a33 =>
        (f_X8_heightAt h a33 x2).bind fun v33 =>
        (rcv h v24 8).bind fun a36 =>
        (f_X8_raise h a36 x2 v33).bind fun q36 =>
        (gR q36.2 (some this) [10] 1).bind fun v41 =>
        (gR q36.2 (some this) [10] 0).bind fun v45 =>
        (f_X10_ordersFrom 9 q36.2 v41 v45 (x1 - (1 : Int32))).bind fun q51 =>
        (gR q51.2 (some this) [10] 1).bind fun v56 =>
        (rcv q51.2 v56 8).bind fun a60 =>
        (f_X8_takeBack q51.2 a60 x2).bind fun h60 =>
        if q51.1 ≤ 0 then
          f_X10_firstInOrder_69 this (f_X10_firstInOrder_2 this n) h60 x1 x2
        else
          some (x2, h60)
set_option maxRecDepth 100000 in
set_option maxHeartbeats 4000000 in
theorem t_X10_firstInOrder_2 (G : Gx) (l : Launch) (this : Nat)  : ∀ (n : Nat) (h : Hp) (x1 : Int32) (x2 : Int32) (r : (Int32 × Hp)), f_X10_firstInOrder_2 this n h x1 x2 = some r → RJ G l M_X10_firstInOrder (some (vI r.1)) r.2 2 [(0, vR (some this)), (1, vI x1), (2, vI x2)] [] h := by
  intro n
  induction n with
  | zero =>
    intro h x1 x2 r hf
    rw [f_X10_firstInOrder_2] at hf
    cases hf
  | succ n ih =>
    intro h x1 x2 r hf
    rw [f_X10_firstInOrder_2] at hf
    refine r_iload_n 2 dX10_firstInOrder_2 rfl ?_
    refine r_bipush (x := (12 : Int32)) dX10_firstInOrder_3 (by decide) ?_
    refine r_icmp_ge (tgt := 75) dX10_firstInOrder_5 (by decide) (fun c5 => ?_) (fun c5 => ?_)
    · replace hf := (if_pos c5).symm.trans hf
      refine r_bipush (x := (-4 : Int32)) dX10_firstInOrder_75 (by decide) ?_
      have hf := Option.some.inj hf
      subst hf
      exact r_iret rfl dX10_firstInOrder_77
    · replace hf := (if_neg c5).symm.trans hf
      refine r_aload_n 0 dX10_firstInOrder_8 rfl ?_
      obtain ⟨v9, e9, hf⟩ := ob hf
      refine r_get dX10_firstInOrder_9 fl_10_1 kw_1_122 (Or.inl rfl) (gR_sp e9) ?_
      refine r_aload_n 0 dX10_firstInOrder_12 rfl ?_
      obtain ⟨v13, e13, hf⟩ := ob hf
      refine r_get dX10_firstInOrder_13 fl_10_0 kw_1_121 (Or.inl rfl) (gR_sp e13) ?_
      refine r_iload_n 2 dX10_firstInOrder_16 rfl ?_
      obtain ⟨a17, ea17, hf⟩ := ob hf
      obtain ⟨v17, e17, hf⟩ := ob hf
      refine r_callV (y := yX8_canRaiseAs) (ci := 8) (avs := [vR v13, vI x2]) dX10_firstInOrder_17 rfl kw_3_3 kw_3_4 kw_3_5 kw_1_2 kw_3_6 oky_X8_canRaiseAs ⟨Nat.le_of_ble_eq_true rfl, Nat.le_of_ble_eq_true rfl⟩ rfl (Nat.le_of_ble_eq_true rfl) ea17 (k_X8_canRaiseAs G l e17) ?_
      refine r_if_eq (tgt := 69) dX10_firstInOrder_20 (by decide) (fun c20 => ?_) (fun c20 => ?_)
      · replace hf := (if_pos c20).symm.trans hf
        exact r_sub [0, 1, 2] rfl (t_X10_firstInOrder_69 G l _ (f_X10_firstInOrder_2 this n) ih _ _ _ _ hf)
      · replace hf := (if_neg c20).symm.trans hf
        refine r_aload_n 0 dX10_firstInOrder_23 rfl ?_
        obtain ⟨v24, e24, hf⟩ := ob hf
        refine r_get dX10_firstInOrder_24 fl_10_1 kw_1_122 (Or.inl rfl) (gR_sp e24) ?_
        refine r_iload_n 2 dX10_firstInOrder_27 rfl ?_
        refine r_aload_n 0 dX10_firstInOrder_28 rfl ?_
        obtain ⟨v29, e29, hf⟩ := ob hf
        refine r_get dX10_firstInOrder_29 fl_10_0 kw_1_121 (Or.inl rfl) (gR_sp e29) ?_
        refine r_iload_n 2 dX10_firstInOrder_32 rfl ?_
        obtain ⟨a33, ea33, hf⟩ := ob hf
        obtain ⟨v33, e33, hf⟩ := ob hf
        refine r_callV (y := yX8_heightAt) (ci := 8) (avs := [vI x2]) dX10_firstInOrder_33 rfl kw_2_111 kw_2_112 kw_2_113 kw_1_2 kw_2_114 oky_X8_heightAt ⟨Nat.le_of_ble_eq_true rfl, Nat.le_of_ble_eq_true rfl⟩ rfl (Nat.le_of_ble_eq_true rfl) ea33 (k_X8_heightAt G l e33) ?_
        obtain ⟨a36, ea36, hf⟩ := ob hf
        obtain ⟨q36, e36, hf⟩ := ob hf
        refine r_callV (y := yX8_raise) (ci := 8) (avs := [vI x2, vI v33]) dX10_firstInOrder_36 rfl kw_1_188 kw_1_189 kw_1_190 kw_1_2 kw_1_191 oky_X8_raise ⟨Nat.le_of_ble_eq_true rfl, Nat.le_of_ble_eq_true rfl⟩ rfl (Nat.le_of_ble_eq_true rfl) ea36 (k_X8_raise G l e36) ?_
        refine r_pop dX10_firstInOrder_39 rfl ?_
        refine r_aload_n 0 dX10_firstInOrder_40 rfl ?_
        obtain ⟨v41, e41, hf⟩ := ob hf
        refine r_get dX10_firstInOrder_41 fl_10_1 kw_1_122 (Or.inl rfl) (gR_sp e41) ?_
        refine r_aload_n 0 dX10_firstInOrder_44 rfl ?_
        obtain ⟨v45, e45, hf⟩ := ob hf
        refine r_get dX10_firstInOrder_45 fl_10_0 kw_1_121 (Or.inl rfl) (gR_sp e45) ?_
        refine r_pc (pc' := 48) rfl ?_
        refine r_iload_n 1 dX10_firstInOrder_48 rfl ?_
        refine r_iconst (x := (1 : Int32)) dX10_firstInOrder_49 (by decide) ?_
        refine r_isub dX10_firstInOrder_50 ?_
        obtain ⟨q51, e51, hf⟩ := ob hf
        refine r_callS (y := yX10_ordersFrom) (avs := [vR v41, vR v45, vI (x1 - (1 : Int32))]) dX10_firstInOrder_51 kw_3_0 kw_3_1 kw_1_1 kw_3_2 oky_X10_ordersFrom ⟨Nat.le_of_ble_eq_true rfl, Nat.le_of_ble_eq_true rfl⟩ rfl (Nat.le_of_ble_eq_true rfl) (k_X10_ordersFrom G l 9 e51) ?_
        refine r_istore_n (lv' := [(3, vI q51.1), (0, vR (some this)), (1, vI x1), (2, vI x2)]) dX10_firstInOrder_54 (Nat.le_of_ble_eq_true rfl) rfl ?_
        refine r_aload_n 1 dX10_firstInOrder_55 rfl ?_
        obtain ⟨v56, e56, hf⟩ := ob hf
        refine r_get dX10_firstInOrder_56 fl_10_1 kw_1_122 (Or.inl rfl) (gR_sp e56) ?_
        refine r_iload_n 3 dX10_firstInOrder_59 rfl ?_
        obtain ⟨a60, ea60, hf⟩ := ob hf
        obtain ⟨h60, e60, hf⟩ := ob hf
        refine r_callV (y := yX8_takeBack) (ci := 8) (avs := [vI x2]) dX10_firstInOrder_60 rfl kw_3_8 kw_3_9 kw_3_10 kw_1_2 kw_3_11 oky_X8_takeBack ⟨Nat.le_of_ble_eq_true rfl, Nat.le_of_ble_eq_true rfl⟩ rfl (Nat.le_of_ble_eq_true rfl) ea60 (k_X8_takeBack G l e60) ?_
        refine r_iload_n 0 dX10_firstInOrder_63 rfl ?_
        refine r_if_le (tgt := 69) dX10_firstInOrder_64 (by decide) (fun c64 => ?_) (fun c64 => ?_)
        · replace hf := (if_pos c64).symm.trans hf
          exact r_sub [1, 2, 3] rfl (t_X10_firstInOrder_69 G l _ (f_X10_firstInOrder_2 this n) ih _ _ _ _ hf)
        · replace hf := (if_neg c64).symm.trans hf
          refine r_iload_n 3 dX10_firstInOrder_67 rfl ?_
          have hf := Option.some.inj hf
          subst hf
          exact r_iret rfl dX10_firstInOrder_68
def f_X10_firstInOrder (h : Hp) (this : Nat) (x1 : Int32) : Option (Int32 × Hp) :=
    f_X10_firstInOrder_2 this 10000 h x1 (0 : Int32)
set_option maxRecDepth 100000 in
set_option maxHeartbeats 4000000 in
theorem k_X10_firstInOrder (G : Gx) (l : Launch) {h : Hp} {this : Nat} {x1 : Int32} {r : (Int32 × Hp)} (hf : f_X10_firstInOrder h this x1 = some r) : KM l yX10_firstInOrder (.code yX10_firstInOrder cX10_firstInOrder 4 (some .int) :: wsK) 14 332 G [vR (some this), vI x1] h (some (vI r.1)) r.2 := by
  refine r_entry (ctor := false) (own := RX10) (by decide +kernel) rfl (fun q => by cases q) (Nat.le_of_ble_eq_true rfl) ?_
  show RJ G l M_X10_firstInOrder (some (vI r.1)) r.2 0 [(0, vR (some this)), (1, vI x1)] [] h
  unfold f_X10_firstInOrder at hf
  refine r_iconst (x := (0 : Int32)) dX10_firstInOrder_0 (by decide) ?_
  refine r_istore_n (lv' := [(2, vI (0 : Int32)), (0, vR (some this)), (1, vI x1)]) dX10_firstInOrder_1 (Nat.le_of_ble_eq_true rfl) rfl ?_
  exact r_sub [1, 2, 0] rfl (t_X10_firstInOrder_2 G l _ _ _ _ _ _ hf)
/-! ===== NumberedByAge.gaps()I ===== -/
abbrev M_X10_gaps : Mx := (cX10_gaps, 1, RX10, (false, []), (some .int), 3, 66)
def f_X10_gaps (h : Hp) (this : Nat) : Option Int32 :=
    (gR h (some this) [10] 0).bind fun v1 =>
    (rcv h v1 8).bind fun a4 =>
    (f_X8_freeNumbers h a4).bind fun v4 =>
    some v4
set_option maxRecDepth 100000 in
set_option maxHeartbeats 4000000 in
theorem k_X10_gaps (G : Gx) (l : Launch) {h : Hp} {this : Nat} {r : Int32} (hf : f_X10_gaps h this = some r) : KM l yX10_gaps (.code yX10_gaps cX10_gaps 1 (some .int) :: wsK) 3 66 G [vR (some this)] h (some (vI r)) h := by
  refine r_entry (ctor := false) (own := RX10) (by decide +kernel) rfl (fun q => by cases q) (Nat.le_of_ble_eq_true rfl) ?_
  show RJ G l M_X10_gaps (some (vI r)) h 0 [(0, vR (some this))] [] h
  unfold f_X10_gaps at hf
  refine r_aload_n 0 dX10_gaps_0 rfl ?_
  obtain ⟨v1, e1, hf⟩ := ob hf
  refine r_get dX10_gaps_1 fl_10_0 kw_1_121 (Or.inl rfl) (gR_sp e1) ?_
  obtain ⟨a4, ea4, hf⟩ := ob hf
  obtain ⟨v4, e4, hf⟩ := ob hf
  refine r_callV (y := yX8_freeNumbers) (ci := 8) (avs := []) dX10_gaps_4 rfl kw_2_150 kw_2_151 kw_2_152 kw_1_2 kw_2_153 oky_X8_freeNumbers ⟨Nat.le_of_ble_eq_true rfl, Nat.le_of_ble_eq_true rfl⟩ rfl (Nat.le_of_ble_eq_true rfl) ea4 (k_X8_freeNumbers G l e4) ?_
  have hf := Option.some.inj hf
  subst hf
  exact r_iret rfl dX10_gaps_7
/-! ===== NumberedByAge.have(I)I ===== -/
abbrev M_X10_have : Mx := (cX10_have, 2, RX10, (false, []), (some .int), 1, 23)
def f_X10_have (h : Hp) (this : Nat) (x1 : Int32) : Option Int32 :=
    if (1 : Int32) ≤ x1 then
      (gR h (some this) [10] 0).bind fun v10 =>
      (rcv h v10 8).bind fun a14 =>
      (f_X8_plotsWith h a14 x1).bind fun v14 =>
      some v14
    else
      some (-1 : Int32)
set_option maxRecDepth 100000 in
set_option maxHeartbeats 4000000 in
theorem k_X10_have (G : Gx) (l : Launch) {h : Hp} {this : Nat} {x1 : Int32} {r : Int32} (hf : f_X10_have h this x1 = some r) : KM l yX10_have (.code yX10_have cX10_have 2 (some .int) :: wsK) 1 23 G [vR (some this), vI x1] h (some (vI r)) h := by
  refine r_entry (ctor := false) (own := RX10) (by decide +kernel) rfl (fun q => by cases q) (Nat.le_of_ble_eq_true rfl) ?_
  show RJ G l M_X10_have (some (vI r)) h 0 [(0, vR (some this)), (1, vI x1)] [] h
  unfold f_X10_have at hf
  refine r_iload_n 1 dX10_have_0 rfl ?_
  refine r_iconst (x := (1 : Int32)) dX10_have_1 (by decide) ?_
  refine r_icmp_ge (tgt := 9) dX10_have_2 (by decide) (fun c2 => ?_) (fun c2 => ?_)
  · replace hf := (if_pos c2).symm.trans hf
    refine r_aload_n 0 dX10_have_9 rfl ?_
    obtain ⟨v10, e10, hf⟩ := ob hf
    refine r_get dX10_have_10 fl_10_0 kw_1_121 (Or.inl rfl) (gR_sp e10) ?_
    refine r_iload_n 1 dX10_have_13 rfl ?_
    obtain ⟨a14, ea14, hf⟩ := ob hf
    obtain ⟨v14, e14, hf⟩ := ob hf
    refine r_callV (y := yX8_plotsWith) (ci := 8) (avs := [vI x1]) dX10_have_14 rfl kw_2_123 kw_2_124 kw_2_125 kw_1_2 kw_2_126 oky_X8_plotsWith ⟨Nat.le_of_ble_eq_true rfl, Nat.le_of_ble_eq_true rfl⟩ rfl (Nat.le_of_ble_eq_true rfl) ea14 (k_X8_plotsWith G l e14) ?_
    have hf := Option.some.inj hf
    subst hf
    exact r_iret rfl dX10_have_17
  · replace hf := (if_neg c2).symm.trans hf
    refine r_iconst (x := (-1 : Int32)) dX10_have_5 (by decide) ?_
    refine r_goto (tgt := 17) dX10_have_6 (by decide) ?_
    have hf := Option.some.inj hf
    subst hf
    exact r_iret rfl dX10_have_17
