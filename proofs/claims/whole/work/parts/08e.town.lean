/-! ===== NumberedByAge.wayBy(IIZ)I ===== -/
abbrev M_X10_wayBy : Mx := (cX10_wayBy, 6, RX10, (false, []), (some .int), 4, 91)
def f_X10_wayBy (h : Hp) (this : Nat) (x1 : Int32) (x2 : Int32) (x3 : Int32) : Option Int32 :=
    (rcv h (some this) 10).bind fun a2 =>
    (f_X10_shelfAt h a2 x1).bind fun v2 =>
    if v2 = none then
      some (-1 : Int32)
    else
      (f_X10_isPlot h x2).bind fun v13 =>
      if v13 = 0 then
        some (-1 : Int32)
      else
        (rcv h v2 5).bind fun a24 =>
        (f_X5_refusalAsRowOf h a24 (1 : Int32)).bind fun v24 =>
        if v24 = 0 then
          (rcv h (some this) 10).bind fun a43 =>
          (f_X10_comesByAll h a43 v2 (4095 : Int32)).bind fun v43 =>
          if v43 = 0 then
            some (-4 : Int32)
          else
            if x3 = 0 then
              (rcv h (some this) 10).bind fun a70 =>
              (f_X10_wayOfSearch h a70 v2 x2).bind fun v70 =>
              some v70
            else
              (rcv h (some this) 10).bind fun a60 =>
              (f_X10_leastWay h a60 v2 x2).bind fun v60 =>
              some v60
        else
          some v24
set_option maxRecDepth 100000 in
set_option maxHeartbeats 4000000 in
theorem k_X10_wayBy (G : Gx) (l : Launch) {h : Hp} {this : Nat} {x1 : Int32} {x2 : Int32} {x3 : Int32} {r : Int32} (hf : f_X10_wayBy h this x1 x2 x3 = some r) : KM l yX10_wayBy (.code yX10_wayBy cX10_wayBy 6 (some .int) :: wsK) 4 91 G [vR (some this), vI x1, vI x2, vI x3] h (some (vI r)) h := by
  refine r_entry (ctor := false) (own := RX10) (by decide +kernel) rfl (fun q => by cases q) (Nat.le_of_ble_eq_true rfl) ?_
  show RJ G l M_X10_wayBy (some (vI r)) h 0 [(0, vR (some this)), (1, vI x1), (2, vI x2), (3, vI x3)] [] h
  unfold f_X10_wayBy at hf
  refine r_aload_n 0 dX10_wayBy_0 rfl ?_
  refine r_iload_n 1 dX10_wayBy_1 rfl ?_
  obtain ⟨a2, ea2, hf⟩ := ob hf
  obtain ⟨v2, e2, hf⟩ := ob hf
  refine r_callV (y := yX10_shelfAt) (ci := 10) (avs := [vI x1]) dX10_wayBy_2 rfl kw_1_141 kw_1_143 kw_0_0 kw_1_1 kw_1_144 oky_X10_shelfAt ⟨Nat.le_of_ble_eq_true rfl, Nat.le_of_ble_eq_true rfl⟩ rfl (Nat.le_of_ble_eq_true rfl) ea2 (k_X10_shelfAt G l e2) ?_
  refine r_astore (lv' := [(4, vR v2), (0, vR (some this)), (1, vI x1), (2, vI x2), (3, vI x3)]) dX10_wayBy_5 (Nat.le_of_ble_eq_true rfl) rfl ?_
  refine r_aload 0 dX10_wayBy_7 rfl ?_
  refine r_ifnull (tgt := 19) dX10_wayBy_9 (by decide) (fun c9 => ?_) (fun c9 => ?_)
  · replace hf := (if_pos c9).symm.trans hf
    refine r_iconst (x := (-1 : Int32)) dX10_wayBy_19 (by decide) ?_
    have hf := Option.some.inj hf
    subst hf
    exact r_iret rfl dX10_wayBy_20
  · replace hf := (if_neg c9).symm.trans hf
    refine r_iload_n 3 dX10_wayBy_12 rfl ?_
    obtain ⟨v13, e13, hf⟩ := ob hf
    refine r_callS (y := yX10_isPlot) (avs := [vI x2]) dX10_wayBy_13 kw_2_108 kw_1_193 kw_1_1 kw_1_194 oky_X10_isPlot ⟨Nat.le_of_ble_eq_true rfl, Nat.le_of_ble_eq_true rfl⟩ rfl (Nat.le_of_ble_eq_true rfl) (k_X10_isPlot G l e13) ?_
    refine r_if_ne (tgt := 21) dX10_wayBy_16 (by decide) (fun c16 => ?_) (fun c16 => ?_)
    · replace hf := (if_pos c16).symm.trans hf
      refine r_iconst (x := (-1 : Int32)) dX10_wayBy_19 (by decide) ?_
      have hf := Option.some.inj hf
      subst hf
      exact r_iret rfl dX10_wayBy_20
    · replace hf := (if_neg c16).symm.trans hf
      refine r_aload 0 dX10_wayBy_21 rfl ?_
      refine r_iconst (x := (1 : Int32)) dX10_wayBy_23 (by decide) ?_
      obtain ⟨a24, ea24, hf⟩ := ob hf
      obtain ⟨v24, e24, hf⟩ := ob hf
      refine r_callV (y := yX5_refusalAsRowOf) (ci := 5) (avs := [vI (1 : Int32)]) dX10_wayBy_24 rfl kw_1_145 kw_1_146 kw_1_147 kw_1_4 kw_1_148 oky_X5_refusalAsRowOf ⟨Nat.le_of_ble_eq_true rfl, Nat.le_of_ble_eq_true rfl⟩ rfl (Nat.le_of_ble_eq_true rfl) ea24 (k_X5_refusalAsRowOf G l e24) ?_
      refine r_istore (lv' := [(5, vI v24), (4, vR v2), (0, vR (some this)), (1, vI x1), (2, vI x2), (3, vI x3)]) dX10_wayBy_27 (Nat.le_of_ble_eq_true rfl) rfl ?_
      refine r_iload 0 dX10_wayBy_29 rfl ?_
      refine r_if_eq (tgt := 37) dX10_wayBy_31 (by decide) (fun c31 => ?_) (fun c31 => ?_)
      · replace hf := (if_pos c31).symm.trans hf
        refine r_aload_n 2 dX10_wayBy_37 rfl ?_
        refine r_aload 1 dX10_wayBy_38 rfl ?_
        refine r_sipush (x := (4095 : Int32)) dX10_wayBy_40 (by decide) ?_
        obtain ⟨a43, ea43, hf⟩ := ob hf
        obtain ⟨v43, e43, hf⟩ := ob hf
        refine r_callV (y := yX10_comesByAll) (ci := 10) (avs := [vR v2, vI (4095 : Int32)]) dX10_wayBy_43 rfl kw_2_164 kw_2_166 kw_0_5 kw_1_1 kw_2_167 oky_X10_comesByAll ⟨Nat.le_of_ble_eq_true rfl, Nat.le_of_ble_eq_true rfl⟩ rfl (Nat.le_of_ble_eq_true rfl) ea43 (k_X10_comesByAll G l e43) ?_
        refine r_if_ne (tgt := 52) dX10_wayBy_46 (by decide) (fun c46 => ?_) (fun c46 => ?_)
        · replace hf := (if_pos c46).symm.trans hf
          refine r_bipush (x := (-4 : Int32)) dX10_wayBy_49 (by decide) ?_
          have hf := Option.some.inj hf
          subst hf
          exact r_iret rfl dX10_wayBy_51
        · replace hf := (if_neg c46).symm.trans hf
          refine r_iload_n 5 dX10_wayBy_52 rfl ?_
          refine r_if_eq (tgt := 66) dX10_wayBy_53 (by decide) (fun c53 => ?_) (fun c53 => ?_)
          · replace hf := (if_pos c53).symm.trans hf
            refine r_aload_n 2 dX10_wayBy_66 rfl ?_
            refine r_aload 1 dX10_wayBy_67 rfl ?_
            refine r_iload_n 4 dX10_wayBy_69 rfl ?_
            obtain ⟨a70, ea70, hf⟩ := ob hf
            obtain ⟨v70, e70, hf⟩ := ob hf
            refine r_callV (y := yX10_wayOfSearch) (ci := 10) (avs := [vR v2, vI x2]) dX10_wayBy_70 rfl kw_2_178 kw_2_180 kw_0_7 kw_1_1 kw_2_181 oky_X10_wayOfSearch ⟨Nat.le_of_ble_eq_true rfl, Nat.le_of_ble_eq_true rfl⟩ rfl (Nat.le_of_ble_eq_true rfl) ea70 (k_X10_wayOfSearch G l e70) ?_
            have hf := Option.some.inj hf
            subst hf
            exact r_iret rfl dX10_wayBy_73
          · replace hf := (if_neg c53).symm.trans hf
            refine r_aload_n 2 dX10_wayBy_56 rfl ?_
            refine r_aload 1 dX10_wayBy_57 rfl ?_
            refine r_iload_n 4 dX10_wayBy_59 rfl ?_
            obtain ⟨a60, ea60, hf⟩ := ob hf
            obtain ⟨v60, e60, hf⟩ := ob hf
            refine r_callV (y := yX10_leastWay) (ci := 10) (avs := [vR v2, vI x2]) dX10_wayBy_60 rfl kw_2_168 kw_2_170 kw_0_6 kw_1_1 kw_2_171 oky_X10_leastWay ⟨Nat.le_of_ble_eq_true rfl, Nat.le_of_ble_eq_true rfl⟩ rfl (Nat.le_of_ble_eq_true rfl) ea60 (k_X10_leastWay G l e60) ?_
            refine r_goto (tgt := 73) dX10_wayBy_63 (by decide) ?_
            have hf := Option.some.inj hf
            subst hf
            exact r_iret rfl dX10_wayBy_73
      · replace hf := (if_neg c31).symm.trans hf
        refine r_iload 0 dX10_wayBy_34 rfl ?_
        have hf := Option.some.inj hf
        subst hf
        exact r_iret rfl dX10_wayBy_36
/-! ===== NumberedByAge.search(II)I ===== -/
abbrev M_X10_search : Mx := (cX10_search, 3, RX10, (false, []), (some .int), 5, 116)
def f_X10_search (h : Hp) (this : Nat) (x1 : Int32) (x2 : Int32) : Option Int32 :=
    (rcv h (some this) 10).bind fun a4 =>
    (f_X10_wayBy h a4 x1 x2 (0 : Int32)).bind fun v4 =>
    some v4
set_option maxRecDepth 100000 in
set_option maxHeartbeats 4000000 in
theorem k_X10_search (G : Gx) (l : Launch) {h : Hp} {this : Nat} {x1 : Int32} {x2 : Int32} {r : Int32} (hf : f_X10_search h this x1 x2 = some r) : KM l yX10_search (.code yX10_search cX10_search 3 (some .int) :: wsK) 5 116 G [vR (some this), vI x1, vI x2] h (some (vI r)) h := by
  refine r_entry (ctor := false) (own := RX10) (by decide +kernel) rfl (fun q => by cases q) (Nat.le_of_ble_eq_true rfl) ?_
  show RJ G l M_X10_search (some (vI r)) h 0 [(0, vR (some this)), (1, vI x1), (2, vI x2)] [] h
  unfold f_X10_search at hf
  refine r_aload_n 0 dX10_search_0 rfl ?_
  refine r_iload_n 1 dX10_search_1 rfl ?_
  refine r_iload_n 2 dX10_search_2 rfl ?_
  refine r_iconst (x := (0 : Int32)) dX10_search_3 (by decide) ?_
  obtain ⟨a4, ea4, hf⟩ := ob hf
  obtain ⟨v4, e4, hf⟩ := ob hf
  refine r_callV (y := yX10_wayBy) (ci := 10) (avs := [vI x1, vI x2, vI (0 : Int32)]) dX10_search_4 rfl kw_2_160 kw_2_162 kw_0_4 kw_1_1 kw_2_163 oky_X10_wayBy ⟨Nat.le_of_ble_eq_true rfl, Nat.le_of_ble_eq_true rfl⟩ rfl (Nat.le_of_ble_eq_true rfl) ea4 (k_X10_wayBy G l e4) ?_
  have hf := Option.some.inj hf
  subst hf
  exact r_iret rfl dX10_search_7
/-! ===== NumberedByAge.seeded(III)I ===== -/
abbrev M_X10_seeded : Mx := (cX10_seeded, 8, RX10, (false, []), (some .int), 4, 92)
def f_X10_seeded_121 (this : Nat) (k42 : Hp → Int32 → Int32 → Int32 → Int32 → Option (Int32 × Hp)) (h : Hp) (x1 : Int32) (x3 : Int32) (x4 : Int32) (x5 : Int32) : Option (Int32 × Hp) :=
    k42 h x1 x3 x4 (x5 + 1)
set_option maxRecDepth 100000 in
set_option maxHeartbeats 4000000 in
theorem t_X10_seeded_121 (G : Gx) (l : Launch) (this : Nat) (k42 : Hp → Int32 → Int32 → Int32 → Int32 → Option (Int32 × Hp)) (hk42 : ∀ (h : Hp) (x1 : Int32) (x3 : Int32) (x4 : Int32) (x5 : Int32) (r : (Int32 × Hp)), k42 h x1 x3 x4 x5 = some r → RJ G l M_X10_seeded (some (vI r.1)) r.2 42 [(0, vR (some this)), (1, vI x1), (3, vI x3), (4, vI x4), (5, vI x5)] [] h) (h : Hp) (x1 : Int32) (x3 : Int32) (x4 : Int32) (x5 : Int32) (r : (Int32 × Hp)) (hf : f_X10_seeded_121 this k42 h x1 x3 x4 x5 = some r) : RJ G l M_X10_seeded (some (vI r.1)) r.2 121 [(0, vR (some this)), (1, vI x1), (3, vI x3), (4, vI x4), (5, vI x5)] [] h := by
  unfold f_X10_seeded_121 at hf
  refine r_iinc (y := (x5 + 1)) (lv' := [(5, vI (x5 + 1)), (0, vR (some this)), (1, vI x1), (3, vI x3), (4, vI x4)]) 4 dX10_seeded_121 rfl rfl (Nat.le_of_ble_eq_true rfl) rfl ?_
  refine r_goto (tgt := 42) dX10_seeded_124 (by decide) ?_
  exact r_sub [1, 2, 3, 4, 0] rfl (hk42 _ _ _ _ _ _ hf)
def f_X10_seeded_42 (this : Nat) : Nat → Hp → Int32 → Int32 → Int32 → Int32 → Option (Int32 × Hp)
  | 0, _, _, _, _, _ => none
  | n + 1, h, x1, x3, x4, x5 =>
    if x1 ≤ x5 then
      if x3 = 0 then
        (gR h (some this) [10] 1).bind fun v132 =>
        (rcv h v132 8).bind fun a135 =>
        (f_X8_freeNumbers h a135).bind fun v135 =>
        some (v135, h)
      else
        (gR h (some this) [10] 1).bind fun v142 =>
        (rcv h v142 8).bind fun a145 =>
        (f_X8_longestRise h a145).bind fun q145 =>
        some (q145.1, q145.2)
    else
      (f_X10_nextSeed h x4).bind fun v50 =>
      (f_X10_drawnBits h v50).bind fun v57 =>
      (rmI v57 (12 : Int32)).bind fun v62 =>
      (f_X10_nextSeed h v50).bind fun v67 =>
      (f_X10_drawnBits h v67).bind fun v74 =>
      (rmI v74 (9 : Int32)).bind fun v79 =>
      (gR h (some this) [10] 1).bind fun v85 =>
      (rcv h v85 8).bind fun a90 =>
      (f_X8_hasHouse h a90 v62).bind fun v90 =>
      if v90 = 0 then
        (gR h (some this) [10] 1).bind fun v110 =>
        (rcv h v110 8).bind fun a117 =>
        (f_X8_raise h a117 v62 (v79 + (1 : Int32))).bind fun q117 =>
        f_X10_seeded_121 this (f_X10_seeded_42 this n) q117.2 x1 x3 v67 x5
      else
        (gR h (some this) [10] 1).bind fun v97 =>
        (rcv h v97 8).bind fun a102 =>
        (f_X8_raze h a102 v62).bind fun q102 =>
        f_X10_seeded_121 this (f_X10_seeded_42 this n) q102.2 x1 x3 v67 x5
set_option maxRecDepth 100000 in
set_option maxHeartbeats 4000000 in
theorem t_X10_seeded_42 (G : Gx) (l : Launch) (this : Nat)  : ∀ (n : Nat) (h : Hp) (x1 : Int32) (x3 : Int32) (x4 : Int32) (x5 : Int32) (r : (Int32 × Hp)), f_X10_seeded_42 this n h x1 x3 x4 x5 = some r → RJ G l M_X10_seeded (some (vI r.1)) r.2 42 [(0, vR (some this)), (1, vI x1), (3, vI x3), (4, vI x4), (5, vI x5)] [] h := by
  intro n
  induction n with
  | zero =>
    intro h x1 x3 x4 x5 r hf
    rw [f_X10_seeded_42] at hf
    cases hf
  | succ n ih =>
    intro h x1 x3 x4 x5 r hf
    rw [f_X10_seeded_42] at hf
    refine r_iload 4 dX10_seeded_42 rfl ?_
    refine r_iload_n 1 dX10_seeded_44 rfl ?_
    refine r_icmp_ge (tgt := 127) dX10_seeded_45 (by decide) (fun c45 => ?_) (fun c45 => ?_)
    · replace hf := (if_pos c45).symm.trans hf
      refine r_iload_n 2 dX10_seeded_127 rfl ?_
      refine r_if_ne (tgt := 141) dX10_seeded_128 (by decide) (fun c128 => ?_) (fun c128 => ?_)
      · replace hf := (if_pos c128).symm.trans hf
        refine r_aload_n 0 dX10_seeded_131 rfl ?_
        obtain ⟨v132, e132, hf⟩ := ob hf
        refine r_get dX10_seeded_132 fl_10_1 kw_1_122 (Or.inl rfl) (gR_sp e132) ?_
        obtain ⟨a135, ea135, hf⟩ := ob hf
        obtain ⟨v135, e135, hf⟩ := ob hf
        refine r_callV (y := yX8_freeNumbers) (ci := 8) (avs := []) dX10_seeded_135 rfl kw_2_150 kw_2_151 kw_2_152 kw_1_2 kw_2_153 oky_X8_freeNumbers ⟨Nat.le_of_ble_eq_true rfl, Nat.le_of_ble_eq_true rfl⟩ rfl (Nat.le_of_ble_eq_true rfl) ea135 (k_X8_freeNumbers G l e135) ?_
        refine r_goto (tgt := 148) dX10_seeded_138 (by decide) ?_
        have hf := Option.some.inj hf
        subst hf
        exact r_iret rfl dX10_seeded_148
      · replace hf := (if_neg c128).symm.trans hf
        refine r_aload_n 0 dX10_seeded_141 rfl ?_
        obtain ⟨v142, e142, hf⟩ := ob hf
        refine r_get dX10_seeded_142 fl_10_1 kw_1_122 (Or.inl rfl) (gR_sp e142) ?_
        obtain ⟨a145, ea145, hf⟩ := ob hf
        obtain ⟨q145, e145, hf⟩ := ob hf
        refine r_callV (y := yX8_longestRise) (ci := 8) (avs := []) dX10_seeded_145 rfl kw_2_190 kw_2_191 kw_2_192 kw_1_2 kw_2_193 oky_X8_longestRise ⟨Nat.le_of_ble_eq_true rfl, Nat.le_of_ble_eq_true rfl⟩ rfl (Nat.le_of_ble_eq_true rfl) ea145 (k_X8_longestRise G l e145) ?_
        have hf := Option.some.inj hf
        subst hf
        exact r_iret rfl dX10_seeded_148
    · replace hf := (if_neg c45).symm.trans hf
      refine r_iload 3 dX10_seeded_48 rfl ?_
      obtain ⟨v50, e50, hf⟩ := ob hf
      refine r_callS (y := yX10_nextSeed) (avs := [vI x4]) dX10_seeded_50 kw_3_36 kw_3_37 kw_1_1 kw_3_38 oky_X10_nextSeed ⟨Nat.le_of_ble_eq_true rfl, Nat.le_of_ble_eq_true rfl⟩ rfl (Nat.le_of_ble_eq_true rfl) (k_X10_nextSeed G l e50) ?_
      refine r_istore (lv' := [(4, vI v50), (0, vR (some this)), (1, vI x1), (3, vI x3), (5, vI x5)]) dX10_seeded_53 (Nat.le_of_ble_eq_true rfl) rfl ?_
      refine r_iload 0 dX10_seeded_55 rfl ?_
      obtain ⟨v57, e57, hf⟩ := ob hf
      refine r_callS (y := yX10_drawnBits) (avs := [vI v50]) dX10_seeded_57 kw_3_40 kw_3_41 kw_1_1 kw_3_42 oky_X10_drawnBits ⟨Nat.le_of_ble_eq_true rfl, Nat.le_of_ble_eq_true rfl⟩ rfl (Nat.le_of_ble_eq_true rfl) (k_X10_drawnBits G l e57) ?_
      refine r_bipush (x := (12 : Int32)) dX10_seeded_60 (by decide) ?_
      obtain ⟨v62, e62, hf⟩ := ob hf
      refine r_irem dX10_seeded_62 e62 ?_
      refine r_istore (lv' := [(6, vI v62), (4, vI v50), (0, vR (some this)), (1, vI x1), (3, vI x3), (5, vI x5)]) dX10_seeded_63 (Nat.le_of_ble_eq_true rfl) rfl ?_
      refine r_iload 1 dX10_seeded_65 rfl ?_
      obtain ⟨v67, e67, hf⟩ := ob hf
      refine r_callS (y := yX10_nextSeed) (avs := [vI v50]) dX10_seeded_67 kw_3_36 kw_3_37 kw_1_1 kw_3_38 oky_X10_nextSeed ⟨Nat.le_of_ble_eq_true rfl, Nat.le_of_ble_eq_true rfl⟩ rfl (Nat.le_of_ble_eq_true rfl) (k_X10_nextSeed G l e67) ?_
      refine r_istore (lv' := [(4, vI v67), (6, vI v62), (0, vR (some this)), (1, vI x1), (3, vI x3), (5, vI x5)]) dX10_seeded_70 (Nat.le_of_ble_eq_true rfl) rfl ?_
      refine r_iload 0 dX10_seeded_72 rfl ?_
      obtain ⟨v74, e74, hf⟩ := ob hf
      refine r_callS (y := yX10_drawnBits) (avs := [vI v67]) dX10_seeded_74 kw_3_40 kw_3_41 kw_1_1 kw_3_42 oky_X10_drawnBits ⟨Nat.le_of_ble_eq_true rfl, Nat.le_of_ble_eq_true rfl⟩ rfl (Nat.le_of_ble_eq_true rfl) (k_X10_drawnBits G l e74) ?_
      refine r_pc (pc' := 77) rfl ?_
      refine r_bipush (x := (9 : Int32)) dX10_seeded_77 (by decide) ?_
      obtain ⟨v79, e79, hf⟩ := ob hf
      refine r_irem dX10_seeded_79 e79 ?_
      refine r_iconst (x := (1 : Int32)) dX10_seeded_80 (by decide) ?_
      refine r_iadd dX10_seeded_81 ?_
      refine r_istore (lv' := [(7, vI (v79 + (1 : Int32))), (4, vI v67), (6, vI v62), (0, vR (some this)), (1, vI x1), (3, vI x3), (5, vI x5)]) dX10_seeded_82 (Nat.le_of_ble_eq_true rfl) rfl ?_
      refine r_aload_n 3 dX10_seeded_84 rfl ?_
      obtain ⟨v85, e85, hf⟩ := ob hf
      refine r_get dX10_seeded_85 fl_10_1 kw_1_122 (Or.inl rfl) (gR_sp e85) ?_
      refine r_iload 2 dX10_seeded_88 rfl ?_
      obtain ⟨a90, ea90, hf⟩ := ob hf
      obtain ⟨v90, e90, hf⟩ := ob hf
      refine r_callV (y := yX8_hasHouse) (ci := 8) (avs := [vI v62]) dX10_seeded_90 rfl kw_2_109 kw_1_199 kw_1_200 kw_1_2 kw_1_201 oky_X8_hasHouse ⟨Nat.le_of_ble_eq_true rfl, Nat.le_of_ble_eq_true rfl⟩ rfl (Nat.le_of_ble_eq_true rfl) ea90 (k_X8_hasHouse G l e90) ?_
      refine r_if_eq (tgt := 109) dX10_seeded_93 (by decide) (fun c93 => ?_) (fun c93 => ?_)
      · replace hf := (if_pos c93).symm.trans hf
        refine r_aload_n 3 dX10_seeded_109 rfl ?_
        obtain ⟨v110, e110, hf⟩ := ob hf
        refine r_get dX10_seeded_110 fl_10_1 kw_1_122 (Or.inl rfl) (gR_sp e110) ?_
        refine r_iload 2 dX10_seeded_113 rfl ?_
        refine r_iload 0 dX10_seeded_115 rfl ?_
        obtain ⟨a117, ea117, hf⟩ := ob hf
        obtain ⟨q117, e117, hf⟩ := ob hf
        refine r_callV (y := yX8_raise) (ci := 8) (avs := [vI v62, vI (v79 + (1 : Int32))]) dX10_seeded_117 rfl kw_1_188 kw_1_189 kw_1_190 kw_1_2 kw_1_191 oky_X8_raise ⟨Nat.le_of_ble_eq_true rfl, Nat.le_of_ble_eq_true rfl⟩ rfl (Nat.le_of_ble_eq_true rfl) ea117 (k_X8_raise G l e117) ?_
        refine r_pop dX10_seeded_120 rfl ?_
        exact r_sub [3, 4, 5, 1, 6] rfl (t_X10_seeded_121 G l _ (f_X10_seeded_42 this n) ih _ _ _ _ _ _ hf)
      · replace hf := (if_neg c93).symm.trans hf
        refine r_aload_n 3 dX10_seeded_96 rfl ?_
        obtain ⟨v97, e97, hf⟩ := ob hf
        refine r_get dX10_seeded_97 fl_10_1 kw_1_122 (Or.inl rfl) (gR_sp e97) ?_
        refine r_iload 2 dX10_seeded_100 rfl ?_
        obtain ⟨a102, ea102, hf⟩ := ob hf
        obtain ⟨q102, e102, hf⟩ := ob hf
        refine r_callV (y := yX8_raze) (ci := 8) (avs := [vI v62]) dX10_seeded_102 rfl kw_2_21 kw_2_22 kw_2_23 kw_1_2 kw_2_24 oky_X8_raze ⟨Nat.le_of_ble_eq_true rfl, Nat.le_of_ble_eq_true rfl⟩ rfl (Nat.le_of_ble_eq_true rfl) ea102 (k_X8_raze G l e102) ?_
        refine r_pop dX10_seeded_105 rfl ?_
        refine r_goto (tgt := 121) dX10_seeded_106 (by decide) ?_
        exact r_sub [3, 4, 5, 1, 6] rfl (t_X10_seeded_121 G l _ (f_X10_seeded_42 this n) ih _ _ _ _ _ _ hf)
def f_X10_seeded (h : Hp) (this : Nat) (x1 : Int32) (x2 : Int32) (x3 : Int32) : Option (Int32 × Hp) :=
    if x1 < (1 : Int32) then
      some ((-1 : Int32), h)
    else
      if (30 : Int32) < x1 then
        some ((-1 : Int32), h)
      else
        if x3 < 0 then
          some ((-1 : Int32), h)
        else
          if x3 ≤ (1 : Int32) then
            (gR h (some this) [10] 1).bind fun v23 =>
            (gR h (some this) [10] 0).bind fun v27 =>
            (gR h v27 [8] 9).bind fun v30 =>
            (rcv h v23 8).bind fun a33 =>
            (f_X8_clear h a33 v30).bind fun h33 =>
            f_X10_seeded_42 this 10000 h33 x1 x3 x2 (0 : Int32)
          else
            some ((-1 : Int32), h)
set_option maxRecDepth 100000 in
set_option maxHeartbeats 4000000 in
theorem k_X10_seeded (G : Gx) (l : Launch) {h : Hp} {this : Nat} {x1 : Int32} {x2 : Int32} {x3 : Int32} {r : (Int32 × Hp)} (hf : f_X10_seeded h this x1 x2 x3 = some r) : KM l yX10_seeded (.code yX10_seeded cX10_seeded 8 (some .int) :: wsK) 4 92 G [vR (some this), vI x1, vI x2, vI x3] h (some (vI r.1)) r.2 := by
  refine r_entry (ctor := false) (own := RX10) (by decide +kernel) rfl (fun q => by cases q) (Nat.le_of_ble_eq_true rfl) ?_
  show RJ G l M_X10_seeded (some (vI r.1)) r.2 0 [(0, vR (some this)), (1, vI x1), (2, vI x2), (3, vI x3)] [] h
  unfold f_X10_seeded at hf
  refine r_iload_n 1 dX10_seeded_0 rfl ?_
  refine r_iconst (x := (1 : Int32)) dX10_seeded_1 (by decide) ?_
  refine r_icmp_lt (tgt := 20) dX10_seeded_2 (by decide) (fun c2 => ?_) (fun c2 => ?_)
  · replace hf := (if_pos c2).symm.trans hf
    refine r_iconst (x := (-1 : Int32)) dX10_seeded_20 (by decide) ?_
    have hf := Option.some.inj hf
    subst hf
    exact r_iret rfl dX10_seeded_21
  · replace hf := (if_neg c2).symm.trans hf
    refine r_iload_n 1 dX10_seeded_5 rfl ?_
    refine r_bipush (x := (30 : Int32)) dX10_seeded_6 (by decide) ?_
    refine r_icmp_gt (tgt := 20) dX10_seeded_8 (by decide) (fun c8 => ?_) (fun c8 => ?_)
    · replace hf := (if_pos c8).symm.trans hf
      refine r_iconst (x := (-1 : Int32)) dX10_seeded_20 (by decide) ?_
      have hf := Option.some.inj hf
      subst hf
      exact r_iret rfl dX10_seeded_21
    · replace hf := (if_neg c8).symm.trans hf
      refine r_iload_n 3 dX10_seeded_11 rfl ?_
      refine r_if_lt (tgt := 20) dX10_seeded_12 (by decide) (fun c12 => ?_) (fun c12 => ?_)
      · replace hf := (if_pos c12).symm.trans hf
        refine r_iconst (x := (-1 : Int32)) dX10_seeded_20 (by decide) ?_
        have hf := Option.some.inj hf
        subst hf
        exact r_iret rfl dX10_seeded_21
      · replace hf := (if_neg c12).symm.trans hf
        refine r_iload_n 3 dX10_seeded_15 rfl ?_
        refine r_iconst (x := (1 : Int32)) dX10_seeded_16 (by decide) ?_
        refine r_icmp_le (tgt := 22) dX10_seeded_17 (by decide) (fun c17 => ?_) (fun c17 => ?_)
        · replace hf := (if_pos c17).symm.trans hf
          refine r_aload_n 0 dX10_seeded_22 rfl ?_
          obtain ⟨v23, e23, hf⟩ := ob hf
          refine r_get dX10_seeded_23 fl_10_1 kw_1_122 (Or.inl rfl) (gR_sp e23) ?_
          refine r_aload_n 0 dX10_seeded_26 rfl ?_
          obtain ⟨v27, e27, hf⟩ := ob hf
          refine r_get dX10_seeded_27 fl_10_0 kw_1_121 (Or.inl rfl) (gR_sp e27) ?_
          obtain ⟨v30, e30, hf⟩ := ob hf
          refine r_getN dX10_seeded_30 fl_8_9 (by decide) (gR_sp e30) ?_
          obtain ⟨a33, ea33, hf⟩ := ob hf
          obtain ⟨h33, e33, hf⟩ := ob hf
          refine r_callV (y := yX8_clear) (ci := 8) (avs := [vR v30]) dX10_seeded_33 rfl kw_2_239 kw_2_215 kw_2_216 kw_1_2 kw_2_217 oky_X8_clear ⟨Nat.le_of_ble_eq_true rfl, Nat.le_of_ble_eq_true rfl⟩ rfl (Nat.le_of_ble_eq_true rfl) ea33 (k_X8_clear G l e33) ?_
          refine r_iload_n 2 dX10_seeded_36 rfl ?_
          refine r_istore (lv' := [(4, vI x2), (0, vR (some this)), (1, vI x1), (2, vI x2), (3, vI x3)]) dX10_seeded_37 (Nat.le_of_ble_eq_true rfl) rfl ?_
          refine r_iconst (x := (0 : Int32)) dX10_seeded_39 (by decide) ?_
          refine r_istore (lv' := [(5, vI (0 : Int32)), (4, vI x2), (0, vR (some this)), (1, vI x1), (2, vI x2), (3, vI x3)]) dX10_seeded_40 (Nat.le_of_ble_eq_true rfl) rfl ?_
          exact r_sub [2, 3, 5, 1, 0] rfl (t_X10_seeded_42 G l _ _ _ _ _ _ _ _ hf)
        · replace hf := (if_neg c17).symm.trans hf
          refine r_iconst (x := (-1 : Int32)) dX10_seeded_20 (by decide) ?_
          have hf := Option.some.inj hf
          subst hf
          exact r_iret rfl dX10_seeded_21
/-! ===== NumberedByAge.stuckInStatement(LNumberedByAge$Shelf;I)I ===== -/
abbrev M_X10_stuckInStatement : Mx := (cX10_stuckInStatement, 5, RX10, (false, []), (some .int), 2, 42)
def f_X10_stuckInStatement_26 (h : Hp) : Nat → (Option Nat) → Int32 → Int32 → Option Int32
  | 0, _, _, _ => none
  | n + 1, x0, x3, x4 =>
    if x3 ≤ x4 then
      (rcv h x0 5).bind fun a65 =>
      (f_X5_at h a65 x3).bind fun v65 =>
      if v65 = (59 : Int32) then
        some (-1 : Int32)
      else
        some x3
    else
      (rcv h x0 5).bind fun a35 =>
      (f_X5_at h a35 x4).bind fun v35 =>
      if v35 < (48 : Int32) then
        some x4
      else
        (rcv h x0 5).bind fun a46 =>
        (f_X5_at h a46 x4).bind fun v46 =>
        if v46 ≤ (57 : Int32) then
          (f_X10_stuckInStatement_26 h n) x0 x3 (x4 + 1)
        else
          some x4
set_option maxRecDepth 100000 in
set_option maxHeartbeats 4000000 in
theorem t_X10_stuckInStatement_26 (G : Gx) (l : Launch) (h : Hp)  : ∀ (n : Nat) (x0 : Option Nat) (x3 : Int32) (x4 : Int32) (r : Int32), f_X10_stuckInStatement_26 h n x0 x3 x4 = some r → RJ G l M_X10_stuckInStatement (some (vI r)) h 26 [(0, vR x0), (3, vI x3), (4, vI x4)] [] h := by
  intro n
  induction n with
  | zero =>
    intro x0 x3 x4 r hf
    rw [f_X10_stuckInStatement_26] at hf
    cases hf
  | succ n ih =>
    intro x0 x3 x4 r hf
    rw [f_X10_stuckInStatement_26] at hf
    refine r_iload 2 dX10_stuckInStatement_26 rfl ?_
    refine r_iload_n 1 dX10_stuckInStatement_28 rfl ?_
    refine r_icmp_ge (tgt := 63) dX10_stuckInStatement_29 (by decide) (fun c29 => ?_) (fun c29 => ?_)
    · replace hf := (if_pos c29).symm.trans hf
      refine r_aload_n 0 dX10_stuckInStatement_63 rfl ?_
      refine r_iload_n 1 dX10_stuckInStatement_64 rfl ?_
      obtain ⟨a65, ea65, hf⟩ := ob hf
      obtain ⟨v65, e65, hf⟩ := ob hf
      refine r_callV (y := yX5_at) (ci := 5) (avs := [vI x3]) dX10_stuckInStatement_65 rfl kw_1_159 kw_1_160 kw_1_161 kw_1_4 kw_1_162 oky_X5_at ⟨Nat.le_of_ble_eq_true rfl, Nat.le_of_ble_eq_true rfl⟩ rfl (Nat.le_of_ble_eq_true rfl) ea65 (k_X5_at G l e65) ?_
      refine r_bipush (x := (59 : Int32)) dX10_stuckInStatement_68 (by decide) ?_
      refine r_icmp_ne (tgt := 77) dX10_stuckInStatement_70 (by decide) (fun c70 => ?_) (fun c70 => ?_)
      · replace hf := (if_pos c70).symm.trans hf
        refine r_iconst (x := (-1 : Int32)) dX10_stuckInStatement_73 (by decide) ?_
        refine r_goto (tgt := 78) dX10_stuckInStatement_74 (by decide) ?_
        have hf := Option.some.inj hf
        subst hf
        exact r_iret rfl dX10_stuckInStatement_78
      · replace hf := (if_neg c70).symm.trans hf
        refine r_iload_n 1 dX10_stuckInStatement_77 rfl ?_
        have hf := Option.some.inj hf
        subst hf
        exact r_iret rfl dX10_stuckInStatement_78
    · replace hf := (if_neg c29).symm.trans hf
      refine r_aload_n 0 dX10_stuckInStatement_32 rfl ?_
      refine r_iload 2 dX10_stuckInStatement_33 rfl ?_
      obtain ⟨a35, ea35, hf⟩ := ob hf
      obtain ⟨v35, e35, hf⟩ := ob hf
      refine r_callV (y := yX5_at) (ci := 5) (avs := [vI x4]) dX10_stuckInStatement_35 rfl kw_1_159 kw_1_160 kw_1_161 kw_1_4 kw_1_162 oky_X5_at ⟨Nat.le_of_ble_eq_true rfl, Nat.le_of_ble_eq_true rfl⟩ rfl (Nat.le_of_ble_eq_true rfl) ea35 (k_X5_at G l e35) ?_
      refine r_bipush (x := (48 : Int32)) dX10_stuckInStatement_38 (by decide) ?_
      refine r_icmp_lt (tgt := 54) dX10_stuckInStatement_40 (by decide) (fun c40 => ?_) (fun c40 => ?_)
      · replace hf := (if_pos c40).symm.trans hf
        refine r_iload 2 dX10_stuckInStatement_54 rfl ?_
        have hf := Option.some.inj hf
        subst hf
        exact r_iret rfl dX10_stuckInStatement_56
      · replace hf := (if_neg c40).symm.trans hf
        refine r_aload_n 0 dX10_stuckInStatement_43 rfl ?_
        refine r_iload 2 dX10_stuckInStatement_44 rfl ?_
        obtain ⟨a46, ea46, hf⟩ := ob hf
        obtain ⟨v46, e46, hf⟩ := ob hf
        refine r_callV (y := yX5_at) (ci := 5) (avs := [vI x4]) dX10_stuckInStatement_46 rfl kw_1_159 kw_1_160 kw_1_161 kw_1_4 kw_1_162 oky_X5_at ⟨Nat.le_of_ble_eq_true rfl, Nat.le_of_ble_eq_true rfl⟩ rfl (Nat.le_of_ble_eq_true rfl) ea46 (k_X5_at G l e46) ?_
        refine r_bipush (x := (57 : Int32)) dX10_stuckInStatement_49 (by decide) ?_
        refine r_icmp_le (tgt := 57) dX10_stuckInStatement_51 (by decide) (fun c51 => ?_) (fun c51 => ?_)
        · replace hf := (if_pos c51).symm.trans hf
          refine r_iinc (y := (x4 + 1)) (lv' := [(4, vI (x4 + 1)), (0, vR x0), (3, vI x3)]) 2 dX10_stuckInStatement_57 rfl rfl (Nat.le_of_ble_eq_true rfl) rfl ?_
          refine r_goto (tgt := 26) dX10_stuckInStatement_60 (by decide) ?_
          exact r_sub [1, 2, 0] rfl (ih _ _ _ _ hf)
        · replace hf := (if_neg c51).symm.trans hf
          refine r_iload 2 dX10_stuckInStatement_54 rfl ?_
          have hf := Option.some.inj hf
          subst hf
          exact r_iret rfl dX10_stuckInStatement_56
def f_X10_stuckInStatement (h : Hp) (x0 : Option Nat) (x1 : Int32) : Option Int32 :=
    (rcv h x0 5).bind fun a2 =>
    (f_X5_at h a2 x1).bind fun v2 =>
    (f_X10_digitsBehind h v2).bind fun v5 =>
    if v5 = 0 then
      some x1
    else
      f_X10_stuckInStatement_26 h 10000 x0 ((x1 + v5) + (1 : Int32)) (x1 + (1 : Int32))
set_option maxRecDepth 100000 in
set_option maxHeartbeats 4000000 in
theorem k_X10_stuckInStatement (G : Gx) (l : Launch) {h : Hp} {x0 : Option Nat} {x1 : Int32} {r : Int32} (hf : f_X10_stuckInStatement h x0 x1 = some r) : KM l yX10_stuckInStatement (.code yX10_stuckInStatement cX10_stuckInStatement 5 (some .int) :: wsK) 2 42 G [vR x0, vI x1] h (some (vI r)) h := by
  refine r_entry (ctor := false) (own := RX10) (by decide +kernel) rfl (fun q => by cases q) (Nat.le_of_ble_eq_true rfl) ?_
  show RJ G l M_X10_stuckInStatement (some (vI r)) h 0 [(0, vR x0), (1, vI x1)] [] h
  unfold f_X10_stuckInStatement at hf
  refine r_aload_n 0 dX10_stuckInStatement_0 rfl ?_
  refine r_iload_n 1 dX10_stuckInStatement_1 rfl ?_
  obtain ⟨a2, ea2, hf⟩ := ob hf
  obtain ⟨v2, e2, hf⟩ := ob hf
  refine r_callV (y := yX5_at) (ci := 5) (avs := [vI x1]) dX10_stuckInStatement_2 rfl kw_1_159 kw_1_160 kw_1_161 kw_1_4 kw_1_162 oky_X5_at ⟨Nat.le_of_ble_eq_true rfl, Nat.le_of_ble_eq_true rfl⟩ rfl (Nat.le_of_ble_eq_true rfl) ea2 (k_X5_at G l e2) ?_
  obtain ⟨v5, e5, hf⟩ := ob hf
  refine r_callS (y := yX10_digitsBehind) (avs := [vI v2]) dX10_stuckInStatement_5 kw_1_167 kw_1_168 kw_1_1 kw_1_169 oky_X10_digitsBehind ⟨Nat.le_of_ble_eq_true rfl, Nat.le_of_ble_eq_true rfl⟩ rfl (Nat.le_of_ble_eq_true rfl) (k_X10_digitsBehind G l e5) ?_
  refine r_istore_n (lv' := [(2, vI v5), (0, vR x0), (1, vI x1)]) dX10_stuckInStatement_8 (Nat.le_of_ble_eq_true rfl) rfl ?_
  refine r_iload_n 0 dX10_stuckInStatement_9 rfl ?_
  refine r_if_ne (tgt := 15) dX10_stuckInStatement_10 (by decide) (fun c10 => ?_) (fun c10 => ?_)
  · replace hf := (if_pos c10).symm.trans hf
    refine r_iload_n 2 dX10_stuckInStatement_13 rfl ?_
    have hf := Option.some.inj hf
    subst hf
    exact r_iret rfl dX10_stuckInStatement_14
  · replace hf := (if_neg c10).symm.trans hf
    refine r_iload_n 2 dX10_stuckInStatement_15 rfl ?_
    refine r_iload_n 0 dX10_stuckInStatement_16 rfl ?_
    refine r_iadd dX10_stuckInStatement_17 ?_
    refine r_iconst (x := (1 : Int32)) dX10_stuckInStatement_18 (by decide) ?_
    refine r_iadd dX10_stuckInStatement_19 ?_
    refine r_istore_n (lv' := [(3, vI ((x1 + v5) + (1 : Int32))), (2, vI v5), (0, vR x0), (1, vI x1)]) dX10_stuckInStatement_20 (Nat.le_of_ble_eq_true rfl) rfl ?_
    refine r_iload_n 3 dX10_stuckInStatement_21 rfl ?_
    refine r_iconst (x := (1 : Int32)) dX10_stuckInStatement_22 (by decide) ?_
    refine r_iadd dX10_stuckInStatement_23 ?_
    refine r_istore (lv' := [(4, vI (x1 + (1 : Int32))), (3, vI ((x1 + v5) + (1 : Int32))), (2, vI v5), (0, vR x0), (1, vI x1)]) dX10_stuckInStatement_24 (Nat.le_of_ble_eq_true rfl) rfl ?_
    exact r_sub [3, 1, 0] rfl (t_X10_stuckInStatement_26 G l _ _ _ _ _ _ hf)
/-! ===== NumberedByAge.stuckAt(LNumberedByAge$Shelf;)I ===== -/
abbrev M_X10_stuckAt : Mx := (cX10_stuckAt, 4, RX10, (false, []), (some .int), 3, 66)
def f_X10_stuckAt_50 (h : Hp) (x0 : Option Nat) : Option Int32 :=
    (gI h x0 [5] 2).bind fun v51 =>
    if v51 = 0 then
      some (0 : Int32)
    else
      some (-1 : Int32)
set_option maxRecDepth 100000 in
set_option maxHeartbeats 4000000 in
theorem t_X10_stuckAt_50 (G : Gx) (l : Launch) (h : Hp)  (x0 : Option Nat) (r : Int32) (hf : f_X10_stuckAt_50 h x0 = some r) : RJ G l M_X10_stuckAt (some (vI r)) h 50 [(0, vR x0)] [] h := by
  unfold f_X10_stuckAt_50 at hf
  refine r_aload_n 0 dX10_stuckAt_50 rfl ?_
  obtain ⟨v51, e51, hf⟩ := ob hf
  refine r_getN dX10_stuckAt_51 fl_5_2 (by decide) (gI_sp e51) ?_
  refine r_if_ne (tgt := 61) dX10_stuckAt_54 (by decide) (fun c54 => ?_) (fun c54 => ?_)
  · replace hf := (if_pos c54).symm.trans hf
    refine r_iconst (x := (0 : Int32)) dX10_stuckAt_57 (by decide) ?_
    refine r_goto (tgt := 62) dX10_stuckAt_58 (by decide) ?_
    have hf := Option.some.inj hf
    subst hf
    exact r_iret rfl dX10_stuckAt_62
  · replace hf := (if_neg c54).symm.trans hf
    refine r_iconst (x := (-1 : Int32)) dX10_stuckAt_61 (by decide) ?_
    have hf := Option.some.inj hf
    subst hf
    exact r_iret rfl dX10_stuckAt_62
def f_X10_stuckAt_4 (h : Hp) : Nat → (Option Nat) → Int32 → Int32 → Option Int32
  | 0, _, _, _ => none
  | n + 1, x0, x1, x2 =>
    (gI h x0 [5] 2).bind fun v6 =>
    if v6 ≤ x2 then
      f_X10_stuckAt_50 h x0
    else
      (gI h x0 [5] 2).bind fun v14 =>
      if v14 ≤ x1 then
        f_X10_stuckAt_50 h x0
      else
        (f_X10_stuckInStatement h x0 x1).bind fun v22 =>
        if v22 = (-1 : Int32) then
          (rcv h x0 5).bind fun a36 =>
          (f_X5_at h a36 x1).bind fun v36 =>
          (f_X10_lengthOf h v36).bind fun v39 =>
          (f_X10_stuckAt_4 h n) x0 (x1 + v39) (x2 + 1)
        else
          some v22
set_option maxRecDepth 100000 in
set_option maxHeartbeats 4000000 in
theorem t_X10_stuckAt_4 (G : Gx) (l : Launch) (h : Hp)  : ∀ (n : Nat) (x0 : Option Nat) (x1 : Int32) (x2 : Int32) (r : Int32), f_X10_stuckAt_4 h n x0 x1 x2 = some r → RJ G l M_X10_stuckAt (some (vI r)) h 4 [(0, vR x0), (1, vI x1), (2, vI x2)] [] h := by
  intro n
  induction n with
  | zero =>
    intro x0 x1 x2 r hf
    rw [f_X10_stuckAt_4] at hf
    cases hf
  | succ n ih =>
    intro x0 x1 x2 r hf
    rw [f_X10_stuckAt_4] at hf
    refine r_iload_n 2 dX10_stuckAt_4 rfl ?_
    refine r_aload_n 0 dX10_stuckAt_5 rfl ?_
    obtain ⟨v6, e6, hf⟩ := ob hf
    refine r_getN dX10_stuckAt_6 fl_5_2 (by decide) (gI_sp e6) ?_
    refine r_icmp_ge (tgt := 50) dX10_stuckAt_9 (by decide) (fun c9 => ?_) (fun c9 => ?_)
    · replace hf := (if_pos c9).symm.trans hf
      exact r_sub [0] rfl (t_X10_stuckAt_50 G l _ _ _ hf)
    · replace hf := (if_neg c9).symm.trans hf
      refine r_iload_n 1 dX10_stuckAt_12 rfl ?_
      refine r_aload_n 0 dX10_stuckAt_13 rfl ?_
      obtain ⟨v14, e14, hf⟩ := ob hf
      refine r_getN dX10_stuckAt_14 fl_5_2 (by decide) (gI_sp e14) ?_
      refine r_icmp_ge (tgt := 50) dX10_stuckAt_17 (by decide) (fun c17 => ?_) (fun c17 => ?_)
      · replace hf := (if_pos c17).symm.trans hf
        exact r_sub [0] rfl (t_X10_stuckAt_50 G l _ _ _ hf)
      · replace hf := (if_neg c17).symm.trans hf
        refine r_aload_n 0 dX10_stuckAt_20 rfl ?_
        refine r_iload_n 1 dX10_stuckAt_21 rfl ?_
        obtain ⟨v22, e22, hf⟩ := ob hf
        refine r_callS (y := yX10_stuckInStatement) (avs := [vR x0, vI x1]) dX10_stuckAt_22 kw_1_156 kw_1_157 kw_1_1 kw_1_158 oky_X10_stuckInStatement ⟨Nat.le_of_ble_eq_true rfl, Nat.le_of_ble_eq_true rfl⟩ rfl (Nat.le_of_ble_eq_true rfl) (k_X10_stuckInStatement G l e22) ?_
        refine r_istore_n (lv' := [(3, vI v22), (0, vR x0), (1, vI x1), (2, vI x2)]) dX10_stuckAt_25 (Nat.le_of_ble_eq_true rfl) rfl ?_
        refine r_iload_n 0 dX10_stuckAt_26 rfl ?_
        refine r_iconst (x := (-1 : Int32)) dX10_stuckAt_27 (by decide) ?_
        refine r_icmp_eq (tgt := 33) dX10_stuckAt_28 (by decide) (fun c28 => ?_) (fun c28 => ?_)
        · replace hf := (if_pos c28).symm.trans hf
          refine r_iload_n 2 dX10_stuckAt_33 rfl ?_
          refine r_aload_n 1 dX10_stuckAt_34 rfl ?_
          refine r_iload_n 2 dX10_stuckAt_35 rfl ?_
          obtain ⟨a36, ea36, hf⟩ := ob hf
          obtain ⟨v36, e36, hf⟩ := ob hf
          refine r_callV (y := yX5_at) (ci := 5) (avs := [vI x1]) dX10_stuckAt_36 rfl kw_1_159 kw_1_160 kw_1_161 kw_1_4 kw_1_162 oky_X5_at ⟨Nat.le_of_ble_eq_true rfl, Nat.le_of_ble_eq_true rfl⟩ rfl (Nat.le_of_ble_eq_true rfl) ea36 (k_X5_at G l e36) ?_
          obtain ⟨v39, e39, hf⟩ := ob hf
          refine r_callS (y := yX10_lengthOf) (avs := [vI v36]) dX10_stuckAt_39 kw_1_170 kw_1_171 kw_1_1 kw_1_172 oky_X10_lengthOf ⟨Nat.le_of_ble_eq_true rfl, Nat.le_of_ble_eq_true rfl⟩ rfl (Nat.le_of_ble_eq_true rfl) (k_X10_lengthOf G l e39) ?_
          refine r_iadd dX10_stuckAt_42 ?_
          refine r_istore_n (lv' := [(1, vI (x1 + v39)), (3, vI v22), (0, vR x0), (2, vI x2)]) dX10_stuckAt_43 (Nat.le_of_ble_eq_true rfl) rfl ?_
          refine r_iinc (y := (x2 + 1)) (lv' := [(2, vI (x2 + 1)), (1, vI (x1 + v39)), (3, vI v22), (0, vR x0)]) 3 dX10_stuckAt_44 rfl rfl (Nat.le_of_ble_eq_true rfl) rfl ?_
          refine r_goto (tgt := 4) dX10_stuckAt_47 (by decide) ?_
          exact r_sub [3, 1, 0] rfl (ih _ _ _ _ hf)
        · replace hf := (if_neg c28).symm.trans hf
          refine r_iload_n 0 dX10_stuckAt_31 rfl ?_
          have hf := Option.some.inj hf
          subst hf
          exact r_iret rfl dX10_stuckAt_32
def f_X10_stuckAt (h : Hp) (x0 : Option Nat) : Option Int32 :=
    f_X10_stuckAt_4 h 10000 x0 (0 : Int32) (0 : Int32)
set_option maxRecDepth 100000 in
set_option maxHeartbeats 4000000 in
theorem k_X10_stuckAt (G : Gx) (l : Launch) {h : Hp} {x0 : Option Nat} {r : Int32} (hf : f_X10_stuckAt h x0 = some r) : KM l yX10_stuckAt (.code yX10_stuckAt cX10_stuckAt 4 (some .int) :: wsK) 3 66 G [vR x0] h (some (vI r)) h := by
  refine r_entry (ctor := false) (own := RX10) (by decide +kernel) rfl (fun q => by cases q) (Nat.le_of_ble_eq_true rfl) ?_
  show RJ G l M_X10_stuckAt (some (vI r)) h 0 [(0, vR x0)] [] h
  unfold f_X10_stuckAt at hf
  refine r_iconst (x := (0 : Int32)) dX10_stuckAt_0 (by decide) ?_
  refine r_istore_n (lv' := [(1, vI (0 : Int32)), (0, vR x0)]) dX10_stuckAt_1 (Nat.le_of_ble_eq_true rfl) rfl ?_
  refine r_iconst (x := (0 : Int32)) dX10_stuckAt_2 (by decide) ?_
  refine r_istore_n (lv' := [(2, vI (0 : Int32)), (1, vI (0 : Int32)), (0, vR x0)]) dX10_stuckAt_3 (Nat.le_of_ble_eq_true rfl) rfl ?_
  exact r_sub [2, 1, 0] rfl (t_X10_stuckAt_4 G l _ _ _ _ _ _ hf)
/-! ===== NumberedByAge.street(I)I ===== -/
abbrev M_X10_street : Mx := (cX10_street, 5, RX10, (false, []), (some .int), 7, 155)
def f_X10_street (h : Hp) (this : Nat) (x1 : Int32) : Option (Int32 × Hp) :=
    (rcv h (some this) 10).bind fun a2 =>
    (f_X10_shelfAt h a2 x1).bind fun v2 =>
    if v2 = none then
      some ((-1 : Int32), h)
    else
      (rcv h v2 5).bind fun a14 =>
      (f_X5_refusalAsRowOf h a14 (0 : Int32)).bind fun v14 =>
      if v14 = 0 then
        (f_X10_stuckAt h v2).bind fun v25 =>
        if v25 = (-1 : Int32) then
          (rcv h (some this) 10).bind fun a45 =>
          (f_X10_carryOut h a45 v2).bind fun q45 =>
          some (q45.1, q45.2)
        else
          some (((-1000 : Int32) - v25), h)
      else
        some (v14, h)
set_option maxRecDepth 100000 in
set_option maxHeartbeats 4000000 in
theorem k_X10_street (G : Gx) (l : Launch) {h : Hp} {this : Nat} {x1 : Int32} {r : (Int32 × Hp)} (hf : f_X10_street h this x1 = some r) : KM l yX10_street (.code yX10_street cX10_street 5 (some .int) :: wsK) 7 155 G [vR (some this), vI x1] h (some (vI r.1)) r.2 := by
  refine r_entry (ctor := false) (own := RX10) (by decide +kernel) rfl (fun q => by cases q) (Nat.le_of_ble_eq_true rfl) ?_
  show RJ G l M_X10_street (some (vI r.1)) r.2 0 [(0, vR (some this)), (1, vI x1)] [] h
  unfold f_X10_street at hf
  refine r_aload_n 0 dX10_street_0 rfl ?_
  refine r_iload_n 1 dX10_street_1 rfl ?_
  obtain ⟨a2, ea2, hf⟩ := ob hf
  obtain ⟨v2, e2, hf⟩ := ob hf
  refine r_callV (y := yX10_shelfAt) (ci := 10) (avs := [vI x1]) dX10_street_2 rfl kw_1_141 kw_1_143 kw_0_0 kw_1_1 kw_1_144 oky_X10_shelfAt ⟨Nat.le_of_ble_eq_true rfl, Nat.le_of_ble_eq_true rfl⟩ rfl (Nat.le_of_ble_eq_true rfl) ea2 (k_X10_shelfAt G l e2) ?_
  refine r_astore_n (lv' := [(2, vR v2), (0, vR (some this)), (1, vI x1)]) dX10_street_5 (Nat.le_of_ble_eq_true rfl) rfl ?_
  refine r_aload_n 0 dX10_street_6 rfl ?_
  refine r_ifnonnull (tgt := 12) dX10_street_7 (by decide) (fun c7 => ?_) (fun c7 => ?_)
  · replace hf := (if_pos c7).symm.trans hf
    refine r_iconst (x := (-1 : Int32)) dX10_street_10 (by decide) ?_
    have hf := Option.some.inj hf
    subst hf
    exact r_iret rfl dX10_street_11
  · replace hf := (if_neg c7).symm.trans hf
    refine r_aload_n 0 dX10_street_12 rfl ?_
    refine r_iconst (x := (0 : Int32)) dX10_street_13 (by decide) ?_
    obtain ⟨a14, ea14, hf⟩ := ob hf
    obtain ⟨v14, e14, hf⟩ := ob hf
    refine r_callV (y := yX5_refusalAsRowOf) (ci := 5) (avs := [vI (0 : Int32)]) dX10_street_14 rfl kw_1_145 kw_1_146 kw_1_147 kw_1_4 kw_1_148 oky_X5_refusalAsRowOf ⟨Nat.le_of_ble_eq_true rfl, Nat.le_of_ble_eq_true rfl⟩ rfl (Nat.le_of_ble_eq_true rfl) ea14 (k_X5_refusalAsRowOf G l e14) ?_
    refine r_istore_n (lv' := [(3, vI v14), (2, vR v2), (0, vR (some this)), (1, vI x1)]) dX10_street_17 (Nat.le_of_ble_eq_true rfl) rfl ?_
    refine r_iload_n 0 dX10_street_18 rfl ?_
    refine r_if_eq (tgt := 24) dX10_street_19 (by decide) (fun c19 => ?_) (fun c19 => ?_)
    · replace hf := (if_pos c19).symm.trans hf
      refine r_aload_n 1 dX10_street_24 rfl ?_
      obtain ⟨v25, e25, hf⟩ := ob hf
      refine r_callS (y := yX10_stuckAt) (avs := [vR v2]) dX10_street_25 kw_1_153 kw_1_154 kw_1_1 kw_1_155 oky_X10_stuckAt ⟨Nat.le_of_ble_eq_true rfl, Nat.le_of_ble_eq_true rfl⟩ rfl (Nat.le_of_ble_eq_true rfl) (k_X10_stuckAt G l e25) ?_
      refine r_istore (lv' := [(4, vI v25), (3, vI v14), (2, vR v2), (0, vR (some this)), (1, vI x1)]) dX10_street_28 (Nat.le_of_ble_eq_true rfl) rfl ?_
      refine r_iload 0 dX10_street_30 rfl ?_
      refine r_iconst (x := (-1 : Int32)) dX10_street_32 (by decide) ?_
      refine r_icmp_eq (tgt := 43) dX10_street_33 (by decide) (fun c33 => ?_) (fun c33 => ?_)
      · replace hf := (if_pos c33).symm.trans hf
        refine r_aload_n 3 dX10_street_43 rfl ?_
        refine r_aload_n 2 dX10_street_44 rfl ?_
        obtain ⟨a45, ea45, hf⟩ := ob hf
        obtain ⟨q45, e45, hf⟩ := ob hf
        refine r_callV (y := yX10_carryOut) (ci := 10) (avs := [vR v2]) dX10_street_45 rfl kw_1_173 kw_1_175 kw_0_1 kw_1_1 kw_1_176 oky_X10_carryOut ⟨Nat.le_of_ble_eq_true rfl, Nat.le_of_ble_eq_true rfl⟩ rfl (Nat.le_of_ble_eq_true rfl) ea45 (k_X10_carryOut G l e45) ?_
        have hf := Option.some.inj hf
        subst hf
        exact r_iret rfl dX10_street_48
      · replace hf := (if_neg c33).symm.trans hf
        refine r_sipush (x := (-1000 : Int32)) dX10_street_36 (by decide) ?_
        refine r_iload 0 dX10_street_39 rfl ?_
        refine r_isub dX10_street_41 ?_
        have hf := Option.some.inj hf
        subst hf
        exact r_iret rfl dX10_street_42
    · replace hf := (if_neg c19).symm.trans hf
      refine r_iload_n 0 dX10_street_22 rfl ?_
      have hf := Option.some.inj hf
      subst hf
      exact r_iret rfl dX10_street_23
/-! ===== NumberedByAge.tax(I)I ===== -/
abbrev M_X10_tax : Mx := (cX10_tax, 4, RX10, (false, []), (some .int), 3, 60)
def f_X10_tax (h : Hp) (this : Nat) (x1 : Int32) : Option Int32 :=
    (rcv h (some this) 10).bind fun a2 =>
    (f_X10_shelfAt h a2 x1).bind fun v2 =>
    if v2 = none then
      some (-1 : Int32)
    else
      (gR h v2 [5] 0).bind fun v13 =>
      if v13 = none then
        (rcv h v2 5).bind fun a22 =>
        (f_X5_refusalAsLaw h a22).bind fun v22 =>
        some v22
      else
        (f_V_levy h v13 ).bind fun v29 =>
        some v29
set_option maxRecDepth 100000 in
set_option maxHeartbeats 4000000 in
theorem k_X10_tax (G : Gx) (l : Launch) {h : Hp} {this : Nat} {x1 : Int32} {r : Int32} (hf : f_X10_tax h this x1 = some r) : KM l yX10_tax (.code yX10_tax cX10_tax 4 (some .int) :: wsK) 3 60 G [vR (some this), vI x1] h (some (vI r)) h := by
  refine r_entry (ctor := false) (own := RX10) (by decide +kernel) rfl (fun q => by cases q) (Nat.le_of_ble_eq_true rfl) ?_
  show RJ G l M_X10_tax (some (vI r)) h 0 [(0, vR (some this)), (1, vI x1)] [] h
  unfold f_X10_tax at hf
  refine r_aload_n 0 dX10_tax_0 rfl ?_
  refine r_iload_n 1 dX10_tax_1 rfl ?_
  obtain ⟨a2, ea2, hf⟩ := ob hf
  obtain ⟨v2, e2, hf⟩ := ob hf
  refine r_callV (y := yX10_shelfAt) (ci := 10) (avs := [vI x1]) dX10_tax_2 rfl kw_1_141 kw_1_143 kw_0_0 kw_1_1 kw_1_144 oky_X10_shelfAt ⟨Nat.le_of_ble_eq_true rfl, Nat.le_of_ble_eq_true rfl⟩ rfl (Nat.le_of_ble_eq_true rfl) ea2 (k_X10_shelfAt G l e2) ?_
  refine r_astore_n (lv' := [(2, vR v2), (0, vR (some this)), (1, vI x1)]) dX10_tax_5 (Nat.le_of_ble_eq_true rfl) rfl ?_
  refine r_aload_n 0 dX10_tax_6 rfl ?_
  refine r_ifnonnull (tgt := 12) dX10_tax_7 (by decide) (fun c7 => ?_) (fun c7 => ?_)
  · replace hf := (if_pos c7).symm.trans hf
    refine r_iconst (x := (-1 : Int32)) dX10_tax_10 (by decide) ?_
    have hf := Option.some.inj hf
    subst hf
    exact r_iret rfl dX10_tax_11
  · replace hf := (if_neg c7).symm.trans hf
    refine r_aload_n 0 dX10_tax_12 rfl ?_
    obtain ⟨v13, e13, hf⟩ := ob hf
    refine r_getN dX10_tax_13 fl_5_0 (by decide) (gR_sp e13) ?_
    refine r_astore_n (lv' := [(3, vR v13), (2, vR v2), (0, vR (some this)), (1, vI x1)]) dX10_tax_16 (Nat.le_of_ble_eq_true rfl) rfl ?_
    refine r_aload_n 0 dX10_tax_17 rfl ?_
    refine r_ifnonnull (tgt := 28) dX10_tax_18 (by decide) (fun c18 => ?_) (fun c18 => ?_)
    · replace hf := (if_pos c18).symm.trans hf
      refine r_aload_n 1 dX10_tax_21 rfl ?_
      obtain ⟨a22, ea22, hf⟩ := ob hf
      obtain ⟨v22, e22, hf⟩ := ob hf
      refine r_callV (y := yX5_refusalAsLaw) (ci := 5) (avs := []) dX10_tax_22 rfl kw_2_100 kw_2_101 kw_2_102 kw_1_4 kw_2_103 oky_X5_refusalAsLaw ⟨Nat.le_of_ble_eq_true rfl, Nat.le_of_ble_eq_true rfl⟩ rfl (Nat.le_of_ble_eq_true rfl) ea22 (k_X5_refusalAsLaw G l e22) ?_
      refine r_goto (tgt := 32) dX10_tax_25 (by decide) ?_
      have hf := Option.some.inj hf
      subst hf
      exact r_iret rfl dX10_tax_32
    · replace hf := (if_neg c18).symm.trans hf
      refine r_aload_n 0 dX10_tax_28 rfl ?_
      obtain ⟨v29, e29, hf⟩ := ob hf
      refine rv_levy dX10_tax_29 kw_3_118 ⟨Nat.le_of_ble_eq_true rfl, Nat.le_of_ble_eq_true rfl⟩ rfl (Nat.le_of_ble_eq_true rfl) e29 ?_
      have hf := Option.some.inj hf
      subst hf
      exact r_iret rfl dX10_tax_32
/-! ===== NumberedByAge.toss(I)I ===== -/
abbrev M_X10_toss : Mx := (cX10_toss, 4, RX10, (false, []), (some .int), 13, 351)
def f_X10_toss (h : Hp) (this : Nat) (x1 : Int32) : Option (Int32 × Hp) :=
    (rcv h (some this) 10).bind fun a2 =>
    (f_X10_shelfAt h a2 x1).bind fun v2 =>
    if v2 = none then
      some ((-1 : Int32), h)
    else
      (gR h v2 [5] 0).bind fun v13 =>
      if v13 = none then
        (rcv h v2 5).bind fun a22 =>
        (f_X5_refusalAsLaw h a22).bind fun v22 =>
        some (v22, h)
      else
        (f_X10_caughtFailure h v13).bind fun q29 =>
        some (q29.1, q29.2)
set_option maxRecDepth 100000 in
set_option maxHeartbeats 4000000 in
theorem k_X10_toss (G : Gx) (l : Launch) (hfl : l.stackTraces = false) {h : Hp} {this : Nat} {x1 : Int32} {r : (Int32 × Hp)} (hf : f_X10_toss h this x1 = some r) : KM l yX10_toss (.code yX10_toss cX10_toss 4 (some .int) :: wsK) 13 351 G [vR (some this), vI x1] h (some (vI r.1)) r.2 := by
  refine r_entry (ctor := false) (own := RX10) (by decide +kernel) rfl (fun q => by cases q) (Nat.le_of_ble_eq_true rfl) ?_
  show RJ G l M_X10_toss (some (vI r.1)) r.2 0 [(0, vR (some this)), (1, vI x1)] [] h
  unfold f_X10_toss at hf
  refine r_aload_n 0 dX10_toss_0 rfl ?_
  refine r_iload_n 1 dX10_toss_1 rfl ?_
  obtain ⟨a2, ea2, hf⟩ := ob hf
  obtain ⟨v2, e2, hf⟩ := ob hf
  refine r_callV (y := yX10_shelfAt) (ci := 10) (avs := [vI x1]) dX10_toss_2 rfl kw_1_141 kw_1_143 kw_0_0 kw_1_1 kw_1_144 oky_X10_shelfAt ⟨Nat.le_of_ble_eq_true rfl, Nat.le_of_ble_eq_true rfl⟩ rfl (Nat.le_of_ble_eq_true rfl) ea2 (k_X10_shelfAt G l e2) ?_
  refine r_astore_n (lv' := [(2, vR v2), (0, vR (some this)), (1, vI x1)]) dX10_toss_5 (Nat.le_of_ble_eq_true rfl) rfl ?_
  refine r_aload_n 0 dX10_toss_6 rfl ?_
  refine r_ifnonnull (tgt := 12) dX10_toss_7 (by decide) (fun c7 => ?_) (fun c7 => ?_)
  · replace hf := (if_pos c7).symm.trans hf
    refine r_iconst (x := (-1 : Int32)) dX10_toss_10 (by decide) ?_
    have hf := Option.some.inj hf
    subst hf
    exact r_iret rfl dX10_toss_11
  · replace hf := (if_neg c7).symm.trans hf
    refine r_aload_n 0 dX10_toss_12 rfl ?_
    obtain ⟨v13, e13, hf⟩ := ob hf
    refine r_getN dX10_toss_13 fl_5_0 (by decide) (gR_sp e13) ?_
    refine r_astore_n (lv' := [(3, vR v13), (2, vR v2), (0, vR (some this)), (1, vI x1)]) dX10_toss_16 (Nat.le_of_ble_eq_true rfl) rfl ?_
    refine r_aload_n 0 dX10_toss_17 rfl ?_
    refine r_ifnonnull (tgt := 28) dX10_toss_18 (by decide) (fun c18 => ?_) (fun c18 => ?_)
    · replace hf := (if_pos c18).symm.trans hf
      refine r_aload_n 1 dX10_toss_21 rfl ?_
      obtain ⟨a22, ea22, hf⟩ := ob hf
      obtain ⟨v22, e22, hf⟩ := ob hf
      refine r_callV (y := yX5_refusalAsLaw) (ci := 5) (avs := []) dX10_toss_22 rfl kw_2_100 kw_2_101 kw_2_102 kw_1_4 kw_2_103 oky_X5_refusalAsLaw ⟨Nat.le_of_ble_eq_true rfl, Nat.le_of_ble_eq_true rfl⟩ rfl (Nat.le_of_ble_eq_true rfl) ea22 (k_X5_refusalAsLaw G l e22) ?_
      refine r_goto (tgt := 32) dX10_toss_25 (by decide) ?_
      have hf := Option.some.inj hf
      subst hf
      exact r_iret rfl dX10_toss_32
    · replace hf := (if_neg c18).symm.trans hf
      refine r_aload_n 0 dX10_toss_28 rfl ?_
      obtain ⟨q29, e29, hf⟩ := ob hf
      refine r_callSW (y := yX10_caughtFailure) (avs := [vR v13]) dX10_toss_29 kw_3_152 kw_3_153 kw_1_1 kw_3_154 oky_X10_caughtFailure ⟨Nat.le_of_ble_eq_true rfl, Nat.le_of_ble_eq_true rfl⟩ rfl (Nat.le_of_ble_eq_true rfl) (k_X10_caughtFailure G l hfl e29) ?_
      have hf := Option.some.inj hf
      subst hf
      exact r_iret rfl dX10_toss_32
/-! ===== NumberedByAge.walk(II)I ===== -/
abbrev M_X10_walk : Mx := (cX10_walk, 3, RX10, (false, []), (some .int), 5, 116)
def f_X10_walk (h : Hp) (this : Nat) (x1 : Int32) (x2 : Int32) : Option Int32 :=
    (rcv h (some this) 10).bind fun a4 =>
    (f_X10_wayBy h a4 x1 x2 (1 : Int32)).bind fun v4 =>
    some v4
set_option maxRecDepth 100000 in
set_option maxHeartbeats 4000000 in
theorem k_X10_walk (G : Gx) (l : Launch) {h : Hp} {this : Nat} {x1 : Int32} {x2 : Int32} {r : Int32} (hf : f_X10_walk h this x1 x2 = some r) : KM l yX10_walk (.code yX10_walk cX10_walk 3 (some .int) :: wsK) 5 116 G [vR (some this), vI x1, vI x2] h (some (vI r)) h := by
  refine r_entry (ctor := false) (own := RX10) (by decide +kernel) rfl (fun q => by cases q) (Nat.le_of_ble_eq_true rfl) ?_
  show RJ G l M_X10_walk (some (vI r)) h 0 [(0, vR (some this)), (1, vI x1), (2, vI x2)] [] h
  unfold f_X10_walk at hf
  refine r_aload_n 0 dX10_walk_0 rfl ?_
  refine r_iload_n 1 dX10_walk_1 rfl ?_
  refine r_iload_n 2 dX10_walk_2 rfl ?_
  refine r_iconst (x := (1 : Int32)) dX10_walk_3 (by decide) ?_
  obtain ⟨a4, ea4, hf⟩ := ob hf
  obtain ⟨v4, e4, hf⟩ := ob hf
  refine r_callV (y := yX10_wayBy) (ci := 10) (avs := [vI x1, vI x2, vI (1 : Int32)]) dX10_walk_4 rfl kw_2_160 kw_2_162 kw_0_4 kw_1_1 kw_2_163 oky_X10_wayBy ⟨Nat.le_of_ble_eq_true rfl, Nat.le_of_ble_eq_true rfl⟩ rfl (Nat.le_of_ble_eq_true rfl) ea4 (k_X10_wayBy G l e4) ?_
  have hf := Option.some.inj hf
  subst hf
  exact r_iret rfl dX10_walk_7
/-! ===== NumberedByAge.where(II)I ===== -/
abbrev M_X10_where : Mx := (cX10_where, 5, RX10, (false, []), (some .int), 3, 69)
def f_X10_where_66 (h : Hp) (this : Nat) (k19 : Int32 → Int32 → Int32 → Int32 → Option Int32) (x1 : Int32) (x2 : Int32) (x3 : Int32) (x4 : Int32) : Option Int32 :=
    k19 x1 x2 x3 (x4 + 1)
set_option maxRecDepth 100000 in
set_option maxHeartbeats 4000000 in
theorem t_X10_where_66 (G : Gx) (l : Launch) (h : Hp) (this : Nat) (k19 : Int32 → Int32 → Int32 → Int32 → Option Int32) (hk19 : ∀ (x1 : Int32) (x2 : Int32) (x3 : Int32) (x4 : Int32) (r : Int32), k19 x1 x2 x3 x4 = some r → RJ G l M_X10_where (some (vI r)) h 19 [(0, vR (some this)), (1, vI x1), (2, vI x2), (3, vI x3), (4, vI x4)] [] h) (x1 : Int32) (x2 : Int32) (x3 : Int32) (x4 : Int32) (r : Int32) (hf : f_X10_where_66 h this k19 x1 x2 x3 x4 = some r) : RJ G l M_X10_where (some (vI r)) h 66 [(0, vR (some this)), (1, vI x1), (2, vI x2), (3, vI x3), (4, vI x4)] [] h := by
  unfold f_X10_where_66 at hf
  refine r_iinc (y := (x4 + 1)) (lv' := [(4, vI (x4 + 1)), (0, vR (some this)), (1, vI x1), (2, vI x2), (3, vI x3)]) 4 dX10_where_66 rfl rfl (Nat.le_of_ble_eq_true rfl) rfl ?_
  refine r_goto (tgt := 19) dX10_where_69 (by decide) ?_
  exact r_sub [1, 2, 3, 4, 0] rfl (hk19 _ _ _ _ _ hf)
def f_X10_where_19 (h : Hp) (this : Nat) : Nat → Int32 → Int32 → Int32 → Int32 → Option Int32
  | 0, _, _, _, _ => none
  | n + 1, x1, x2, x3, x4 =>
    if (12 : Int32) ≤ x4 then
      some x3
    else
      (gR h (some this) [10] 0).bind fun v27 =>
      (rcv h v27 8).bind fun a32 =>
      (f_X8_hasHouse h a32 x4).bind fun v32 =>
      if v32 = 0 then
        (gR h (some this) [10] 0).bind fun v39 =>
        (gR h v39 [8] 9).bind fun v42 =>
        (gR h (some this) [10] 0).bind fun v46 =>
        (f_V_numberFor h v42 v46 x4 x2).bind fun v52 =>
        if v52 = x1 then
          f_X10_where_66 h this (f_X10_where_19 h this n) x1 x2 (x3 ||| ((1 : Int32) <<< (x4 &&& 31))) x4
        else
          f_X10_where_66 h this (f_X10_where_19 h this n) x1 x2 x3 x4
      else
        f_X10_where_66 h this (f_X10_where_19 h this n) x1 x2 x3 x4
set_option maxRecDepth 100000 in
set_option maxHeartbeats 4000000 in
theorem t_X10_where_19 (G : Gx) (l : Launch) (h : Hp) (this : Nat)  : ∀ (n : Nat) (x1 : Int32) (x2 : Int32) (x3 : Int32) (x4 : Int32) (r : Int32), f_X10_where_19 h this n x1 x2 x3 x4 = some r → RJ G l M_X10_where (some (vI r)) h 19 [(0, vR (some this)), (1, vI x1), (2, vI x2), (3, vI x3), (4, vI x4)] [] h := by
  intro n
  induction n with
  | zero =>
    intro x1 x2 x3 x4 r hf
    rw [f_X10_where_19] at hf
    cases hf
  | succ n ih =>
    intro x1 x2 x3 x4 r hf
    rw [f_X10_where_19] at hf
    refine r_iload 4 dX10_where_19 rfl ?_
    refine r_bipush (x := (12 : Int32)) dX10_where_21 (by decide) ?_
    refine r_icmp_ge (tgt := 72) dX10_where_23 (by decide) (fun c23 => ?_) (fun c23 => ?_)
    · replace hf := (if_pos c23).symm.trans hf
      refine r_iload_n 3 dX10_where_72 rfl ?_
      have hf := Option.some.inj hf
      subst hf
      exact r_iret rfl dX10_where_73
    · replace hf := (if_neg c23).symm.trans hf
      refine r_aload_n 0 dX10_where_26 rfl ?_
      obtain ⟨v27, e27, hf⟩ := ob hf
      refine r_get dX10_where_27 fl_10_0 kw_1_121 (Or.inl rfl) (gR_sp e27) ?_
      refine r_iload 4 dX10_where_30 rfl ?_
      obtain ⟨a32, ea32, hf⟩ := ob hf
      obtain ⟨v32, e32, hf⟩ := ob hf
      refine r_callV (y := yX8_hasHouse) (ci := 8) (avs := [vI x4]) dX10_where_32 rfl kw_2_109 kw_1_199 kw_1_200 kw_1_2 kw_1_201 oky_X8_hasHouse ⟨Nat.le_of_ble_eq_true rfl, Nat.le_of_ble_eq_true rfl⟩ rfl (Nat.le_of_ble_eq_true rfl) ea32 (k_X8_hasHouse G l e32) ?_
      refine r_if_ne (tgt := 66) dX10_where_35 (by decide) (fun c35 => ?_) (fun c35 => ?_)
      · replace hf := (if_pos c35).symm.trans hf
        refine r_aload_n 0 dX10_where_38 rfl ?_
        obtain ⟨v39, e39, hf⟩ := ob hf
        refine r_get dX10_where_39 fl_10_0 kw_1_121 (Or.inl rfl) (gR_sp e39) ?_
        obtain ⟨v42, e42, hf⟩ := ob hf
        refine r_getN dX10_where_42 fl_8_9 (by decide) (gR_sp e42) ?_
        refine r_aload_n 0 dX10_where_45 rfl ?_
        obtain ⟨v46, e46, hf⟩ := ob hf
        refine r_get dX10_where_46 fl_10_0 kw_1_121 (Or.inl rfl) (gR_sp e46) ?_
        refine r_iload 4 dX10_where_49 rfl ?_
        refine r_iload_n 2 dX10_where_51 rfl ?_
        obtain ⟨v52, e52, hf⟩ := ob hf
        refine rv_numberFor dX10_where_52 kw_2_132 ⟨Nat.le_of_ble_eq_true rfl, Nat.le_of_ble_eq_true rfl⟩ rfl (Nat.le_of_ble_eq_true rfl) e52 ?_
        refine r_iload_n 1 dX10_where_55 rfl ?_
        refine r_icmp_ne (tgt := 66) dX10_where_56 (by decide) (fun c56 => ?_) (fun c56 => ?_)
        · replace hf := (if_pos c56).symm.trans hf
          refine r_iload_n 3 dX10_where_59 rfl ?_
          refine r_iconst (x := (1 : Int32)) dX10_where_60 (by decide) ?_
          refine r_iload 4 dX10_where_61 rfl ?_
          refine r_ishl dX10_where_63 ?_
          refine r_ior dX10_where_64 ?_
          refine r_istore_n (lv' := [(3, vI (x3 ||| ((1 : Int32) <<< (x4 &&& 31)))), (0, vR (some this)), (1, vI x1), (2, vI x2), (4, vI x4)]) dX10_where_65 (Nat.le_of_ble_eq_true rfl) rfl ?_
          exact r_sub [1, 2, 3, 0, 4] rfl (t_X10_where_66 G l _ _ (f_X10_where_19 h this n) ih _ _ _ _ _ hf)
        · replace hf := (if_neg c56).symm.trans hf
          exact r_sub [0, 1, 2, 3, 4] rfl (t_X10_where_66 G l _ _ (f_X10_where_19 h this n) ih _ _ _ _ _ hf)
      · replace hf := (if_neg c35).symm.trans hf
        exact r_sub [0, 1, 2, 3, 4] rfl (t_X10_where_66 G l _ _ (f_X10_where_19 h this n) ih _ _ _ _ _ hf)
def f_X10_where (h : Hp) (this : Nat) (x1 : Int32) (x2 : Int32) : Option Int32 :=
    if x1 < (1 : Int32) then
      some (-1 : Int32)
    else
      (f_X10_isHeight h x2).bind fun v6 =>
      if v6 = 0 then
        some (-1 : Int32)
      else
        f_X10_where_19 h this 10000 x1 x2 (0 : Int32) (0 : Int32)
set_option maxRecDepth 100000 in
set_option maxHeartbeats 4000000 in
theorem k_X10_where (G : Gx) (l : Launch) {h : Hp} {this : Nat} {x1 : Int32} {x2 : Int32} {r : Int32} (hf : f_X10_where h this x1 x2 = some r) : KM l yX10_where (.code yX10_where cX10_where 5 (some .int) :: wsK) 3 69 G [vR (some this), vI x1, vI x2] h (some (vI r)) h := by
  refine r_entry (ctor := false) (own := RX10) (by decide +kernel) rfl (fun q => by cases q) (Nat.le_of_ble_eq_true rfl) ?_
  show RJ G l M_X10_where (some (vI r)) h 0 [(0, vR (some this)), (1, vI x1), (2, vI x2)] [] h
  unfold f_X10_where at hf
  refine r_iload_n 1 dX10_where_0 rfl ?_
  refine r_iconst (x := (1 : Int32)) dX10_where_1 (by decide) ?_
  refine r_icmp_lt (tgt := 12) dX10_where_2 (by decide) (fun c2 => ?_) (fun c2 => ?_)
  · replace hf := (if_pos c2).symm.trans hf
    refine r_iconst (x := (-1 : Int32)) dX10_where_12 (by decide) ?_
    have hf := Option.some.inj hf
    subst hf
    exact r_iret rfl dX10_where_13
  · replace hf := (if_neg c2).symm.trans hf
    refine r_iload_n 2 dX10_where_5 rfl ?_
    obtain ⟨v6, e6, hf⟩ := ob hf
    refine r_callS (y := yX10_isHeight) (avs := [vI x2]) dX10_where_6 kw_2_131 kw_1_196 kw_1_1 kw_1_197 oky_X10_isHeight ⟨Nat.le_of_ble_eq_true rfl, Nat.le_of_ble_eq_true rfl⟩ rfl (Nat.le_of_ble_eq_true rfl) (k_X10_isHeight G l e6) ?_
    refine r_if_ne (tgt := 14) dX10_where_9 (by decide) (fun c9 => ?_) (fun c9 => ?_)
    · replace hf := (if_pos c9).symm.trans hf
      refine r_iconst (x := (-1 : Int32)) dX10_where_12 (by decide) ?_
      have hf := Option.some.inj hf
      subst hf
      exact r_iret rfl dX10_where_13
    · replace hf := (if_neg c9).symm.trans hf
      refine r_iconst (x := (0 : Int32)) dX10_where_14 (by decide) ?_
      refine r_istore_n (lv' := [(3, vI (0 : Int32)), (0, vR (some this)), (1, vI x1), (2, vI x2)]) dX10_where_15 (Nat.le_of_ble_eq_true rfl) rfl ?_
      refine r_iconst (x := (0 : Int32)) dX10_where_16 (by decide) ?_
      refine r_istore (lv' := [(4, vI (0 : Int32)), (3, vI (0 : Int32)), (0, vR (some this)), (1, vI x1), (2, vI x2)]) dX10_where_17 (Nat.le_of_ble_eq_true rfl) rfl ?_
      exact r_sub [2, 3, 4, 1, 0] rfl (t_X10_where_19 G l _ _ _ _ _ _ _ _ hf)
