theorem vxl_RX3_25 : ∀ w ∈ (vx_atS RX3 25 xISE x_names).filter goodWord, w ∈ lw_tbl := by decide +kernel
theorem vxg_RX3_25 : ∀ w ∈ (vx_atS RX3 25 xISE x_names).filter goodWord, w ∈ wsK := fun w h => List.mem_filter.mpr ⟨vxl_RX3_25 w h, (List.mem_filter.mp h).2⟩
theorem vxb_RX3_25 : ∀ w ∈ (vx_atS RX3 25 xISE x_names).filter (fun w => !goodWord w), w ∈ xcd := by decide +kernel
theorem vxh_RX3_25 : ∀ w ∈ Cond.classLink RX3 21 xISE :: Cond.initialized xISE :: vx_atS RX3 25 xISE x_names, vx_ot w = true := by decide +kernel
theorem vxl_RX2_30 : ∀ w ∈ (vx_atS RX2 30 xUOE x_names).filter goodWord, w ∈ lw_tbl := by decide +kernel
theorem vxg_RX2_30 : ∀ w ∈ (vx_atS RX2 30 xUOE x_names).filter goodWord, w ∈ wsK := fun w h => List.mem_filter.mpr ⟨vxl_RX2_30 w h, (List.mem_filter.mp h).2⟩
theorem vxb_RX2_30 : ∀ w ∈ (vx_atS RX2 30 xUOE x_names).filter (fun w => !goodWord w), w ∈ xcd := by decide +kernel
theorem vxh_RX2_30 : ∀ w ∈ Cond.classLink RX2 26 xUOE :: Cond.initialized xUOE :: vx_atS RX2 30 xUOE x_names, vx_ot w = true := by decide +kernel
theorem vxl_RX6_25 : ∀ w ∈ (vx_atS RX6 25 xIAE x_names).filter goodWord, w ∈ lw_tbl := by decide +kernel
theorem vxg_RX6_25 : ∀ w ∈ (vx_atS RX6 25 xIAE x_names).filter goodWord, w ∈ wsK := fun w h => List.mem_filter.mpr ⟨vxl_RX6_25 w h, (List.mem_filter.mp h).2⟩
theorem vxb_RX6_25 : ∀ w ∈ (vx_atS RX6 25 xIAE x_names).filter (fun w => !goodWord w), w ∈ xcd := by decide +kernel
theorem vxh_RX6_25 : ∀ w ∈ Cond.classLink RX6 21 xIAE :: Cond.initialized xIAE :: vx_atS RX6 25 xIAE x_names, vx_ot w = true := by decide +kernel
theorem vxl_RX10_205 : ∀ w ∈ (vx_atS RX10 205 xIAE x_names).filter goodWord, w ∈ lw_tbl := by decide +kernel
theorem vxg_RX10_205 : ∀ w ∈ (vx_atS RX10 205 xIAE x_names).filter goodWord, w ∈ wsK := fun w h => List.mem_filter.mpr ⟨vxl_RX10_205 w h, (List.mem_filter.mp h).2⟩
theorem vxb_RX10_205 : ∀ w ∈ (vx_atS RX10 205 xIAE x_names).filter (fun w => !goodWord w), w ∈ xcd := by decide +kernel
theorem vxh_RX10_205 : ∀ w ∈ Cond.classLink RX10 201 xIAE :: Cond.initialized xIAE :: vx_atS RX10 205 xIAE x_names, vx_ot w = true := by decide +kernel
theorem vxl_RX10_216 : ∀ w ∈ (vx_atS RX10 216 xISE x_names).filter goodWord, w ∈ lw_tbl := by decide +kernel
theorem vxg_RX10_216 : ∀ w ∈ (vx_atS RX10 216 xISE x_names).filter goodWord, w ∈ wsK := fun w h => List.mem_filter.mpr ⟨vxl_RX10_216 w h, (List.mem_filter.mp h).2⟩
theorem vxb_RX10_216 : ∀ w ∈ (vx_atS RX10 216 xISE x_names).filter (fun w => !goodWord w), w ∈ xcd := by decide +kernel
theorem vxh_RX10_216 : ∀ w ∈ Cond.classLink RX10 212 xISE :: Cond.initialized xISE :: vx_atS RX10 216 xISE x_names, vx_ot w = true := by decide +kernel
/-! ===== NumberedByAge$Law.fail()V ===== -/
abbrev M_X3_fail : Mx := (cX3_fail, 1, RX3, (false, []), none, 6, 100)
def f_X3_fail (h : Hp) (this : Nat) : Option Unit :=
    (gI h (some this) lws 1).bind fun v1 =>
    if v1 = 0 then
      some ()
    else
      none
set_option maxRecDepth 100000 in
set_option maxHeartbeats 4000000 in
theorem k_X3_fail (G : Gx) (l : Launch) {h : Hp} {this : Nat} {r : Unit} (hf : f_X3_fail h this = some r) : KM l yX3_fail (.code yX3_fail cX3_fail 1 none :: wsK) 6 100 G [vR (some this)] h none h := by
  refine r_entry (ctor := false) (own := RX3) (by decide +kernel) rfl (fun q => by cases q) (Nat.le_of_ble_eq_true rfl) ?_
  show RJ G l M_X3_fail none h 0 [(0, vR (some this))] [] h
  unfold f_X3_fail at hf
  refine r_aload_n 0 dX3_fail_0 rfl ?_
  obtain ⟨v1, e1, hf⟩ := ob hf
  refine r_get dX3_fail_1 fl_L_1 kw_1_44 (Or.inl rfl) (gI_sp e1) ?_
  refine r_if_eq (tgt := 17) dX3_fail_4 (by decide) (fun c4 => ?_) (fun c4 => ?_)
  · replace hf := (if_pos c4).symm.trans hf
    have hf := Option.some.inj hf
    subst hf
    exact r_vret rfl dX3_fail_17
  · replace hf := (if_neg c4).symm.trans hf
    cases hf
/-! ===== NumberedByAge$Law.fail()V ===== -/
abbrev M_X3_fail_T : Mx := (cX3_fail, 1, RX3, (false, []), none, 6, 100)
def f_X3_fail_T (h : Hp) (this : Nat) : Option (String × Hp) :=
    (gI h (some this) lws 1).bind fun v1 =>
    if v1 = 0 then
      none
    else
      some (xISE, h ++ [eJ 6])
set_option maxRecDepth 100000 in
set_option maxHeartbeats 4000000 in
theorem k_X3_fail_T (G : Gx) (l : Launch) (hfl : l.stackTraces = false) {h : Hp} {this : Nat} {r : (String × Hp)} (hf : f_X3_fail_T h this = some r) : KT l yX3_fail (.code yX3_fail cX3_fail 1 none :: wsK) 6 100 G [vR (some this)] h r.1 r.2 := by
  refine r_entryT (own := RX3) (by decide +kernel) rfl (Nat.le_of_ble_eq_true rfl) ?_
  show RQ G l M_X3_fail_T (qT G r.1 r.2) r.2 0 [(0, vR (some this))] [] h
  unfold f_X3_fail_T at hf
  refine r_aload_n 0 dX3_fail_0 rfl ?_
  obtain ⟨v1, e1, hf⟩ := ob hf
  refine r_get dX3_fail_1 fl_L_1 kw_1_44 (Or.inl rfl) (gI_sp e1) ?_
  refine r_if_eq (tgt := 17) dX3_fail_4 (by decide) (fun c4 => ?_) (fun c4 => ?_)
  · replace hf := (if_pos c4).symm.trans hf
    cases hf
  · replace hf := (if_neg c4).symm.trans hf
    have hf := Option.some.inj hf
    subst hf
    exact r_throw (E := xISE) (text := "a LAW failed") hfl dX3_fail_7 dX3_fail_10 dX3_fail_11 dX3_fail_13 dX3_fail_16 (by decide +kernel) (by decide +kernel) kw_4_20 kw_1_20 (by decide +kernel) vxg_RX3_25 vxb_RX3_25 vxh_RX3_25 rfl ⟨Nat.le_of_ble_eq_true rfl, Nat.le_of_ble_eq_true rfl⟩ (Nat.le_of_ble_eq_true rfl)
theorem ft_X3_fail {h : Hp} {a : Nat} {t : String × Hp} (e : f_X3_fail_T h a = some t) : t = (xISE, h ++ [eJ 6]) := by
  unfold f_X3_fail_T at e
  obtain ⟨v1, e1, e⟩ := ob e
  split at e
  · cases e
  · exact (Option.some.inj e).symm
/-! ===== NumberedByAge$Last.fail()V ===== -/
abbrev M_X2_fail : Mx := (cX2_fail, 1, RX2, (false, []), none, 6, 100)
def f_X2_fail (h : Hp) (this : Nat) : Option Unit :=
    (gI h (some this) lws 1).bind fun v1 =>
    if v1 = 0 then
      some ()
    else
      none
set_option maxRecDepth 100000 in
set_option maxHeartbeats 4000000 in
theorem k_X2_fail (G : Gx) (l : Launch) {h : Hp} {this : Nat} {r : Unit} (hf : f_X2_fail h this = some r) : KM l yX2_fail (.code yX2_fail cX2_fail 1 none :: wsK) 6 100 G [vR (some this)] h none h := by
  refine r_entry (ctor := false) (own := RX2) (by decide +kernel) rfl (fun q => by cases q) (Nat.le_of_ble_eq_true rfl) ?_
  show RJ G l M_X2_fail none h 0 [(0, vR (some this))] [] h
  unfold f_X2_fail at hf
  refine r_aload_n 0 dX2_fail_0 rfl ?_
  obtain ⟨v1, e1, hf⟩ := ob hf
  refine r_get dX2_fail_1 fl_L_1 kw_1_49 (Or.inr kw_1_50) (gI_sp e1) ?_
  refine r_if_eq (tgt := 17) dX2_fail_4 (by decide) (fun c4 => ?_) (fun c4 => ?_)
  · replace hf := (if_pos c4).symm.trans hf
    have hf := Option.some.inj hf
    subst hf
    exact r_vret rfl dX2_fail_17
  · replace hf := (if_neg c4).symm.trans hf
    cases hf
/-! ===== NumberedByAge$Last.fail()V ===== -/
abbrev M_X2_fail_T : Mx := (cX2_fail, 1, RX2, (false, []), none, 6, 100)
def f_X2_fail_T (h : Hp) (this : Nat) : Option (String × Hp) :=
    (gI h (some this) lws 1).bind fun v1 =>
    if v1 = 0 then
      none
    else
      some (xUOE, h ++ [eJ 6])
set_option maxRecDepth 100000 in
set_option maxHeartbeats 4000000 in
theorem k_X2_fail_T (G : Gx) (l : Launch) (hfl : l.stackTraces = false) {h : Hp} {this : Nat} {r : (String × Hp)} (hf : f_X2_fail_T h this = some r) : KT l yX2_fail (.code yX2_fail cX2_fail 1 none :: wsK) 6 100 G [vR (some this)] h r.1 r.2 := by
  refine r_entryT (own := RX2) (by decide +kernel) rfl (Nat.le_of_ble_eq_true rfl) ?_
  show RQ G l M_X2_fail_T (qT G r.1 r.2) r.2 0 [(0, vR (some this))] [] h
  unfold f_X2_fail_T at hf
  refine r_aload_n 0 dX2_fail_0 rfl ?_
  obtain ⟨v1, e1, hf⟩ := ob hf
  refine r_get dX2_fail_1 fl_L_1 kw_1_49 (Or.inr kw_1_50) (gI_sp e1) ?_
  refine r_if_eq (tgt := 17) dX2_fail_4 (by decide) (fun c4 => ?_) (fun c4 => ?_)
  · replace hf := (if_pos c4).symm.trans hf
    cases hf
  · replace hf := (if_neg c4).symm.trans hf
    have hf := Option.some.inj hf
    subst hf
    exact r_throw (E := xUOE) (text := "a LAST one failed") hfl dX2_fail_7 dX2_fail_10 dX2_fail_11 dX2_fail_13 dX2_fail_16 (by decide +kernel) (by decide +kernel) kw_3_167 kw_1_21 (by decide +kernel) vxg_RX2_30 vxb_RX2_30 vxh_RX2_30 rfl ⟨Nat.le_of_ble_eq_true rfl, Nat.le_of_ble_eq_true rfl⟩ (Nat.le_of_ble_eq_true rfl)
theorem ft_X2_fail {h : Hp} {a : Nat} {t : String × Hp} (e : f_X2_fail_T h a = some t) : t = (xUOE, h ++ [eJ 6]) := by
  unfold f_X2_fail_T at e
  obtain ⟨v1, e1, e⟩ := ob e
  split at e
  · cases e
  · exact (Option.some.inj e).symm
/-! ===== NumberedByAge$Side.fail()V ===== -/
abbrev M_X6_fail : Mx := (cX6_fail, 1, RX6, (false, []), none, 6, 100)
def f_X6_fail (h : Hp) (this : Nat) : Option Unit :=
    (gI h (some this) lws 1).bind fun v1 =>
    if v1 = 0 then
      some ()
    else
      none
set_option maxRecDepth 100000 in
set_option maxHeartbeats 4000000 in
theorem k_X6_fail (G : Gx) (l : Launch) {h : Hp} {this : Nat} {r : Unit} (hf : f_X6_fail h this = some r) : KM l yX6_fail (.code yX6_fail cX6_fail 1 none :: wsK) 6 100 G [vR (some this)] h none h := by
  refine r_entry (ctor := false) (own := RX6) (by decide +kernel) rfl (fun q => by cases q) (Nat.le_of_ble_eq_true rfl) ?_
  show RJ G l M_X6_fail none h 0 [(0, vR (some this))] [] h
  unfold f_X6_fail at hf
  refine r_aload_n 0 dX6_fail_0 rfl ?_
  obtain ⟨v1, e1, hf⟩ := ob hf
  refine r_get dX6_fail_1 fl_L_1 kw_1_53 (Or.inr kw_1_54) (gI_sp e1) ?_
  refine r_if_eq (tgt := 17) dX6_fail_4 (by decide) (fun c4 => ?_) (fun c4 => ?_)
  · replace hf := (if_pos c4).symm.trans hf
    have hf := Option.some.inj hf
    subst hf
    exact r_vret rfl dX6_fail_17
  · replace hf := (if_neg c4).symm.trans hf
    cases hf
/-! ===== NumberedByAge$Side.fail()V ===== -/
abbrev M_X6_fail_T : Mx := (cX6_fail, 1, RX6, (false, []), none, 6, 100)
def f_X6_fail_T (h : Hp) (this : Nat) : Option (String × Hp) :=
    (gI h (some this) lws 1).bind fun v1 =>
    if v1 = 0 then
      none
    else
      some (xIAE, h ++ [eJ 6])
set_option maxRecDepth 100000 in
set_option maxHeartbeats 4000000 in
theorem k_X6_fail_T (G : Gx) (l : Launch) (hfl : l.stackTraces = false) {h : Hp} {this : Nat} {r : (String × Hp)} (hf : f_X6_fail_T h this = some r) : KT l yX6_fail (.code yX6_fail cX6_fail 1 none :: wsK) 6 100 G [vR (some this)] h r.1 r.2 := by
  refine r_entryT (own := RX6) (by decide +kernel) rfl (Nat.le_of_ble_eq_true rfl) ?_
  show RQ G l M_X6_fail_T (qT G r.1 r.2) r.2 0 [(0, vR (some this))] [] h
  unfold f_X6_fail_T at hf
  refine r_aload_n 0 dX6_fail_0 rfl ?_
  obtain ⟨v1, e1, hf⟩ := ob hf
  refine r_get dX6_fail_1 fl_L_1 kw_1_53 (Or.inr kw_1_54) (gI_sp e1) ?_
  refine r_if_eq (tgt := 17) dX6_fail_4 (by decide) (fun c4 => ?_) (fun c4 => ?_)
  · replace hf := (if_pos c4).symm.trans hf
    cases hf
  · replace hf := (if_neg c4).symm.trans hf
    have hf := Option.some.inj hf
    subst hf
    exact r_throw (E := xIAE) (text := "a SIDE one failed") hfl dX6_fail_7 dX6_fail_10 dX6_fail_11 dX6_fail_13 dX6_fail_16 (by decide +kernel) (by decide +kernel) kw_3_239 kw_1_19 (by decide +kernel) vxg_RX6_25 vxb_RX6_25 vxh_RX6_25 rfl ⟨Nat.le_of_ble_eq_true rfl, Nat.le_of_ble_eq_true rfl⟩ (Nat.le_of_ble_eq_true rfl)
theorem ft_X6_fail {h : Hp} {a : Nat} {t : String × Hp} (e : f_X6_fail_T h a = some t) : t = (xIAE, h ++ [eJ 6]) := by
  unfold f_X6_fail_T at e
  obtain ⟨v1, e1, e⟩ := ob e
  split at e
  · cases e
  · exact (Option.some.inj e).symm
def cF (h : Hp) (nf : Option Unit) (tf : Option (String × Hp)) (K : Hp → Option (Int32 × Hp)) : Option (Int32 × Hp) := match nf with
  | some _ => some ((-15 : Int32), h)
  | none => tf.bind fun t => K t.2
def f_X10_caughtFailure (h : Hp) (r : Option Nat) : Option (Int32 × Hp) :=
  (rcl h r).bind fun q => if q.2 = 0 then cF h (f_X3_fail h q.1) (f_X3_fail_T h q.1) (fun h => (gI h r lws 1).bind fun v => some (v, h)) else if q.2 = 1 then cF h (f_X3_fail h q.1) (f_X3_fail_T h q.1) (fun h => (gI h r lws 1).bind fun v => some (v, h)) else if q.2 = 2 then cF h (f_X2_fail h q.1) (f_X2_fail_T h q.1) (fun h => (f_V_levy h r).bind fun v => some (v + (200 : Int32), h)) else if q.2 = 3 then cF h (f_X3_fail h q.1) (f_X3_fail_T h q.1) (fun h => (gI h r lws 1).bind fun v => some (v, h)) else if q.2 = 4 then cF h (f_X3_fail h q.1) (f_X3_fail_T h q.1) (fun h => (gI h r lws 1).bind fun v => some (v, h)) else if q.2 = 6 then cF h (f_X6_fail h q.1) (f_X6_fail_T h q.1) (fun h => (gI h r lws 1).bind fun v => some (v + (100 : Int32), h)) else if q.2 = 7 then cF h (f_X3_fail h q.1) (f_X3_fail_T h q.1) (fun h => (gI h r lws 1).bind fun v => some (v, h)) else if q.2 = 9 then cF h (f_X9_fail h q.1) none (fun _ => none) else none
abbrev M_X10_caughtFailure : Mx := (cX10_caughtFailure, 2, RX10, (false, [(0, 4, 7, 201), (0, 4, 16, 305), (0, 4, 26, 212)]), (some .int), 12, 330)
set_option maxRecDepth 100000 in
set_option maxHeartbeats 4000000 in
theorem k_X10_caughtFailure (G : Gx) (l : Launch) (hfl : l.stackTraces = false) {h : Hp} {r : Option Nat} {x : Int32 × Hp} (hf : f_X10_caughtFailure h r = some x) : KW l yX10_caughtFailure (.codeWith yX10_caughtFailure cX10_caughtFailure 2 (some .int) [(0, 4, 7, 201), (0, 4, 16, 305), (0, 4, 26, 212)] :: wsK) 12 330 G [vR r] h (some (vI x.1)) x.2 := by
  refine r_entryW (own := RX10) (by decide +kernel) rfl (Nat.le_of_ble_eq_true rfl) ?_
  show RQ G l M_X10_caughtFailure (qW G (some (vI x.1)) x.2) x.2 0 [(0, vR r)] [] h
  unfold f_X10_caughtFailure at hf
  obtain ⟨⟨a, ci⟩, ea, hf⟩ := ob hf
  dsimp only at hf
  refine r_aload_n 0 dX10_caughtFailure_0 rfl ?_
  by_cases c0 : ci = 0
  · replace hf := (if_pos c0).symm.trans hf
    subst c0
    unfold cF at hf
    split at hf
    · rename_i u hu
      refine r_callO (vr := none) (y := yX3_fail) (x := yX3_fail) (ci := 0) (avs := []) dX10_caughtFailure_1 rfl kw_3_158 kw_3_161 kw_3_159 kw_3_162 kw_3_159 kw_1_3 kw_4_19 kw_4_19 oky_X3_fail ⟨Nat.le_of_ble_eq_true rfl, Nat.le_of_ble_eq_true rfl⟩ rfl (Nat.le_of_ble_eq_true rfl) ea (k_X3_fail G l hu) ?_
      refine r_goto (tgt := 32) dX10_caughtFailure_4 (by decide) ?_
      refine r_bipush (x := (-15 : Int32)) dX10_caughtFailure_32 (by decide) ?_
      have hf := Option.some.inj hf
      subst hf
      exact (r_iret rfl dX10_caughtFailure_34).vx
    · obtain ⟨t, et, hf⟩ := ob hf
      have ht := ft_X3_fail et
      subst ht
      dsimp only at hf
      obtain ⟨v9, e9, hf⟩ := ob hf
      have hf := Option.some.inj hf
      subst hf
      refine r_callOX (E := xISE) (preT := [(0, 4, 7, 201), (0, 4, 16, 305)]) (xT := (0, 4, 26, 212)) (sufT := []) (y := yX3_fail) (x := yX3_fail) (ci := 0) (avs := []) dX10_caughtFailure_1 rfl kw_3_158 kw_3_161 kw_3_159 kw_3_162 kw_3_159 kw_1_3 kw_4_19 kw_4_19 oky_X3_fail ⟨Nat.le_of_ble_eq_true rfl, Nat.le_of_ble_eq_true rfl⟩ rfl (Nat.le_of_ble_eq_true rfl) ea (k_X3_fail_T G l hfl et) rfl (by decide +kernel) (fun z hz => by
        rcases List.mem_cons.mp hz with rfl | hz
        · exact ⟨by decide, xIAE, kw_3_155, by decide +kernel⟩
        · rw [List.mem_singleton.mp hz]
          exact ⟨by decide, xUOE, kw_3_156, by decide +kernel⟩) rfl (by decide) kw_3_157 Le.rf (fun q => ?_)
      refine r_astoreX_n (lv' := [(1, vX q), (0, vR r)]) dX10_caughtFailure_26 (Nat.le_of_ble_eq_true rfl) rfl ?_
      refine r_aload_n 1 dX10_caughtFailure_27 rfl ?_
      refine r_get dX10_caughtFailure_28 fl_L_1 kw_1_55 (Or.inl rfl) (gI_sp e9) ?_
      exact (r_iret rfl dX10_caughtFailure_31).vx
  · replace hf := (if_neg c0).symm.trans hf
    by_cases c1 : ci = 1
    · replace hf := (if_pos c1).symm.trans hf
      subst c1
      unfold cF at hf
      split at hf
      · rename_i u hu
        refine r_callO (vr := none) (y := yX3_fail) (x := yX3_fail) (ci := 1) (avs := []) dX10_caughtFailure_1 rfl kw_3_158 kw_3_161 kw_3_159 kw_3_163 kw_3_159 kw_1_3 kw_4_19 kw_4_19 oky_X3_fail ⟨Nat.le_of_ble_eq_true rfl, Nat.le_of_ble_eq_true rfl⟩ rfl (Nat.le_of_ble_eq_true rfl) ea (k_X3_fail G l hu) ?_
        refine r_goto (tgt := 32) dX10_caughtFailure_4 (by decide) ?_
        refine r_bipush (x := (-15 : Int32)) dX10_caughtFailure_32 (by decide) ?_
        have hf := Option.some.inj hf
        subst hf
        exact (r_iret rfl dX10_caughtFailure_34).vx
      · obtain ⟨t, et, hf⟩ := ob hf
        have ht := ft_X3_fail et
        subst ht
        dsimp only at hf
        obtain ⟨v9, e9, hf⟩ := ob hf
        have hf := Option.some.inj hf
        subst hf
        refine r_callOX (E := xISE) (preT := [(0, 4, 7, 201), (0, 4, 16, 305)]) (xT := (0, 4, 26, 212)) (sufT := []) (y := yX3_fail) (x := yX3_fail) (ci := 1) (avs := []) dX10_caughtFailure_1 rfl kw_3_158 kw_3_161 kw_3_159 kw_3_163 kw_3_159 kw_1_3 kw_4_19 kw_4_19 oky_X3_fail ⟨Nat.le_of_ble_eq_true rfl, Nat.le_of_ble_eq_true rfl⟩ rfl (Nat.le_of_ble_eq_true rfl) ea (k_X3_fail_T G l hfl et) rfl (by decide +kernel) (fun z hz => by
          rcases List.mem_cons.mp hz with rfl | hz
          · exact ⟨by decide, xIAE, kw_3_155, by decide +kernel⟩
          · rw [List.mem_singleton.mp hz]
            exact ⟨by decide, xUOE, kw_3_156, by decide +kernel⟩) rfl (by decide) kw_3_157 Le.rf (fun q => ?_)
        refine r_astoreX_n (lv' := [(1, vX q), (0, vR r)]) dX10_caughtFailure_26 (Nat.le_of_ble_eq_true rfl) rfl ?_
        refine r_aload_n 1 dX10_caughtFailure_27 rfl ?_
        refine r_get dX10_caughtFailure_28 fl_L_1 kw_1_55 (Or.inl rfl) (gI_sp e9) ?_
        exact (r_iret rfl dX10_caughtFailure_31).vx
    · replace hf := (if_neg c1).symm.trans hf
      by_cases c2 : ci = 2
      · replace hf := (if_pos c2).symm.trans hf
        subst c2
        unfold cF at hf
        split at hf
        · rename_i u hu
          refine r_callO (vr := none) (y := yX2_fail) (x := yX3_fail) (ci := 2) (avs := []) dX10_caughtFailure_1 rfl kw_3_158 kw_3_161 kw_3_159 kw_3_164 kw_3_165 kw_1_13 kw_3_166 kw_4_19 oky_X3_fail ⟨Nat.le_of_ble_eq_true rfl, Nat.le_of_ble_eq_true rfl⟩ rfl (Nat.le_of_ble_eq_true rfl) ea (k_X2_fail G l hu) ?_
          refine r_goto (tgt := 32) dX10_caughtFailure_4 (by decide) ?_
          refine r_bipush (x := (-15 : Int32)) dX10_caughtFailure_32 (by decide) ?_
          have hf := Option.some.inj hf
          subst hf
          exact (r_iret rfl dX10_caughtFailure_34).vx
        · obtain ⟨t, et, hf⟩ := ob hf
          have ht := ft_X2_fail et
          subst ht
          dsimp only at hf
          obtain ⟨v9, e9, hf⟩ := ob hf
          have hf := Option.some.inj hf
          subst hf
          refine r_callOX (E := xUOE) (preT := [(0, 4, 7, 201)]) (xT := (0, 4, 16, 305)) (sufT := [(0, 4, 26, 212)]) (y := yX2_fail) (x := yX3_fail) (ci := 2) (avs := []) dX10_caughtFailure_1 rfl kw_3_158 kw_3_161 kw_3_159 kw_3_164 kw_3_165 kw_1_13 kw_3_166 kw_4_19 oky_X3_fail ⟨Nat.le_of_ble_eq_true rfl, Nat.le_of_ble_eq_true rfl⟩ rfl (Nat.le_of_ble_eq_true rfl) ea (k_X2_fail_T G l hfl et) rfl (by decide +kernel) (fun z hz => by rw [List.mem_singleton.mp hz]; exact ⟨by decide, xIAE, kw_3_155, by decide +kernel⟩) rfl (by decide) kw_3_156 Le.rf (fun q => ?_)
          refine r_astoreX_n (lv' := [(1, vX q), (0, vR r)]) dX10_caughtFailure_16 (Nat.le_of_ble_eq_true rfl) rfl ?_
          refine r_aload_n 1 dX10_caughtFailure_17 rfl ?_
          refine rv_levy dX10_caughtFailure_18 kw_3_118 ⟨Nat.le_of_ble_eq_true rfl, Nat.le_of_ble_eq_true rfl⟩ rfl (Nat.le_of_ble_eq_true rfl) e9 ?_
          refine r_sipush (x := (200 : Int32)) dX10_caughtFailure_21 (by decide) ?_
          refine r_iadd dX10_caughtFailure_24 ?_
          exact (r_iret rfl dX10_caughtFailure_25).vx
      · replace hf := (if_neg c2).symm.trans hf
        by_cases c3 : ci = 3
        · replace hf := (if_pos c3).symm.trans hf
          subst c3
          unfold cF at hf
          split at hf
          · rename_i u hu
            refine r_callO (vr := none) (y := yX3_fail) (x := yX3_fail) (ci := 3) (avs := []) dX10_caughtFailure_1 rfl kw_3_158 kw_3_161 kw_3_159 kw_3_160 kw_3_159 kw_1_3 kw_4_19 kw_4_19 oky_X3_fail ⟨Nat.le_of_ble_eq_true rfl, Nat.le_of_ble_eq_true rfl⟩ rfl (Nat.le_of_ble_eq_true rfl) ea (k_X3_fail G l hu) ?_
            refine r_goto (tgt := 32) dX10_caughtFailure_4 (by decide) ?_
            refine r_bipush (x := (-15 : Int32)) dX10_caughtFailure_32 (by decide) ?_
            have hf := Option.some.inj hf
            subst hf
            exact (r_iret rfl dX10_caughtFailure_34).vx
          · obtain ⟨t, et, hf⟩ := ob hf
            have ht := ft_X3_fail et
            subst ht
            dsimp only at hf
            obtain ⟨v9, e9, hf⟩ := ob hf
            have hf := Option.some.inj hf
            subst hf
            refine r_callOX (E := xISE) (preT := [(0, 4, 7, 201), (0, 4, 16, 305)]) (xT := (0, 4, 26, 212)) (sufT := []) (y := yX3_fail) (x := yX3_fail) (ci := 3) (avs := []) dX10_caughtFailure_1 rfl kw_3_158 kw_3_161 kw_3_159 kw_3_160 kw_3_159 kw_1_3 kw_4_19 kw_4_19 oky_X3_fail ⟨Nat.le_of_ble_eq_true rfl, Nat.le_of_ble_eq_true rfl⟩ rfl (Nat.le_of_ble_eq_true rfl) ea (k_X3_fail_T G l hfl et) rfl (by decide +kernel) (fun z hz => by
              rcases List.mem_cons.mp hz with rfl | hz
              · exact ⟨by decide, xIAE, kw_3_155, by decide +kernel⟩
              · rw [List.mem_singleton.mp hz]
                exact ⟨by decide, xUOE, kw_3_156, by decide +kernel⟩) rfl (by decide) kw_3_157 Le.rf (fun q => ?_)
            refine r_astoreX_n (lv' := [(1, vX q), (0, vR r)]) dX10_caughtFailure_26 (Nat.le_of_ble_eq_true rfl) rfl ?_
            refine r_aload_n 1 dX10_caughtFailure_27 rfl ?_
            refine r_get dX10_caughtFailure_28 fl_L_1 kw_1_55 (Or.inl rfl) (gI_sp e9) ?_
            exact (r_iret rfl dX10_caughtFailure_31).vx
        · replace hf := (if_neg c3).symm.trans hf
          by_cases c4 : ci = 4
          · replace hf := (if_pos c4).symm.trans hf
            subst c4
            unfold cF at hf
            split at hf
            · rename_i u hu
              refine r_callO (vr := none) (y := yX3_fail) (x := yX3_fail) (ci := 4) (avs := []) dX10_caughtFailure_1 rfl kw_3_158 kw_3_161 kw_3_159 kw_3_235 kw_3_159 kw_1_3 kw_4_19 kw_4_19 oky_X3_fail ⟨Nat.le_of_ble_eq_true rfl, Nat.le_of_ble_eq_true rfl⟩ rfl (Nat.le_of_ble_eq_true rfl) ea (k_X3_fail G l hu) ?_
              refine r_goto (tgt := 32) dX10_caughtFailure_4 (by decide) ?_
              refine r_bipush (x := (-15 : Int32)) dX10_caughtFailure_32 (by decide) ?_
              have hf := Option.some.inj hf
              subst hf
              exact (r_iret rfl dX10_caughtFailure_34).vx
            · obtain ⟨t, et, hf⟩ := ob hf
              have ht := ft_X3_fail et
              subst ht
              dsimp only at hf
              obtain ⟨v9, e9, hf⟩ := ob hf
              have hf := Option.some.inj hf
              subst hf
              refine r_callOX (E := xISE) (preT := [(0, 4, 7, 201), (0, 4, 16, 305)]) (xT := (0, 4, 26, 212)) (sufT := []) (y := yX3_fail) (x := yX3_fail) (ci := 4) (avs := []) dX10_caughtFailure_1 rfl kw_3_158 kw_3_161 kw_3_159 kw_3_235 kw_3_159 kw_1_3 kw_4_19 kw_4_19 oky_X3_fail ⟨Nat.le_of_ble_eq_true rfl, Nat.le_of_ble_eq_true rfl⟩ rfl (Nat.le_of_ble_eq_true rfl) ea (k_X3_fail_T G l hfl et) rfl (by decide +kernel) (fun z hz => by
                rcases List.mem_cons.mp hz with rfl | hz
                · exact ⟨by decide, xIAE, kw_3_155, by decide +kernel⟩
                · rw [List.mem_singleton.mp hz]
                  exact ⟨by decide, xUOE, kw_3_156, by decide +kernel⟩) rfl (by decide) kw_3_157 Le.rf (fun q => ?_)
              refine r_astoreX_n (lv' := [(1, vX q), (0, vR r)]) dX10_caughtFailure_26 (Nat.le_of_ble_eq_true rfl) rfl ?_
              refine r_aload_n 1 dX10_caughtFailure_27 rfl ?_
              refine r_get dX10_caughtFailure_28 fl_L_1 kw_1_55 (Or.inl rfl) (gI_sp e9) ?_
              exact (r_iret rfl dX10_caughtFailure_31).vx
          · replace hf := (if_neg c4).symm.trans hf
            by_cases c6 : ci = 6
            · replace hf := (if_pos c6).symm.trans hf
              subst c6
              unfold cF at hf
              split at hf
              · rename_i u hu
                refine r_callO (vr := none) (y := yX6_fail) (x := yX3_fail) (ci := 6) (avs := []) dX10_caughtFailure_1 rfl kw_3_158 kw_3_161 kw_3_159 kw_3_236 kw_3_237 kw_1_14 kw_3_238 kw_4_19 oky_X3_fail ⟨Nat.le_of_ble_eq_true rfl, Nat.le_of_ble_eq_true rfl⟩ rfl (Nat.le_of_ble_eq_true rfl) ea (k_X6_fail G l hu) ?_
                refine r_goto (tgt := 32) dX10_caughtFailure_4 (by decide) ?_
                refine r_bipush (x := (-15 : Int32)) dX10_caughtFailure_32 (by decide) ?_
                have hf := Option.some.inj hf
                subst hf
                exact (r_iret rfl dX10_caughtFailure_34).vx
              · obtain ⟨t, et, hf⟩ := ob hf
                have ht := ft_X6_fail et
                subst ht
                dsimp only at hf
                obtain ⟨v9, e9, hf⟩ := ob hf
                have hf := Option.some.inj hf
                subst hf
                refine r_callOX (E := xIAE) (preT := []) (xT := (0, 4, 7, 201)) (sufT := [(0, 4, 16, 305), (0, 4, 26, 212)]) (y := yX6_fail) (x := yX3_fail) (ci := 6) (avs := []) dX10_caughtFailure_1 rfl kw_3_158 kw_3_161 kw_3_159 kw_3_236 kw_3_237 kw_1_14 kw_3_238 kw_4_19 oky_X3_fail ⟨Nat.le_of_ble_eq_true rfl, Nat.le_of_ble_eq_true rfl⟩ rfl (Nat.le_of_ble_eq_true rfl) ea (k_X6_fail_T G l hfl et) rfl (by decide +kernel) (fun z hz => nomatch hz) rfl (by decide) kw_3_155 Le.rf (fun q => ?_)
                refine r_astoreX_n (lv' := [(1, vX q), (0, vR r)]) dX10_caughtFailure_7 (Nat.le_of_ble_eq_true rfl) rfl ?_
                refine r_aload_n 1 dX10_caughtFailure_8 rfl ?_
                refine r_get dX10_caughtFailure_9 fl_L_1 kw_1_55 (Or.inl rfl) (gI_sp e9) ?_
                refine r_bipush (x := (100 : Int32)) dX10_caughtFailure_12 (by decide) ?_
                refine r_iadd dX10_caughtFailure_14 ?_
                exact (r_iret rfl dX10_caughtFailure_15).vx
            · replace hf := (if_neg c6).symm.trans hf
              by_cases c7 : ci = 7
              · replace hf := (if_pos c7).symm.trans hf
                subst c7
                unfold cF at hf
                split at hf
                · rename_i u hu
                  refine r_callO (vr := none) (y := yX3_fail) (x := yX3_fail) (ci := 7) (avs := []) dX10_caughtFailure_1 rfl kw_3_158 kw_3_161 kw_3_159 kw_4_15 kw_3_159 kw_1_3 kw_4_19 kw_4_19 oky_X3_fail ⟨Nat.le_of_ble_eq_true rfl, Nat.le_of_ble_eq_true rfl⟩ rfl (Nat.le_of_ble_eq_true rfl) ea (k_X3_fail G l hu) ?_
                  refine r_goto (tgt := 32) dX10_caughtFailure_4 (by decide) ?_
                  refine r_bipush (x := (-15 : Int32)) dX10_caughtFailure_32 (by decide) ?_
                  have hf := Option.some.inj hf
                  subst hf
                  exact (r_iret rfl dX10_caughtFailure_34).vx
                · obtain ⟨t, et, hf⟩ := ob hf
                  have ht := ft_X3_fail et
                  subst ht
                  dsimp only at hf
                  obtain ⟨v9, e9, hf⟩ := ob hf
                  have hf := Option.some.inj hf
                  subst hf
                  refine r_callOX (E := xISE) (preT := [(0, 4, 7, 201), (0, 4, 16, 305)]) (xT := (0, 4, 26, 212)) (sufT := []) (y := yX3_fail) (x := yX3_fail) (ci := 7) (avs := []) dX10_caughtFailure_1 rfl kw_3_158 kw_3_161 kw_3_159 kw_4_15 kw_3_159 kw_1_3 kw_4_19 kw_4_19 oky_X3_fail ⟨Nat.le_of_ble_eq_true rfl, Nat.le_of_ble_eq_true rfl⟩ rfl (Nat.le_of_ble_eq_true rfl) ea (k_X3_fail_T G l hfl et) rfl (by decide +kernel) (fun z hz => by
                    rcases List.mem_cons.mp hz with rfl | hz
                    · exact ⟨by decide, xIAE, kw_3_155, by decide +kernel⟩
                    · rw [List.mem_singleton.mp hz]
                      exact ⟨by decide, xUOE, kw_3_156, by decide +kernel⟩) rfl (by decide) kw_3_157 Le.rf (fun q => ?_)
                  refine r_astoreX_n (lv' := [(1, vX q), (0, vR r)]) dX10_caughtFailure_26 (Nat.le_of_ble_eq_true rfl) rfl ?_
                  refine r_aload_n 1 dX10_caughtFailure_27 rfl ?_
                  refine r_get dX10_caughtFailure_28 fl_L_1 kw_1_55 (Or.inl rfl) (gI_sp e9) ?_
                  exact (r_iret rfl dX10_caughtFailure_31).vx
              · replace hf := (if_neg c7).symm.trans hf
                by_cases c9 : ci = 9
                · replace hf := (if_pos c9).symm.trans hf
                  subst c9
                  unfold cF at hf
                  split at hf
                  · rename_i u hu
                    refine r_callO (vr := none) (y := yX9_fail) (x := yX3_fail) (ci := 9) (avs := []) dX10_caughtFailure_1 rfl kw_3_158 kw_3_161 kw_3_159 kw_4_16 kw_4_17 kw_1_11 kw_4_18 kw_4_19 oky_X3_fail ⟨Nat.le_of_ble_eq_true rfl, Nat.le_of_ble_eq_true rfl⟩ rfl (Nat.le_of_ble_eq_true rfl) ea (k_X9_fail G l hu) ?_
                    refine r_goto (tgt := 32) dX10_caughtFailure_4 (by decide) ?_
                    refine r_bipush (x := (-15 : Int32)) dX10_caughtFailure_32 (by decide) ?_
                    have hf := Option.some.inj hf
                    subst hf
                    exact (r_iret rfl dX10_caughtFailure_34).vx
                  · cases hf
                · replace hf := (if_neg c9).symm.trans hf
                  cases hf
