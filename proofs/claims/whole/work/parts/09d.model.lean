/-! ===== NumberedByAgeModel.houseMany()I ===== -/
abbrev M_X11_houseMany : Mx := (cX11_houseMany, 3, RX11, (false, []), (some .int), 0, 0)
def f_X11_houseMany_70 (this : Nat) (k4 : Hp → Int32 → Int32 → Option (Int32 × Hp)) (h : Hp) (x2 : Int32) (s0 : Int32) (s1 : Int32) : Option (Int32 × Hp) :=
    k4 h (s1 + s0) (x2 + 1)
set_option maxRecDepth 100000 in
set_option maxHeartbeats 4000000 in
theorem t_X11_houseMany_70 (G : Gx) (l : Launch) (this : Nat) (k4 : Hp → Int32 → Int32 → Option (Int32 × Hp)) (hk4 : ∀ (h : Hp) (x1 : Int32) (x2 : Int32) (r : (Int32 × Hp)), k4 h x1 x2 = some r → RJ G l M_X11_houseMany (some (vI r.1)) r.2 4 [(0, vR (some this)), (1, vI x1), (2, vI x2)] [] h) (h : Hp) (x2 : Int32) (s0 : Int32) (s1 : Int32) (r : (Int32 × Hp)) (hf : f_X11_houseMany_70 this k4 h x2 s0 s1 = some r) : RJ G l M_X11_houseMany (some (vI r.1)) r.2 70 [(0, vR (some this)), (2, vI x2)] [vI s0, vI s1] h := by
  unfold f_X11_houseMany_70 at hf
  refine r_iadd dX11_houseMany_70 ?_
  refine r_istore_n (lv' := [(1, vI (s1 + s0)), (0, vR (some this)), (2, vI x2)]) dX11_houseMany_71 (Nat.le_of_ble_eq_true rfl) rfl ?_
  refine r_iinc (y := (x2 + 1)) (lv' := [(2, vI (x2 + 1)), (1, vI (s1 + s0)), (0, vR (some this))]) 2 dX11_houseMany_72 rfl rfl (Nat.le_of_ble_eq_true rfl) rfl ?_
  refine r_goto (tgt := 4) dX11_houseMany_75 (by decide) ?_
  exact r_sub [2, 1, 0] rfl (hk4 _ _ _ _ hf)
def f_X11_houseMany_54 (this : Nat) (k4 : Hp → Int32 → Int32 → Option (Int32 × Hp)) (h : Hp) (x1 : Int32) (x2 : Int32) (s0 : Int32) (s1 : Int32) (s2 : Option Nat) : Option (Int32 × Hp) :=
    (wI h s2 s1 s0).bind fun h54 =>
    (gR h54 (some this) [11] 5).bind fun v57 =>
    (aI h54 v57 x2).bind fun v61 =>
    if v61 ≤ 0 then
      f_X11_houseMany_70 this k4 h54 x2 (0 : Int32) x1
    else
      f_X11_houseMany_70 this k4 h54 x2 (1 : Int32) x1
set_option maxRecDepth 100000 in
set_option maxHeartbeats 4000000 in
theorem t_X11_houseMany_54 (G : Gx) (l : Launch) (this : Nat) (k4 : Hp → Int32 → Int32 → Option (Int32 × Hp)) (hk4 : ∀ (h : Hp) (x1 : Int32) (x2 : Int32) (r : (Int32 × Hp)), k4 h x1 x2 = some r → RJ G l M_X11_houseMany (some (vI r.1)) r.2 4 [(0, vR (some this)), (1, vI x1), (2, vI x2)] [] h) (h : Hp) (x1 : Int32) (x2 : Int32) (s0 : Int32) (s1 : Int32) (s2 : Option Nat) (r : (Int32 × Hp)) (hf : f_X11_houseMany_54 this k4 h x1 x2 s0 s1 s2 = some r) : RJ G l M_X11_houseMany (some (vI r.1)) r.2 54 [(0, vR (some this)), (1, vI x1), (2, vI x2)] [vI s0, vI s1, vR s2] h := by
  unfold f_X11_houseMany_54 at hf
  obtain ⟨h54, e54, hf⟩ := ob hf
  refine r_iastore dX11_houseMany_54 e54 ?_
  refine r_iload_n 1 dX11_houseMany_55 rfl ?_
  refine r_aload_n 0 dX11_houseMany_56 rfl ?_
  obtain ⟨v57, e57, hf⟩ := ob hf
  refine r_get dX11_houseMany_57 fl_11_5 kw_4_60 (Or.inl rfl) (gR_sp e57) ?_
  refine r_iload_n 2 dX11_houseMany_60 rfl ?_
  obtain ⟨v61, e61, hf⟩ := ob hf
  refine r_iaload dX11_houseMany_61 e61 ?_
  refine r_if_le (tgt := 69) dX11_houseMany_62 (by decide) (fun c62 => ?_) (fun c62 => ?_)
  · replace hf := (if_pos c62).symm.trans hf
    refine r_iconst (x := (0 : Int32)) dX11_houseMany_69 (by decide) ?_
    exact r_sub [0, 2] rfl (t_X11_houseMany_70 G l _ k4 hk4 _ _ _ _ _ hf)
  · replace hf := (if_neg c62).symm.trans hf
    refine r_iconst (x := (1 : Int32)) dX11_houseMany_65 (by decide) ?_
    refine r_goto (tgt := 70) dX11_houseMany_66 (by decide) ?_
    exact r_sub [0, 2] rfl (t_X11_houseMany_70 G l _ k4 hk4 _ _ _ _ _ hf)
def f_X11_houseMany_53 (this : Nat) (k4 : Hp → Int32 → Int32 → Option (Int32 × Hp)) (h : Hp) (x1 : Int32) (x2 : Int32) (s0 : Int32) (s1 : Option Nat) (s2 : Int32) (s3 : Option Nat) : Option (Int32 × Hp) :=
    (aI h s1 s0).bind fun v53 =>
    f_X11_houseMany_54 this k4 h x1 x2 v53 s2 s3
set_option maxRecDepth 100000 in
set_option maxHeartbeats 4000000 in
theorem t_X11_houseMany_53 (G : Gx) (l : Launch) (this : Nat) (k4 : Hp → Int32 → Int32 → Option (Int32 × Hp)) (hk4 : ∀ (h : Hp) (x1 : Int32) (x2 : Int32) (r : (Int32 × Hp)), k4 h x1 x2 = some r → RJ G l M_X11_houseMany (some (vI r.1)) r.2 4 [(0, vR (some this)), (1, vI x1), (2, vI x2)] [] h) (h : Hp) (x1 : Int32) (x2 : Int32) (s0 : Int32) (s1 : Option Nat) (s2 : Int32) (s3 : Option Nat) (r : (Int32 × Hp)) (hf : f_X11_houseMany_53 this k4 h x1 x2 s0 s1 s2 s3 = some r) : RJ G l M_X11_houseMany (some (vI r.1)) r.2 53 [(0, vR (some this)), (1, vI x1), (2, vI x2)] [vI s0, vR s1, vI s2, vR s3] h := by
  unfold f_X11_houseMany_53 at hf
  obtain ⟨v53, e53, hf⟩ := ob hf
  refine r_iaload dX11_houseMany_53 e53 ?_
  exact r_sub [0, 1, 2] rfl (t_X11_houseMany_54 G l _ k4 hk4 _ _ _ _ _ _ _ hf)
def f_X11_houseMany_25 (this : Nat) (k4 : Hp → Int32 → Int32 → Option (Int32 × Hp)) (h : Hp) (x1 : Int32) (x2 : Int32) (s0 : Int32) (s1 : Option Nat) : Option (Int32 × Hp) :=
    (gR h (some this) [11] 5).bind fun v26 =>
    (aI h v26 x2).bind fun v30 =>
    if v30 ≤ 0 then
      (gR h (some this) [11] 25).bind fun v39 =>
      if (12 : Int32) ≤ x1 then
        f_X11_houseMany_53 this k4 h x1 x2 (0 : Int32) v39 s0 s1
      else
        f_X11_houseMany_53 this k4 h x1 x2 x1 v39 s0 s1
    else
      f_X11_houseMany_54 this k4 h x1 x2 x2 s0 s1
set_option maxRecDepth 100000 in
set_option maxHeartbeats 4000000 in
theorem t_X11_houseMany_25 (G : Gx) (l : Launch) (this : Nat) (k4 : Hp → Int32 → Int32 → Option (Int32 × Hp)) (hk4 : ∀ (h : Hp) (x1 : Int32) (x2 : Int32) (r : (Int32 × Hp)), k4 h x1 x2 = some r → RJ G l M_X11_houseMany (some (vI r.1)) r.2 4 [(0, vR (some this)), (1, vI x1), (2, vI x2)] [] h) (h : Hp) (x1 : Int32) (x2 : Int32) (s0 : Int32) (s1 : Option Nat) (r : (Int32 × Hp)) (hf : f_X11_houseMany_25 this k4 h x1 x2 s0 s1 = some r) : RJ G l M_X11_houseMany (some (vI r.1)) r.2 25 [(0, vR (some this)), (1, vI x1), (2, vI x2)] [vI s0, vR s1] h := by
  unfold f_X11_houseMany_25 at hf
  refine r_aload_n 0 dX11_houseMany_25 rfl ?_
  obtain ⟨v26, e26, hf⟩ := ob hf
  refine r_get dX11_houseMany_26 fl_11_5 kw_4_60 (Or.inl rfl) (gR_sp e26) ?_
  refine r_iload_n 2 dX11_houseMany_29 rfl ?_
  obtain ⟨v30, e30, hf⟩ := ob hf
  refine r_iaload dX11_houseMany_30 e30 ?_
  refine r_if_le (tgt := 38) dX11_houseMany_31 (by decide) (fun c31 => ?_) (fun c31 => ?_)
  · replace hf := (if_pos c31).symm.trans hf
    refine r_aload_n 0 dX11_houseMany_38 rfl ?_
    obtain ⟨v39, e39, hf⟩ := ob hf
    refine r_get dX11_houseMany_39 fl_11_25 kw_4_80 (Or.inl rfl) (gR_sp e39) ?_
    refine r_iload_n 1 dX11_houseMany_42 rfl ?_
    refine r_bipush (x := (12 : Int32)) dX11_houseMany_43 (by decide) ?_
    refine r_icmp_ge (tgt := 52) dX11_houseMany_45 (by decide) (fun c45 => ?_) (fun c45 => ?_)
    · replace hf := (if_pos c45).symm.trans hf
      refine r_iconst (x := (0 : Int32)) dX11_houseMany_52 (by decide) ?_
      exact r_sub [0, 1, 2] rfl (t_X11_houseMany_53 G l _ k4 hk4 _ _ _ _ _ _ _ _ hf)
    · replace hf := (if_neg c45).symm.trans hf
      refine r_iload_n 1 dX11_houseMany_48 rfl ?_
      refine r_goto (tgt := 53) dX11_houseMany_49 (by decide) ?_
      exact r_sub [0, 1, 2] rfl (t_X11_houseMany_53 G l _ k4 hk4 _ _ _ _ _ _ _ _ hf)
  · replace hf := (if_neg c31).symm.trans hf
    refine r_iload_n 2 dX11_houseMany_34 rfl ?_
    refine r_goto (tgt := 54) dX11_houseMany_35 (by decide) ?_
    exact r_sub [0, 1, 2] rfl (t_X11_houseMany_54 G l _ k4 hk4 _ _ _ _ _ _ _ hf)
def f_X11_houseMany_4 (this : Nat) : Nat → Hp → Int32 → Int32 → Option (Int32 × Hp)
  | 0, _, _, _ => none
  | n + 1, h, x1, x2 =>
    if (12 : Int32) ≤ x2 then
      some (x1, h)
    else
      (gR h (some this) [11] 25).bind fun v11 =>
      if (12 : Int32) ≤ x1 then
        f_X11_houseMany_25 this (f_X11_houseMany_4 this n) h x1 x2 (0 : Int32) v11
      else
        f_X11_houseMany_25 this (f_X11_houseMany_4 this n) h x1 x2 x1 v11
set_option maxRecDepth 100000 in
set_option maxHeartbeats 4000000 in
theorem t_X11_houseMany_4 (G : Gx) (l : Launch) (this : Nat)  : ∀ (n : Nat) (h : Hp) (x1 : Int32) (x2 : Int32) (r : (Int32 × Hp)), f_X11_houseMany_4 this n h x1 x2 = some r → RJ G l M_X11_houseMany (some (vI r.1)) r.2 4 [(0, vR (some this)), (1, vI x1), (2, vI x2)] [] h := by
  intro n
  induction n with
  | zero =>
    intro h x1 x2 r hf
    rw [f_X11_houseMany_4] at hf
    cases hf
  | succ n ih =>
    intro h x1 x2 r hf
    rw [f_X11_houseMany_4] at hf
    refine r_iload_n 2 dX11_houseMany_4 rfl ?_
    refine r_bipush (x := (12 : Int32)) dX11_houseMany_5 (by decide) ?_
    refine r_icmp_ge (tgt := 78) dX11_houseMany_7 (by decide) (fun c7 => ?_) (fun c7 => ?_)
    · replace hf := (if_pos c7).symm.trans hf
      refine r_iload_n 1 dX11_houseMany_78 rfl ?_
      have hf := Option.some.inj hf
      subst hf
      exact r_iret rfl dX11_houseMany_79
    · replace hf := (if_neg c7).symm.trans hf
      refine r_aload_n 0 dX11_houseMany_10 rfl ?_
      obtain ⟨v11, e11, hf⟩ := ob hf
      refine r_get dX11_houseMany_11 fl_11_25 kw_4_80 (Or.inl rfl) (gR_sp e11) ?_
      refine r_iload_n 1 dX11_houseMany_14 rfl ?_
      refine r_bipush (x := (12 : Int32)) dX11_houseMany_15 (by decide) ?_
      refine r_icmp_ge (tgt := 24) dX11_houseMany_17 (by decide) (fun c17 => ?_) (fun c17 => ?_)
      · replace hf := (if_pos c17).symm.trans hf
        refine r_iconst (x := (0 : Int32)) dX11_houseMany_24 (by decide) ?_
        exact r_sub [0, 1, 2] rfl (t_X11_houseMany_25 G l _ (f_X11_houseMany_4 this n) ih _ _ _ _ _ _ hf)
      · replace hf := (if_neg c17).symm.trans hf
        refine r_iload_n 1 dX11_houseMany_20 rfl ?_
        refine r_goto (tgt := 25) dX11_houseMany_21 (by decide) ?_
        exact r_sub [0, 1, 2] rfl (t_X11_houseMany_25 G l _ (f_X11_houseMany_4 this n) ih _ _ _ _ _ _ hf)
def f_X11_houseMany (h : Hp) (this : Nat) : Option (Int32 × Hp) :=
    f_X11_houseMany_4 this 10000 h (0 : Int32) (0 : Int32)
set_option maxRecDepth 100000 in
set_option maxHeartbeats 4000000 in
theorem k_X11_houseMany (G : Gx) (l : Launch) {h : Hp} {this : Nat} {r : (Int32 × Hp)} (hf : f_X11_houseMany h this = some r) : KM l yX11_houseMany (.code yX11_houseMany cX11_houseMany 3 (some .int) :: wsK) 0 0 G [vR (some this)] h (some (vI r.1)) r.2 := by
  refine r_entry (ctor := false) (own := RX11) (by decide +kernel) rfl (fun q => by cases q) (Nat.le_of_ble_eq_true rfl) ?_
  show RJ G l M_X11_houseMany (some (vI r.1)) r.2 0 [(0, vR (some this))] [] h
  unfold f_X11_houseMany at hf
  refine r_iconst (x := (0 : Int32)) dX11_houseMany_0 (by decide) ?_
  refine r_istore_n (lv' := [(1, vI (0 : Int32)), (0, vR (some this))]) dX11_houseMany_1 (Nat.le_of_ble_eq_true rfl) rfl ?_
  refine r_iconst (x := (0 : Int32)) dX11_houseMany_2 (by decide) ?_
  refine r_istore_n (lv' := [(2, vI (0 : Int32)), (1, vI (0 : Int32)), (0, vR (some this))]) dX11_houseMany_3 (Nat.le_of_ble_eq_true rfl) rfl ?_
  exact r_sub [2, 1, 0] rfl (t_X11_houseMany_4 G l _ _ _ _ _ _ hf)
/-! ===== NumberedByAgeModel.count(I)I ===== -/
abbrev M_X11_count : Mx := (cX11_count, 2, RX11, (false, []), (some .int), 2, 42)
def f_X11_count (h : Hp) (this : Nat) (x1 : Int32) : Option (Int32 × Hp) :=
    (pF h (some this) [11] 6 (vI (0 : Int32))).bind fun h2 =>
    (rcv h2 (some this) 11).bind fun a6 =>
    (f_X11_lookNow h2 a6).bind fun h6 =>
    if x1 = (0 : Int32) then
      (rcv h6 (some this) 11).bind fun a49 =>
      (f_X11_houseMany h6 a49).bind fun q49 =>
      some (q49.1, q49.2)
    else
    if x1 = (1 : Int32) then
      (gI h6 (some this) [11] 2).bind fun v54 =>
      some (v54, h6)
    else
    if x1 = (2 : Int32) then
      (gR h6 (some this) [11] 8).bind fun v59 =>
      (aI h6 v59 (0 : Int32)).bind fun v63 =>
      (gR h6 (some this) [11] 8).bind fun v65 =>
      (aI h6 v65 (1 : Int32)).bind fun v69 =>
      (gR h6 (some this) [11] 8).bind fun v72 =>
      (aI h6 v72 (2 : Int32)).bind fun v76 =>
      some (((v63 + v69) + v76), h6)
    else
    if x1 = (3 : Int32) then
      (rcv h6 (some this) 11).bind fun a80 =>
      (f_X11_greatest h6 a80).bind fun v80 =>
      some (v80, h6)
    else
    if x1 = (4 : Int32) then
      (gI h6 (some this) [11] 0).bind fun v85 =>
      some (v85, h6)
    else
    if x1 = (5 : Int32) then
      (gI h6 (some this) [11] 1).bind fun v90 =>
      some (v90, h6)
    else
      some ((-1 : Int32), h6)
set_option maxRecDepth 100000 in
set_option maxHeartbeats 4000000 in
theorem k_X11_count (G : Gx) (l : Launch) {h : Hp} {this : Nat} {x1 : Int32} {r : (Int32 × Hp)} (hf : f_X11_count h this x1 = some r) : KM l yX11_count (.code yX11_count cX11_count 2 (some .int) :: wsK) 2 42 G [vR (some this), vI x1] h (some (vI r.1)) r.2 := by
  refine r_entry (ctor := false) (own := RX11) (by decide +kernel) rfl (fun q => by cases q) (Nat.le_of_ble_eq_true rfl) ?_
  show RJ G l M_X11_count (some (vI r.1)) r.2 0 [(0, vR (some this)), (1, vI x1)] [] h
  unfold f_X11_count at hf
  refine r_aload_n 0 dX11_count_0 rfl ?_
  refine r_iconst (x := (0 : Int32)) dX11_count_1 (by decide) ?_
  obtain ⟨h2, e2, hf⟩ := ob hf
  refine r_put dX11_count_2 fl_11_6 kw_4_61 (Or.inl rfl) (by decide +kernel) (fit_int _) e2 ?_
  refine r_aload_n 0 dX11_count_5 rfl ?_
  obtain ⟨a6, ea6, hf⟩ := ob hf
  obtain ⟨h6, e6, hf⟩ := ob hf
  refine r_callV (y := yX11_lookNow) (ci := 11) (avs := []) dX11_count_6 rfl kw_4_212 kw_4_214 kw_0_23 kw_1_5 kw_4_215 oky_X11_lookNow ⟨Nat.le_of_ble_eq_true rfl, Nat.le_of_ble_eq_true rfl⟩ rfl (Nat.le_of_ble_eq_true rfl) ea6 (k_X11_lookNow G l e6) ?_
  refine r_iload_n 1 dX11_count_9 rfl ?_
  by_cases c10_0 : x1 = (0 : Int32)
  · replace hf := (if_pos c10_0).symm.trans hf
    refine r_tabIn (off := 38) (tgt := 48) dX11_count_10 (by rw [c10_0]; decide +kernel) (by rw [c10_0]; decide +kernel) (by rw [c10_0]; decide +kernel) (by decide) ?_
    refine r_aload_n 0 dX11_count_48 rfl ?_
    obtain ⟨a49, ea49, hf⟩ := ob hf
    obtain ⟨q49, e49, hf⟩ := ob hf
    refine r_callV (y := yX11_houseMany) (ci := 11) (avs := []) dX11_count_49 rfl kw_5_118 kw_5_120 kw_0_39 kw_1_5 kw_5_121 oky_X11_houseMany ⟨Nat.le_of_ble_eq_true rfl, Nat.le_of_ble_eq_true rfl⟩ rfl (Nat.le_of_ble_eq_true rfl) ea49 (k_X11_houseMany G l e49) ?_
    have hf := Option.some.inj hf
    subst hf
    exact r_iret rfl dX11_count_52
  · replace hf := (if_neg c10_0).symm.trans hf
    by_cases c10_1 : x1 = (1 : Int32)
    · replace hf := (if_pos c10_1).symm.trans hf
      refine r_tabIn (off := 43) (tgt := 53) dX11_count_10 (by rw [c10_1]; decide +kernel) (by rw [c10_1]; decide +kernel) (by rw [c10_1]; decide +kernel) (by decide) ?_
      refine r_aload_n 0 dX11_count_53 rfl ?_
      obtain ⟨v54, e54, hf⟩ := ob hf
      refine r_get dX11_count_54 fl_11_2 kw_4_57 (Or.inl rfl) (gI_sp e54) ?_
      have hf := Option.some.inj hf
      subst hf
      exact r_iret rfl dX11_count_57
    · replace hf := (if_neg c10_1).symm.trans hf
      by_cases c10_2 : x1 = (2 : Int32)
      · replace hf := (if_pos c10_2).symm.trans hf
        refine r_tabIn (off := 48) (tgt := 58) dX11_count_10 (by rw [c10_2]; decide +kernel) (by rw [c10_2]; decide +kernel) (by rw [c10_2]; decide +kernel) (by decide) ?_
        refine r_aload_n 0 dX11_count_58 rfl ?_
        obtain ⟨v59, e59, hf⟩ := ob hf
        refine r_get dX11_count_59 fl_11_8 kw_4_63 (Or.inl rfl) (gR_sp e59) ?_
        refine r_iconst (x := (0 : Int32)) dX11_count_62 (by decide) ?_
        obtain ⟨v63, e63, hf⟩ := ob hf
        refine r_iaload dX11_count_63 e63 ?_
        refine r_aload_n 0 dX11_count_64 rfl ?_
        obtain ⟨v65, e65, hf⟩ := ob hf
        refine r_get dX11_count_65 fl_11_8 kw_4_63 (Or.inl rfl) (gR_sp e65) ?_
        refine r_iconst (x := (1 : Int32)) dX11_count_68 (by decide) ?_
        obtain ⟨v69, e69, hf⟩ := ob hf
        refine r_iaload dX11_count_69 e69 ?_
        refine r_iadd dX11_count_70 ?_
        refine r_aload_n 0 dX11_count_71 rfl ?_
        obtain ⟨v72, e72, hf⟩ := ob hf
        refine r_get dX11_count_72 fl_11_8 kw_4_63 (Or.inl rfl) (gR_sp e72) ?_
        refine r_iconst (x := (2 : Int32)) dX11_count_75 (by decide) ?_
        obtain ⟨v76, e76, hf⟩ := ob hf
        refine r_iaload dX11_count_76 e76 ?_
        refine r_pc (pc' := 77) rfl ?_
        refine r_iadd dX11_count_77 ?_
        have hf := Option.some.inj hf
        subst hf
        exact r_iret rfl dX11_count_78
      · replace hf := (if_neg c10_2).symm.trans hf
        by_cases c10_3 : x1 = (3 : Int32)
        · replace hf := (if_pos c10_3).symm.trans hf
          refine r_tabIn (off := 69) (tgt := 79) dX11_count_10 (by rw [c10_3]; decide +kernel) (by rw [c10_3]; decide +kernel) (by rw [c10_3]; decide +kernel) (by decide) ?_
          refine r_aload_n 0 dX11_count_79 rfl ?_
          obtain ⟨a80, ea80, hf⟩ := ob hf
          obtain ⟨v80, e80, hf⟩ := ob hf
          refine r_callV (y := yX11_greatest) (ci := 11) (avs := []) dX11_count_80 rfl kw_4_235 kw_4_237 kw_0_28 kw_1_5 kw_4_238 oky_X11_greatest ⟨Nat.le_of_ble_eq_true rfl, Nat.le_of_ble_eq_true rfl⟩ rfl (Nat.le_of_ble_eq_true rfl) ea80 (k_X11_greatest G l e80) ?_
          have hf := Option.some.inj hf
          subst hf
          exact r_iret rfl dX11_count_83
        · replace hf := (if_neg c10_3).symm.trans hf
          by_cases c10_4 : x1 = (4 : Int32)
          · replace hf := (if_pos c10_4).symm.trans hf
            refine r_tabIn (off := 74) (tgt := 84) dX11_count_10 (by rw [c10_4]; decide +kernel) (by rw [c10_4]; decide +kernel) (by rw [c10_4]; decide +kernel) (by decide) ?_
            refine r_aload_n 0 dX11_count_84 rfl ?_
            obtain ⟨v85, e85, hf⟩ := ob hf
            refine r_get dX11_count_85 fl_11_0 kw_4_55 (Or.inl rfl) (gI_sp e85) ?_
            have hf := Option.some.inj hf
            subst hf
            exact r_iret rfl dX11_count_88
          · replace hf := (if_neg c10_4).symm.trans hf
            by_cases c10_5 : x1 = (5 : Int32)
            · replace hf := (if_pos c10_5).symm.trans hf
              refine r_tabIn (off := 79) (tgt := 89) dX11_count_10 (by rw [c10_5]; decide +kernel) (by rw [c10_5]; decide +kernel) (by rw [c10_5]; decide +kernel) (by decide) ?_
              refine r_aload_n 0 dX11_count_89 rfl ?_
              obtain ⟨v90, e90, hf⟩ := ob hf
              refine r_get dX11_count_90 fl_11_1 kw_4_56 (Or.inl rfl) (gI_sp e90) ?_
              have hf := Option.some.inj hf
              subst hf
              exact r_iret rfl dX11_count_93
            · replace hf := (if_neg c10_5).symm.trans hf
              refine r_tabOut (tgt := 94) dX11_count_10 (by have g0 := lv_neT (k := (0 : Int32)) c10_0 (by decide : ((0 : Int32)).toInt = 0); have g1 := lv_neT (k := (1 : Int32)) c10_1 (by decide : ((1 : Int32)).toInt = 1); have g2 := lv_neT (k := (2 : Int32)) c10_2 (by decide : ((2 : Int32)).toInt = 2); have g3 := lv_neT (k := (3 : Int32)) c10_3 (by decide : ((3 : Int32)).toInt = 3); have g4 := lv_neT (k := (4 : Int32)) c10_4 (by decide : ((4 : Int32)).toInt = 4); have g5 := lv_neT (k := (5 : Int32)) c10_5 (by decide : ((5 : Int32)).toInt = 5); omega) (by decide) ?_
              refine r_iconst (x := (-1 : Int32)) dX11_count_94 (by decide) ?_
              have hf := Option.some.inj hf
              subst hf
              exact r_iret rfl dX11_count_95
/-! ===== NumberedByAgeModel.draw(I)I ===== -/
abbrev M_X11_draw : Mx := (cX11_draw, 2, RX11, (false, []), (some .int), 0, 0)
def f_X11_draw (h : Hp) (this : Nat) (x1 : Int32) : Option (Int32 × Hp) :=
    (gI h (some this) [11] 27).bind fun v2 =>
    (pF h (some this) [11] 27 (vI ((v2 * (1103515245 : Int32)) + (12345 : Int32)))).bind fun h12 =>
    (gI h12 (some this) [11] 27).bind fun v16 =>
    (dvI (v16 &&& (2147483647 : Int32)) (65536 : Int32)).bind fun v24 =>
    (rmI v24 x1).bind fun v26 =>
    some (v26, h12)
set_option maxRecDepth 100000 in
set_option maxHeartbeats 4000000 in
theorem k_X11_draw (G : Gx) (l : Launch) {h : Hp} {this : Nat} {x1 : Int32} {r : (Int32 × Hp)} (hf : f_X11_draw h this x1 = some r) : KM l yX11_draw (.code yX11_draw cX11_draw 2 (some .int) :: wsK) 0 0 G [vR (some this), vI x1] h (some (vI r.1)) r.2 := by
  refine r_entry (ctor := false) (own := RX11) (by decide +kernel) rfl (fun q => by cases q) (Nat.le_of_ble_eq_true rfl) ?_
  show RJ G l M_X11_draw (some (vI r.1)) r.2 0 [(0, vR (some this)), (1, vI x1)] [] h
  unfold f_X11_draw at hf
  refine r_aload_n 0 dX11_draw_0 rfl ?_
  refine r_aload_n 0 dX11_draw_1 rfl ?_
  obtain ⟨v2, e2, hf⟩ := ob hf
  refine r_get dX11_draw_2 fl_11_27 kw_4_82 (Or.inl rfl) (gI_sp e2) ?_
  refine r_ldc (x := (1103515245 : Int32)) dX11_draw_5 kw_5_144 ?_
  refine r_imul dX11_draw_7 ?_
  refine r_sipush (x := (12345 : Int32)) dX11_draw_8 (by decide) ?_
  refine r_iadd dX11_draw_11 ?_
  obtain ⟨h12, e12, hf⟩ := ob hf
  refine r_put dX11_draw_12 fl_11_27 kw_4_82 (Or.inl rfl) (by decide +kernel) (fit_int _) e12 ?_
  refine r_aload_n 0 dX11_draw_15 rfl ?_
  obtain ⟨v16, e16, hf⟩ := ob hf
  refine r_get dX11_draw_16 fl_11_27 kw_4_82 (Or.inl rfl) (gI_sp e16) ?_
  refine r_ldc (x := (2147483647 : Int32)) dX11_draw_19 kw_5_145 ?_
  refine r_iand dX11_draw_21 ?_
  refine r_ldc (x := (65536 : Int32)) dX11_draw_22 kw_5_146 ?_
  refine r_pc (pc' := 24) rfl ?_
  obtain ⟨v24, e24, hf⟩ := ob hf
  refine r_idiv dX11_draw_24 e24 ?_
  refine r_iload_n 1 dX11_draw_25 rfl ?_
  obtain ⟨v26, e26, hf⟩ := ob hf
  refine r_irem dX11_draw_26 e26 ?_
  have hf := Option.some.inj hf
  subst hf
  exact r_iret rfl dX11_draw_27
/-! ===== NumberedByAgeModel.wrongRow(I)I ===== -/
abbrev M_X11_wrongRow : Mx := (cX11_wrongRow, 2, RX11, (false, []), (some .int), 1, 25)
def f_X11_wrongRow (h : Hp) (this : Nat) (x1 : Int32) : Option Int32 :=
    (f_X11_in h x1.toInt64 (0 : Int64) (7 : Int64)).bind fun v6 =>
    if v6 = 0 then
      some (-1 : Int32)
    else
      (gR h (some this) [11] 28).bind fun v17 =>
      (aI h v17 x1).bind fun v21 =>
      if v21 = 0 then
        some (-11 : Int32)
      else
        (gR h (some this) [11] 28).bind fun v31 =>
        (aI h v31 x1).bind fun v35 =>
        if v35 = (2 : Int32) then
          some (0 : Int32)
        else
          some (-12 : Int32)
set_option maxRecDepth 100000 in
set_option maxHeartbeats 4000000 in
theorem k_X11_wrongRow (G : Gx) (l : Launch) {h : Hp} {this : Nat} {x1 : Int32} {r : Int32} (hf : f_X11_wrongRow h this x1 = some r) : KM l yX11_wrongRow (.code yX11_wrongRow cX11_wrongRow 2 (some .int) :: wsK) 1 25 G [vR (some this), vI x1] h (some (vI r)) h := by
  refine r_entry (ctor := false) (own := RX11) (by decide +kernel) rfl (fun q => by cases q) (Nat.le_of_ble_eq_true rfl) ?_
  show RJ G l M_X11_wrongRow (some (vI r)) h 0 [(0, vR (some this)), (1, vI x1)] [] h
  unfold f_X11_wrongRow at hf
  refine r_iload_n 1 dX11_wrongRow_0 rfl ?_
  refine r_i2l dX11_wrongRow_1 ?_
  refine r_lconst (x := (0 : Int64)) dX11_wrongRow_2 (by decide) ?_
  refine r_ldc2 (x := (7 : Int64)) dX11_wrongRow_3 kw_4_178 ?_
  obtain ⟨v6, e6, hf⟩ := ob hf
  refine r_callS (y := yX11_in) (avs := [vL x1.toInt64, vL (0 : Int64), vL (7 : Int64)]) dX11_wrongRow_6 kw_4_179 kw_4_180 kw_1_5 kw_4_181 oky_X11_in ⟨Nat.le_of_ble_eq_true rfl, Nat.le_of_ble_eq_true rfl⟩ rfl (Nat.le_of_ble_eq_true rfl) (k_X11_in G l e6) ?_
  refine r_if_ne (tgt := 16) dX11_wrongRow_9 (by decide) (fun c9 => ?_) (fun c9 => ?_)
  · replace hf := (if_pos c9).symm.trans hf
    refine r_iconst (x := (-1 : Int32)) dX11_wrongRow_12 (by decide) ?_
    refine r_goto (tgt := 46) dX11_wrongRow_13 (by decide) ?_
    have hf := Option.some.inj hf
    subst hf
    exact r_iret rfl dX11_wrongRow_46
  · replace hf := (if_neg c9).symm.trans hf
    refine r_aload_n 0 dX11_wrongRow_16 rfl ?_
    obtain ⟨v17, e17, hf⟩ := ob hf
    refine r_get dX11_wrongRow_17 fl_11_28 kw_4_83 (Or.inl rfl) (gR_sp e17) ?_
    refine r_iload_n 1 dX11_wrongRow_20 rfl ?_
    obtain ⟨v21, e21, hf⟩ := ob hf
    refine r_iaload dX11_wrongRow_21 e21 ?_
    refine r_if_ne (tgt := 30) dX11_wrongRow_22 (by decide) (fun c22 => ?_) (fun c22 => ?_)
    · replace hf := (if_pos c22).symm.trans hf
      refine r_bipush (x := (-11 : Int32)) dX11_wrongRow_25 (by decide) ?_
      refine r_goto (tgt := 46) dX11_wrongRow_27 (by decide) ?_
      have hf := Option.some.inj hf
      subst hf
      exact r_iret rfl dX11_wrongRow_46
    · replace hf := (if_neg c22).symm.trans hf
      refine r_aload_n 0 dX11_wrongRow_30 rfl ?_
      obtain ⟨v31, e31, hf⟩ := ob hf
      refine r_get dX11_wrongRow_31 fl_11_28 kw_4_83 (Or.inl rfl) (gR_sp e31) ?_
      refine r_iload_n 1 dX11_wrongRow_34 rfl ?_
      obtain ⟨v35, e35, hf⟩ := ob hf
      refine r_iaload dX11_wrongRow_35 e35 ?_
      refine r_iconst (x := (2 : Int32)) dX11_wrongRow_36 (by decide) ?_
      refine r_icmp_eq (tgt := 45) dX11_wrongRow_37 (by decide) (fun c37 => ?_) (fun c37 => ?_)
      · replace hf := (if_pos c37).symm.trans hf
        refine r_iconst (x := (0 : Int32)) dX11_wrongRow_45 (by decide) ?_
        have hf := Option.some.inj hf
        subst hf
        exact r_iret rfl dX11_wrongRow_46
      · replace hf := (if_neg c37).symm.trans hf
        refine r_bipush (x := (-12 : Int32)) dX11_wrongRow_40 (by decide) ?_
        refine r_goto (tgt := 46) dX11_wrongRow_42 (by decide) ?_
        have hf := Option.some.inj hf
        subst hf
        exact r_iret rfl dX11_wrongRow_46
/-! ===== NumberedByAgeModel.element(II)J ===== -/
abbrev M_X11_element : Mx := (cX11_element, 4, RX11, (false, []), (some .long), 2, 46)
def f_X11_element_43 (this : Nat) (h : Hp) (x1 : Int32) (x2 : Int32) (s0 : Int32) (s1 : Option Nat) : Option (Int64 × Hp) :=
    (pF h s1 [11] 6 (vI s0)).bind fun h43 =>
    (gI h43 (some this) [11] 6).bind fun v47 =>
    if v47 ≤ 0 then
      (gR h43 (some this) [11] 33).bind fun v58 =>
      (aL h43 v58 (((100 : Int32) * x1) + x2)).bind fun v67 =>
      some (v67, h43)
    else
      some ((0 : Int64), h43)
set_option maxRecDepth 100000 in
set_option maxHeartbeats 4000000 in
theorem t_X11_element_43 (G : Gx) (l : Launch) (this : Nat)  (h : Hp) (x1 : Int32) (x2 : Int32) (s0 : Int32) (s1 : Option Nat) (r : (Int64 × Hp)) (hf : f_X11_element_43 this h x1 x2 s0 s1 = some r) : RJ G l M_X11_element (some (vL r.1)) r.2 43 [(0, vR (some this)), (1, vI x1), (2, vI x2)] [vI s0, vR s1] h := by
  unfold f_X11_element_43 at hf
  obtain ⟨h43, e43, hf⟩ := ob hf
  refine r_put dX11_element_43 fl_11_6 kw_4_61 (Or.inl rfl) (by decide +kernel) (fit_int _) e43 ?_
  refine r_aload_n 0 dX11_element_46 rfl ?_
  obtain ⟨v47, e47, hf⟩ := ob hf
  refine r_get dX11_element_47 fl_11_6 kw_4_61 (Or.inl rfl) (gI_sp e47) ?_
  refine r_if_le (tgt := 57) dX11_element_50 (by decide) (fun c50 => ?_) (fun c50 => ?_)
  · replace hf := (if_pos c50).symm.trans hf
    refine r_aload_n 0 dX11_element_57 rfl ?_
    obtain ⟨v58, e58, hf⟩ := ob hf
    refine r_get dX11_element_58 fl_11_33 kw_4_88 (Or.inl rfl) (gR_sp e58) ?_
    refine r_bipush (x := (100 : Int32)) dX11_element_61 (by decide) ?_
    refine r_iload_n 1 dX11_element_63 rfl ?_
    refine r_imul dX11_element_64 ?_
    refine r_iload_n 2 dX11_element_65 rfl ?_
    refine r_iadd dX11_element_66 ?_
    obtain ⟨v67, e67, hf⟩ := ob hf
    refine r_laload dX11_element_67 e67 ?_
    have hf := Option.some.inj hf
    subst hf
    exact r_lret rfl dX11_element_68
  · replace hf := (if_neg c50).symm.trans hf
    refine r_lconst (x := (0 : Int64)) dX11_element_53 (by decide) ?_
    refine r_goto (tgt := 68) dX11_element_54 (by decide) ?_
    have hf := Option.some.inj hf
    subst hf
    exact r_lret rfl dX11_element_68
def f_X11_element_38 (this : Nat) (h : Hp) (x1 : Int32) (x2 : Int32) (s0 : Option Nat) : Option (Int64 × Hp) :=
    f_X11_element_43 this h x1 x2 (2 : Int32) s0
set_option maxRecDepth 100000 in
set_option maxHeartbeats 4000000 in
theorem t_X11_element_38 (G : Gx) (l : Launch) (this : Nat)  (h : Hp) (x1 : Int32) (x2 : Int32) (s0 : Option Nat) (r : (Int64 × Hp)) (hf : f_X11_element_38 this h x1 x2 s0 = some r) : RJ G l M_X11_element (some (vL r.1)) r.2 38 [(0, vR (some this)), (1, vI x1), (2, vI x2)] [vR s0] h := by
  unfold f_X11_element_38 at hf
  refine r_iconst (x := (2 : Int32)) dX11_element_38 (by decide) ?_
  refine r_goto (tgt := 43) dX11_element_39 (by decide) ?_
  exact r_sub [0, 1, 2] rfl (t_X11_element_43 G l _ _ _ _ _ _ _ hf)
def f_X11_element (h : Hp) (this : Nat) (x1 : Int32) (x2 : Int32) : Option (Int64 × Hp) :=
    (rcv h (some this) 11).bind fun a2 =>
    (f_X11_wrongRow h a2 x1).bind fun v2 =>
    if v2 = (-1 : Int32) then
      f_X11_element_43 this h x1 x2 (1 : Int32) (some this)
    else
      if v2 < 0 then
        f_X11_element_38 this h x1 x2 (some this)
      else
        (gR h (some this) [11] 32).bind fun v24 =>
        (aI h v24 x1).bind fun v28 =>
        (f_X11_in h x2.toInt64 (0 : Int64) (v28 - (1 : Int32)).toInt64).bind fun v32 =>
        if v32 = 0 then
          f_X11_element_38 this h x1 x2 (some this)
        else
          f_X11_element_43 this h x1 x2 (0 : Int32) (some this)
set_option maxRecDepth 100000 in
set_option maxHeartbeats 4000000 in
theorem k_X11_element (G : Gx) (l : Launch) {h : Hp} {this : Nat} {x1 : Int32} {x2 : Int32} {r : (Int64 × Hp)} (hf : f_X11_element h this x1 x2 = some r) : KM l yX11_element (.code yX11_element cX11_element 4 (some .long) :: wsK) 2 46 G [vR (some this), vI x1, vI x2] h (some (vL r.1)) r.2 := by
  refine r_entry (ctor := false) (own := RX11) (by decide +kernel) rfl (fun q => by cases q) (Nat.le_of_ble_eq_true rfl) ?_
  show RJ G l M_X11_element (some (vL r.1)) r.2 0 [(0, vR (some this)), (1, vI x1), (2, vI x2)] [] h
  unfold f_X11_element at hf
  refine r_aload_n 0 dX11_element_0 rfl ?_
  refine r_iload_n 1 dX11_element_1 rfl ?_
  obtain ⟨a2, ea2, hf⟩ := ob hf
  obtain ⟨v2, e2, hf⟩ := ob hf
  refine r_callV (y := yX11_wrongRow) (ci := 11) (avs := [vI x1]) dX11_element_2 rfl kw_4_174 kw_4_176 kw_0_15 kw_1_5 kw_4_177 oky_X11_wrongRow ⟨Nat.le_of_ble_eq_true rfl, Nat.le_of_ble_eq_true rfl⟩ rfl (Nat.le_of_ble_eq_true rfl) ea2 (k_X11_wrongRow G l e2) ?_
  refine r_istore_n (lv' := [(3, vI v2), (0, vR (some this)), (1, vI x1), (2, vI x2)]) dX11_element_5 (Nat.le_of_ble_eq_true rfl) rfl ?_
  refine r_aload_n 1 dX11_element_6 rfl ?_
  refine r_iload_n 0 dX11_element_7 rfl ?_
  refine r_iconst (x := (-1 : Int32)) dX11_element_8 (by decide) ?_
  refine r_icmp_ne (tgt := 16) dX11_element_9 (by decide) (fun c9 => ?_) (fun c9 => ?_)
  · replace hf := (if_pos c9).symm.trans hf
    refine r_iconst (x := (1 : Int32)) dX11_element_12 (by decide) ?_
    refine r_goto (tgt := 43) dX11_element_13 (by decide) ?_
    exact r_sub [1, 2, 3] rfl (t_X11_element_43 G l _ _ _ _ _ _ _ hf)
  · replace hf := (if_neg c9).symm.trans hf
    refine r_iload_n 0 dX11_element_16 rfl ?_
    refine r_if_lt (tgt := 38) dX11_element_17 (by decide) (fun c17 => ?_) (fun c17 => ?_)
    · replace hf := (if_pos c17).symm.trans hf
      exact r_sub [1, 2, 3] rfl (t_X11_element_38 G l _ _ _ _ _ _ hf)
    · replace hf := (if_neg c17).symm.trans hf
      refine r_iload_n 3 dX11_element_20 rfl ?_
      refine r_i2l dX11_element_21 ?_
      refine r_lconst (x := (0 : Int64)) dX11_element_22 (by decide) ?_
      refine r_aload_n 1 dX11_element_23 rfl ?_
      obtain ⟨v24, e24, hf⟩ := ob hf
      refine r_get dX11_element_24 fl_11_32 kw_4_87 (Or.inl rfl) (gR_sp e24) ?_
      refine r_iload_n 2 dX11_element_27 rfl ?_
      obtain ⟨v28, e28, hf⟩ := ob hf
      refine r_iaload dX11_element_28 e28 ?_
      refine r_iconst (x := (1 : Int32)) dX11_element_29 (by decide) ?_
      refine r_isub dX11_element_30 ?_
      refine r_i2l dX11_element_31 ?_
      obtain ⟨v32, e32, hf⟩ := ob hf
      refine r_callS (y := yX11_in) (avs := [vL x2.toInt64, vL (0 : Int64), vL (v28 - (1 : Int32)).toInt64]) dX11_element_32 kw_4_179 kw_4_180 kw_1_5 kw_4_181 oky_X11_in ⟨Nat.le_of_ble_eq_true rfl, Nat.le_of_ble_eq_true rfl⟩ rfl (Nat.le_of_ble_eq_true rfl) (k_X11_in G l e32) ?_
      refine r_if_ne (tgt := 42) dX11_element_35 (by decide) (fun c35 => ?_) (fun c35 => ?_)
      · replace hf := (if_pos c35).symm.trans hf
        exact r_sub [1, 2, 3] rfl (t_X11_element_38 G l _ _ _ _ _ _ hf)
      · replace hf := (if_neg c35).symm.trans hf
        refine r_iconst (x := (0 : Int32)) dX11_element_42 (by decide) ?_
        exact r_sub [1, 2, 3] rfl (t_X11_element_43 G l _ _ _ _ _ _ _ hf)
/-! ===== NumberedByAgeModel.wrongLaw(I)I ===== -/
abbrev M_X11_wrongLaw : Mx := (cX11_wrongLaw, 2, RX11, (false, []), (some .int), 1, 25)
def f_X11_wrongLaw (h : Hp) (this : Nat) (x1 : Int32) : Option Int32 :=
    (f_X11_in h x1.toInt64 (0 : Int64) (7 : Int64)).bind fun v6 =>
    if v6 = 0 then
      some (-1 : Int32)
    else
      (gR h (some this) [11] 28).bind fun v17 =>
      (aI h v17 x1).bind fun v21 =>
      if v21 = 0 then
        some (-11 : Int32)
      else
        (gR h (some this) [11] 28).bind fun v31 =>
        (aI h v31 x1).bind fun v35 =>
        if v35 = (1 : Int32) then
          some (0 : Int32)
        else
          some (-12 : Int32)
set_option maxRecDepth 100000 in
set_option maxHeartbeats 4000000 in
theorem k_X11_wrongLaw (G : Gx) (l : Launch) {h : Hp} {this : Nat} {x1 : Int32} {r : Int32} (hf : f_X11_wrongLaw h this x1 = some r) : KM l yX11_wrongLaw (.code yX11_wrongLaw cX11_wrongLaw 2 (some .int) :: wsK) 1 25 G [vR (some this), vI x1] h (some (vI r)) h := by
  refine r_entry (ctor := false) (own := RX11) (by decide +kernel) rfl (fun q => by cases q) (Nat.le_of_ble_eq_true rfl) ?_
  show RJ G l M_X11_wrongLaw (some (vI r)) h 0 [(0, vR (some this)), (1, vI x1)] [] h
  unfold f_X11_wrongLaw at hf
  refine r_iload_n 1 dX11_wrongLaw_0 rfl ?_
  refine r_i2l dX11_wrongLaw_1 ?_
  refine r_lconst (x := (0 : Int64)) dX11_wrongLaw_2 (by decide) ?_
  refine r_ldc2 (x := (7 : Int64)) dX11_wrongLaw_3 kw_4_178 ?_
  obtain ⟨v6, e6, hf⟩ := ob hf
  refine r_callS (y := yX11_in) (avs := [vL x1.toInt64, vL (0 : Int64), vL (7 : Int64)]) dX11_wrongLaw_6 kw_4_179 kw_4_180 kw_1_5 kw_4_181 oky_X11_in ⟨Nat.le_of_ble_eq_true rfl, Nat.le_of_ble_eq_true rfl⟩ rfl (Nat.le_of_ble_eq_true rfl) (k_X11_in G l e6) ?_
  refine r_if_ne (tgt := 16) dX11_wrongLaw_9 (by decide) (fun c9 => ?_) (fun c9 => ?_)
  · replace hf := (if_pos c9).symm.trans hf
    refine r_iconst (x := (-1 : Int32)) dX11_wrongLaw_12 (by decide) ?_
    refine r_goto (tgt := 46) dX11_wrongLaw_13 (by decide) ?_
    have hf := Option.some.inj hf
    subst hf
    exact r_iret rfl dX11_wrongLaw_46
  · replace hf := (if_neg c9).symm.trans hf
    refine r_aload_n 0 dX11_wrongLaw_16 rfl ?_
    obtain ⟨v17, e17, hf⟩ := ob hf
    refine r_get dX11_wrongLaw_17 fl_11_28 kw_4_83 (Or.inl rfl) (gR_sp e17) ?_
    refine r_iload_n 1 dX11_wrongLaw_20 rfl ?_
    obtain ⟨v21, e21, hf⟩ := ob hf
    refine r_iaload dX11_wrongLaw_21 e21 ?_
    refine r_if_ne (tgt := 30) dX11_wrongLaw_22 (by decide) (fun c22 => ?_) (fun c22 => ?_)
    · replace hf := (if_pos c22).symm.trans hf
      refine r_bipush (x := (-11 : Int32)) dX11_wrongLaw_25 (by decide) ?_
      refine r_goto (tgt := 46) dX11_wrongLaw_27 (by decide) ?_
      have hf := Option.some.inj hf
      subst hf
      exact r_iret rfl dX11_wrongLaw_46
    · replace hf := (if_neg c22).symm.trans hf
      refine r_aload_n 0 dX11_wrongLaw_30 rfl ?_
      obtain ⟨v31, e31, hf⟩ := ob hf
      refine r_get dX11_wrongLaw_31 fl_11_28 kw_4_83 (Or.inl rfl) (gR_sp e31) ?_
      refine r_iload_n 1 dX11_wrongLaw_34 rfl ?_
      obtain ⟨v35, e35, hf⟩ := ob hf
      refine r_iaload dX11_wrongLaw_35 e35 ?_
      refine r_iconst (x := (1 : Int32)) dX11_wrongLaw_36 (by decide) ?_
      refine r_icmp_eq (tgt := 45) dX11_wrongLaw_37 (by decide) (fun c37 => ?_) (fun c37 => ?_)
      · replace hf := (if_pos c37).symm.trans hf
        refine r_iconst (x := (0 : Int32)) dX11_wrongLaw_45 (by decide) ?_
        have hf := Option.some.inj hf
        subst hf
        exact r_iret rfl dX11_wrongLaw_46
      · replace hf := (if_neg c37).symm.trans hf
        refine r_bipush (x := (-12 : Int32)) dX11_wrongLaw_40 (by decide) ?_
        refine r_goto (tgt := 46) dX11_wrongLaw_42 (by decide) ?_
        have hf := Option.some.inj hf
        subst hf
        exact r_iret rfl dX11_wrongLaw_46
/-! ===== NumberedByAgeModel.enact(I)I ===== -/
abbrev M_X11_enact : Mx := (cX11_enact, 4, RX11, (false, []), (some .int), 2, 46)
def f_X11_enact (h : Hp) (this : Nat) (x1 : Int32) : Option (Int32 × Hp) :=
    (pF h (some this) [11] 6 (vI (0 : Int32))).bind fun h2 =>
    (rcv h2 (some this) 11).bind fun a7 =>
    (f_X11_wrongLaw h2 a7 x1).bind fun v7 =>
    if 0 ≤ v7 then
      (gI h2 (some this) [11] 0).bind fun v18 =>
      (gR h2 (some this) [11] 29).bind fun v24 =>
      (aI h2 v24 x1).bind fun v28 =>
      (pF h2 (some this) [11] 0 (vI v28)).bind fun h29 =>
      (gR h29 (some this) [11] 30).bind fun v34 =>
      (aI h29 v34 x1).bind fun v38 =>
      (pF h29 (some this) [11] 1 (vI v38)).bind fun h39 =>
      some (v18, h39)
    else
      some (v7, h2)
set_option maxRecDepth 100000 in
set_option maxHeartbeats 4000000 in
theorem k_X11_enact (G : Gx) (l : Launch) {h : Hp} {this : Nat} {x1 : Int32} {r : (Int32 × Hp)} (hf : f_X11_enact h this x1 = some r) : KM l yX11_enact (.code yX11_enact cX11_enact 4 (some .int) :: wsK) 2 46 G [vR (some this), vI x1] h (some (vI r.1)) r.2 := by
  refine r_entry (ctor := false) (own := RX11) (by decide +kernel) rfl (fun q => by cases q) (Nat.le_of_ble_eq_true rfl) ?_
  show RJ G l M_X11_enact (some (vI r.1)) r.2 0 [(0, vR (some this)), (1, vI x1)] [] h
  unfold f_X11_enact at hf
  refine r_aload_n 0 dX11_enact_0 rfl ?_
  refine r_iconst (x := (0 : Int32)) dX11_enact_1 (by decide) ?_
  obtain ⟨h2, e2, hf⟩ := ob hf
  refine r_put dX11_enact_2 fl_11_6 kw_4_61 (Or.inl rfl) (by decide +kernel) (fit_int _) e2 ?_
  refine r_aload_n 0 dX11_enact_5 rfl ?_
  refine r_iload_n 1 dX11_enact_6 rfl ?_
  obtain ⟨a7, ea7, hf⟩ := ob hf
  obtain ⟨v7, e7, hf⟩ := ob hf
  refine r_callV (y := yX11_wrongLaw) (ci := 11) (avs := [vI x1]) dX11_enact_7 rfl kw_5_28 kw_5_30 kw_0_30 kw_1_5 kw_5_31 oky_X11_wrongLaw ⟨Nat.le_of_ble_eq_true rfl, Nat.le_of_ble_eq_true rfl⟩ rfl (Nat.le_of_ble_eq_true rfl) ea7 (k_X11_wrongLaw G l e7) ?_
  refine r_istore_n (lv' := [(2, vI v7), (0, vR (some this)), (1, vI x1)]) dX11_enact_10 (Nat.le_of_ble_eq_true rfl) rfl ?_
  refine r_iload_n 0 dX11_enact_11 rfl ?_
  refine r_if_ge (tgt := 17) dX11_enact_12 (by decide) (fun c12 => ?_) (fun c12 => ?_)
  · replace hf := (if_pos c12).symm.trans hf
    refine r_aload_n 1 dX11_enact_17 rfl ?_
    obtain ⟨v18, e18, hf⟩ := ob hf
    refine r_get dX11_enact_18 fl_11_0 kw_4_55 (Or.inl rfl) (gI_sp e18) ?_
    refine r_istore_n (lv' := [(3, vI v18), (2, vI v7), (0, vR (some this)), (1, vI x1)]) dX11_enact_21 (Nat.le_of_ble_eq_true rfl) rfl ?_
    refine r_aload_n 2 dX11_enact_22 rfl ?_
    refine r_aload_n 2 dX11_enact_23 rfl ?_
    obtain ⟨v24, e24, hf⟩ := ob hf
    refine r_get dX11_enact_24 fl_11_29 kw_4_84 (Or.inl rfl) (gR_sp e24) ?_
    refine r_iload_n 3 dX11_enact_27 rfl ?_
    obtain ⟨v28, e28, hf⟩ := ob hf
    refine r_iaload dX11_enact_28 e28 ?_
    obtain ⟨h29, e29, hf⟩ := ob hf
    refine r_put dX11_enact_29 fl_11_0 kw_4_55 (Or.inl rfl) (by decide +kernel) (fit_int _) e29 ?_
    refine r_aload_n 2 dX11_enact_32 rfl ?_
    refine r_aload_n 2 dX11_enact_33 rfl ?_
    obtain ⟨v34, e34, hf⟩ := ob hf
    refine r_get dX11_enact_34 fl_11_30 kw_4_85 (Or.inl rfl) (gR_sp e34) ?_
    refine r_iload_n 3 dX11_enact_37 rfl ?_
    refine r_pc (pc' := 38) rfl ?_
    obtain ⟨v38, e38, hf⟩ := ob hf
    refine r_iaload dX11_enact_38 e38 ?_
    obtain ⟨h39, e39, hf⟩ := ob hf
    refine r_put dX11_enact_39 fl_11_1 kw_4_56 (Or.inl rfl) (by decide +kernel) (fit_int _) e39 ?_
    refine r_iload_n 0 dX11_enact_42 rfl ?_
    have hf := Option.some.inj hf
    subst hf
    exact r_iret rfl dX11_enact_43
  · replace hf := (if_neg c12).symm.trans hf
    refine r_iload_n 0 dX11_enact_15 rfl ?_
    have hf := Option.some.inj hf
    subst hf
    exact r_iret rfl dX11_enact_16
/-! ===== NumberedByAgeModel.falls()I ===== -/
abbrev M_X11_falls : Mx := (cX11_falls, 4, RX11, (false, []), (some .int), 0, 0)
def f_X11_falls_63 (this : Nat) (k11 : Hp → Int32 → Int32 → Int32 → Option (Int32 × Hp)) (h : Hp) (x1 : Int32) (x3 : Int32) (s0 : Int32) : Option (Int32 × Hp) :=
    k11 h x1 s0 (x3 + 1)
set_option maxRecDepth 100000 in
set_option maxHeartbeats 4000000 in
theorem t_X11_falls_63 (G : Gx) (l : Launch) (this : Nat) (k11 : Hp → Int32 → Int32 → Int32 → Option (Int32 × Hp)) (hk11 : ∀ (h : Hp) (x1 : Int32) (x2 : Int32) (x3 : Int32) (r : (Int32 × Hp)), k11 h x1 x2 x3 = some r → RJ G l M_X11_falls (some (vI r.1)) r.2 11 [(0, vR (some this)), (1, vI x1), (2, vI x2), (3, vI x3)] [] h) (h : Hp) (x1 : Int32) (x3 : Int32) (s0 : Int32) (r : (Int32 × Hp)) (hf : f_X11_falls_63 this k11 h x1 x3 s0 = some r) : RJ G l M_X11_falls (some (vI r.1)) r.2 63 [(0, vR (some this)), (1, vI x1), (3, vI x3)] [vI s0] h := by
  unfold f_X11_falls_63 at hf
  refine r_istore_n (lv' := [(2, vI s0), (0, vR (some this)), (1, vI x1), (3, vI x3)]) dX11_falls_63 (Nat.le_of_ble_eq_true rfl) rfl ?_
  refine r_iinc (y := (x3 + 1)) (lv' := [(3, vI (x3 + 1)), (2, vI s0), (0, vR (some this)), (1, vI x1)]) 3 dX11_falls_64 rfl rfl (Nat.le_of_ble_eq_true rfl) rfl ?_
  refine r_goto (tgt := 11) dX11_falls_67 (by decide) ?_
  exact r_sub [2, 3, 1, 0] rfl (hk11 _ _ _ _ _ hf)
def f_X11_falls_42 (this : Nat) (k11 : Hp → Int32 → Int32 → Int32 → Option (Int32 × Hp)) (h : Hp) (x2 : Int32) (x3 : Int32) (s0 : Int32) (s1 : Int32) : Option (Int32 × Hp) :=
    (gR h (some this) [11] 5).bind fun v45 =>
    (aI h v45 x3).bind fun v49 =>
    if v49 ≤ 0 then
      f_X11_falls_63 this k11 h (s1 + s0) x3 x2
    else
      (gR h (some this) [11] 5).bind fun v54 =>
      (aI h v54 x3).bind fun v58 =>
      f_X11_falls_63 this k11 h (s1 + s0) x3 v58
set_option maxRecDepth 100000 in
set_option maxHeartbeats 4000000 in
theorem t_X11_falls_42 (G : Gx) (l : Launch) (this : Nat) (k11 : Hp → Int32 → Int32 → Int32 → Option (Int32 × Hp)) (hk11 : ∀ (h : Hp) (x1 : Int32) (x2 : Int32) (x3 : Int32) (r : (Int32 × Hp)), k11 h x1 x2 x3 = some r → RJ G l M_X11_falls (some (vI r.1)) r.2 11 [(0, vR (some this)), (1, vI x1), (2, vI x2), (3, vI x3)] [] h) (h : Hp) (x2 : Int32) (x3 : Int32) (s0 : Int32) (s1 : Int32) (r : (Int32 × Hp)) (hf : f_X11_falls_42 this k11 h x2 x3 s0 s1 = some r) : RJ G l M_X11_falls (some (vI r.1)) r.2 42 [(0, vR (some this)), (2, vI x2), (3, vI x3)] [vI s0, vI s1] h := by
  unfold f_X11_falls_42 at hf
  refine r_iadd dX11_falls_42 ?_
  refine r_istore_n (lv' := [(1, vI (s1 + s0)), (0, vR (some this)), (2, vI x2), (3, vI x3)]) dX11_falls_43 (Nat.le_of_ble_eq_true rfl) rfl ?_
  refine r_aload_n 1 dX11_falls_44 rfl ?_
  obtain ⟨v45, e45, hf⟩ := ob hf
  refine r_get dX11_falls_45 fl_11_5 kw_4_60 (Or.inl rfl) (gR_sp e45) ?_
  refine r_iload_n 3 dX11_falls_48 rfl ?_
  obtain ⟨v49, e49, hf⟩ := ob hf
  refine r_iaload dX11_falls_49 e49 ?_
  refine r_if_le (tgt := 62) dX11_falls_50 (by decide) (fun c50 => ?_) (fun c50 => ?_)
  · replace hf := (if_pos c50).symm.trans hf
    refine r_iload_n 2 dX11_falls_62 rfl ?_
    exact r_sub [1, 0, 3] rfl (t_X11_falls_63 G l _ k11 hk11 _ _ _ _ _ hf)
  · replace hf := (if_neg c50).symm.trans hf
    refine r_aload_n 1 dX11_falls_53 rfl ?_
    obtain ⟨v54, e54, hf⟩ := ob hf
    refine r_get dX11_falls_54 fl_11_5 kw_4_60 (Or.inl rfl) (gR_sp e54) ?_
    refine r_iload_n 3 dX11_falls_57 rfl ?_
    obtain ⟨v58, e58, hf⟩ := ob hf
    refine r_iaload dX11_falls_58 e58 ?_
    refine r_goto (tgt := 63) dX11_falls_59 (by decide) ?_
    exact r_sub [1, 0, 3] rfl (t_X11_falls_63 G l _ k11 hk11 _ _ _ _ _ hf)
def f_X11_falls_41 (this : Nat) (k11 : Hp → Int32 → Int32 → Int32 → Option (Int32 × Hp)) (h : Hp) (x2 : Int32) (x3 : Int32) (s0 : Int32) : Option (Int32 × Hp) :=
    f_X11_falls_42 this k11 h x2 x3 (0 : Int32) s0
set_option maxRecDepth 100000 in
set_option maxHeartbeats 4000000 in
theorem t_X11_falls_41 (G : Gx) (l : Launch) (this : Nat) (k11 : Hp → Int32 → Int32 → Int32 → Option (Int32 × Hp)) (hk11 : ∀ (h : Hp) (x1 : Int32) (x2 : Int32) (x3 : Int32) (r : (Int32 × Hp)), k11 h x1 x2 x3 = some r → RJ G l M_X11_falls (some (vI r.1)) r.2 11 [(0, vR (some this)), (1, vI x1), (2, vI x2), (3, vI x3)] [] h) (h : Hp) (x2 : Int32) (x3 : Int32) (s0 : Int32) (r : (Int32 × Hp)) (hf : f_X11_falls_41 this k11 h x2 x3 s0 = some r) : RJ G l M_X11_falls (some (vI r.1)) r.2 41 [(0, vR (some this)), (2, vI x2), (3, vI x3)] [vI s0] h := by
  unfold f_X11_falls_41 at hf
  refine r_iconst (x := (0 : Int32)) dX11_falls_41 (by decide) ?_
  exact r_sub [0, 1, 2] rfl (t_X11_falls_42 G l _ k11 hk11 _ _ _ _ _ _ hf)
def f_X11_falls_11 (this : Nat) : Nat → Hp → Int32 → Int32 → Int32 → Option (Int32 × Hp)
  | 0, _, _, _, _ => none
  | n + 1, h, x1, x2, x3 =>
    if (12 : Int32) ≤ x3 then
      some (x1, h)
    else
      (gR h (some this) [11] 5).bind fun v19 =>
      (aI h v19 x3).bind fun v23 =>
      if v23 ≤ 0 then
        f_X11_falls_41 this (f_X11_falls_11 this n) h x2 x3 x1
      else
        (gR h (some this) [11] 5).bind fun v28 =>
        (aI h v28 x3).bind fun v32 =>
        if x2 < v32 then
          f_X11_falls_41 this (f_X11_falls_11 this n) h x2 x3 x1
        else
          f_X11_falls_42 this (f_X11_falls_11 this n) h x2 x3 (1 : Int32) x1
set_option maxRecDepth 100000 in
set_option maxHeartbeats 4000000 in
theorem t_X11_falls_11 (G : Gx) (l : Launch) (this : Nat)  : ∀ (n : Nat) (h : Hp) (x1 : Int32) (x2 : Int32) (x3 : Int32) (r : (Int32 × Hp)), f_X11_falls_11 this n h x1 x2 x3 = some r → RJ G l M_X11_falls (some (vI r.1)) r.2 11 [(0, vR (some this)), (1, vI x1), (2, vI x2), (3, vI x3)] [] h := by
  intro n
  induction n with
  | zero =>
    intro h x1 x2 x3 r hf
    rw [f_X11_falls_11] at hf
    cases hf
  | succ n ih =>
    intro h x1 x2 x3 r hf
    rw [f_X11_falls_11] at hf
    refine r_iload_n 3 dX11_falls_11 rfl ?_
    refine r_bipush (x := (12 : Int32)) dX11_falls_12 (by decide) ?_
    refine r_icmp_ge (tgt := 70) dX11_falls_14 (by decide) (fun c14 => ?_) (fun c14 => ?_)
    · replace hf := (if_pos c14).symm.trans hf
      refine r_iload_n 1 dX11_falls_70 rfl ?_
      have hf := Option.some.inj hf
      subst hf
      exact r_iret rfl dX11_falls_71
    · replace hf := (if_neg c14).symm.trans hf
      refine r_iload_n 1 dX11_falls_17 rfl ?_
      refine r_aload_n 0 dX11_falls_18 rfl ?_
      obtain ⟨v19, e19, hf⟩ := ob hf
      refine r_get dX11_falls_19 fl_11_5 kw_4_60 (Or.inl rfl) (gR_sp e19) ?_
      refine r_iload_n 3 dX11_falls_22 rfl ?_
      obtain ⟨v23, e23, hf⟩ := ob hf
      refine r_iaload dX11_falls_23 e23 ?_
      refine r_if_le (tgt := 41) dX11_falls_24 (by decide) (fun c24 => ?_) (fun c24 => ?_)
      · replace hf := (if_pos c24).symm.trans hf
        exact r_sub [0, 2, 3] rfl (t_X11_falls_41 G l _ (f_X11_falls_11 this n) ih _ _ _ _ _ hf)
      · replace hf := (if_neg c24).symm.trans hf
        refine r_aload_n 0 dX11_falls_27 rfl ?_
        obtain ⟨v28, e28, hf⟩ := ob hf
        refine r_get dX11_falls_28 fl_11_5 kw_4_60 (Or.inl rfl) (gR_sp e28) ?_
        refine r_iload_n 3 dX11_falls_31 rfl ?_
        obtain ⟨v32, e32, hf⟩ := ob hf
        refine r_iaload dX11_falls_32 e32 ?_
        refine r_iload_n 2 dX11_falls_33 rfl ?_
        refine r_icmp_gt (tgt := 41) dX11_falls_34 (by decide) (fun c34 => ?_) (fun c34 => ?_)
        · replace hf := (if_pos c34).symm.trans hf
          exact r_sub [0, 2, 3] rfl (t_X11_falls_41 G l _ (f_X11_falls_11 this n) ih _ _ _ _ _ hf)
        · replace hf := (if_neg c34).symm.trans hf
          refine r_iconst (x := (1 : Int32)) dX11_falls_37 (by decide) ?_
          refine r_goto (tgt := 42) dX11_falls_38 (by decide) ?_
          exact r_sub [0, 2, 3] rfl (t_X11_falls_42 G l _ (f_X11_falls_11 this n) ih _ _ _ _ _ _ hf)
def f_X11_falls (h : Hp) (this : Nat) : Option (Int32 × Hp) :=
    (pF h (some this) [11] 6 (vI (0 : Int32))).bind fun h2 =>
    f_X11_falls_11 this 10000 h2 (0 : Int32) (0 : Int32) (0 : Int32)
set_option maxRecDepth 100000 in
set_option maxHeartbeats 4000000 in
theorem k_X11_falls (G : Gx) (l : Launch) {h : Hp} {this : Nat} {r : (Int32 × Hp)} (hf : f_X11_falls h this = some r) : KM l yX11_falls (.code yX11_falls cX11_falls 4 (some .int) :: wsK) 0 0 G [vR (some this)] h (some (vI r.1)) r.2 := by
  refine r_entry (ctor := false) (own := RX11) (by decide +kernel) rfl (fun q => by cases q) (Nat.le_of_ble_eq_true rfl) ?_
  show RJ G l M_X11_falls (some (vI r.1)) r.2 0 [(0, vR (some this))] [] h
  unfold f_X11_falls at hf
  refine r_aload_n 0 dX11_falls_0 rfl ?_
  refine r_iconst (x := (0 : Int32)) dX11_falls_1 (by decide) ?_
  obtain ⟨h2, e2, hf⟩ := ob hf
  refine r_put dX11_falls_2 fl_11_6 kw_4_61 (Or.inl rfl) (by decide +kernel) (fit_int _) e2 ?_
  refine r_iconst (x := (0 : Int32)) dX11_falls_5 (by decide) ?_
  refine r_istore_n (lv' := [(1, vI (0 : Int32)), (0, vR (some this))]) dX11_falls_6 (Nat.le_of_ble_eq_true rfl) rfl ?_
  refine r_iconst (x := (0 : Int32)) dX11_falls_7 (by decide) ?_
  refine r_istore_n (lv' := [(2, vI (0 : Int32)), (1, vI (0 : Int32)), (0, vR (some this))]) dX11_falls_8 (Nat.le_of_ble_eq_true rfl) rfl ?_
  refine r_iconst (x := (0 : Int32)) dX11_falls_9 (by decide) ?_
  refine r_istore_n (lv' := [(3, vI (0 : Int32)), (2, vI (0 : Int32)), (1, vI (0 : Int32)), (0, vR (some this))]) dX11_falls_10 (Nat.le_of_ble_eq_true rfl) rfl ?_
  exact r_sub [3, 2, 1, 0] rfl (t_X11_falls_11 G l _ _ _ _ _ _ _ hf)
/-! ===== NumberedByAgeModel.gapsLooked()I ===== -/
abbrev M_X11_gapsLooked : Mx := (cX11_gapsLooked, 3, RX11, (false, []), (some .int), 1, 23)
def f_X11_gapsLooked_26 (h : Hp) (this : Nat) (k4 : Int32 → Int32 → Option Int32) (x2 : Int32) (s0 : Int32) (s1 : Int32) : Option Int32 :=
    k4 (s1 + s0) (x2 + 1)
set_option maxRecDepth 100000 in
set_option maxHeartbeats 4000000 in
theorem t_X11_gapsLooked_26 (G : Gx) (l : Launch) (h : Hp) (this : Nat) (k4 : Int32 → Int32 → Option Int32) (hk4 : ∀ (x1 : Int32) (x2 : Int32) (r : Int32), k4 x1 x2 = some r → RJ G l M_X11_gapsLooked (some (vI r)) h 4 [(0, vR (some this)), (1, vI x1), (2, vI x2)] [] h) (x2 : Int32) (s0 : Int32) (s1 : Int32) (r : Int32) (hf : f_X11_gapsLooked_26 h this k4 x2 s0 s1 = some r) : RJ G l M_X11_gapsLooked (some (vI r)) h 26 [(0, vR (some this)), (2, vI x2)] [vI s0, vI s1] h := by
  unfold f_X11_gapsLooked_26 at hf
  refine r_iadd dX11_gapsLooked_26 ?_
  refine r_istore_n (lv' := [(1, vI (s1 + s0)), (0, vR (some this)), (2, vI x2)]) dX11_gapsLooked_27 (Nat.le_of_ble_eq_true rfl) rfl ?_
  refine r_iinc (y := (x2 + 1)) (lv' := [(2, vI (x2 + 1)), (1, vI (s1 + s0)), (0, vR (some this))]) 2 dX11_gapsLooked_28 rfl rfl (Nat.le_of_ble_eq_true rfl) rfl ?_
  refine r_goto (tgt := 4) dX11_gapsLooked_31 (by decide) ?_
  exact r_sub [2, 1, 0] rfl (hk4 _ _ _ hf)
def f_X11_gapsLooked_4 (h : Hp) (this : Nat) : Nat → Int32 → Int32 → Option Int32
  | 0, _, _ => none
  | n + 1, x1, x2 =>
    (rcv h (some this) 11).bind fun a6 =>
    (f_X11_greatest h a6).bind fun v6 =>
    if v6 < x2 then
      some x1
    else
      (rcv h (some this) 11).bind fun a15 =>
      (f_X11_isHad h a15 x2).bind fun v15 =>
      if v15 = 0 then
        f_X11_gapsLooked_26 h this (f_X11_gapsLooked_4 h this n) x2 (1 : Int32) x1
      else
        f_X11_gapsLooked_26 h this (f_X11_gapsLooked_4 h this n) x2 (0 : Int32) x1
set_option maxRecDepth 100000 in
set_option maxHeartbeats 4000000 in
theorem t_X11_gapsLooked_4 (G : Gx) (l : Launch) (h : Hp) (this : Nat)  : ∀ (n : Nat) (x1 : Int32) (x2 : Int32) (r : Int32), f_X11_gapsLooked_4 h this n x1 x2 = some r → RJ G l M_X11_gapsLooked (some (vI r)) h 4 [(0, vR (some this)), (1, vI x1), (2, vI x2)] [] h := by
  intro n
  induction n with
  | zero =>
    intro x1 x2 r hf
    rw [f_X11_gapsLooked_4] at hf
    cases hf
  | succ n ih =>
    intro x1 x2 r hf
    rw [f_X11_gapsLooked_4] at hf
    refine r_iload_n 2 dX11_gapsLooked_4 rfl ?_
    refine r_aload_n 0 dX11_gapsLooked_5 rfl ?_
    obtain ⟨a6, ea6, hf⟩ := ob hf
    obtain ⟨v6, e6, hf⟩ := ob hf
    refine r_callV (y := yX11_greatest) (ci := 11) (avs := []) dX11_gapsLooked_6 rfl kw_4_235 kw_4_237 kw_0_28 kw_1_5 kw_4_238 oky_X11_greatest ⟨Nat.le_of_ble_eq_true rfl, Nat.le_of_ble_eq_true rfl⟩ rfl (Nat.le_of_ble_eq_true rfl) ea6 (k_X11_greatest G l e6) ?_
    refine r_icmp_gt (tgt := 34) dX11_gapsLooked_9 (by decide) (fun c9 => ?_) (fun c9 => ?_)
    · replace hf := (if_pos c9).symm.trans hf
      refine r_iload_n 1 dX11_gapsLooked_34 rfl ?_
      have hf := Option.some.inj hf
      subst hf
      exact r_iret rfl dX11_gapsLooked_35
    · replace hf := (if_neg c9).symm.trans hf
      refine r_iload_n 1 dX11_gapsLooked_12 rfl ?_
      refine r_aload_n 0 dX11_gapsLooked_13 rfl ?_
      refine r_iload_n 2 dX11_gapsLooked_14 rfl ?_
      obtain ⟨a15, ea15, hf⟩ := ob hf
      obtain ⟨v15, e15, hf⟩ := ob hf
      refine r_callV (y := yX11_isHad) (ci := 11) (avs := [vI x2]) dX11_gapsLooked_15 rfl kw_4_228 kw_4_230 kw_0_27 kw_1_5 kw_4_231 oky_X11_isHad ⟨Nat.le_of_ble_eq_true rfl, Nat.le_of_ble_eq_true rfl⟩ rfl (Nat.le_of_ble_eq_true rfl) ea15 (k_X11_isHad G l e15) ?_
      refine r_if_eq (tgt := 25) dX11_gapsLooked_18 (by decide) (fun c18 => ?_) (fun c18 => ?_)
      · replace hf := (if_pos c18).symm.trans hf
        refine r_iconst (x := (1 : Int32)) dX11_gapsLooked_25 (by decide) ?_
        exact r_sub [0, 2] rfl (t_X11_gapsLooked_26 G l _ _ (f_X11_gapsLooked_4 h this n) ih _ _ _ _ hf)
      · replace hf := (if_neg c18).symm.trans hf
        refine r_iconst (x := (0 : Int32)) dX11_gapsLooked_21 (by decide) ?_
        refine r_goto (tgt := 26) dX11_gapsLooked_22 (by decide) ?_
        exact r_sub [0, 2] rfl (t_X11_gapsLooked_26 G l _ _ (f_X11_gapsLooked_4 h this n) ih _ _ _ _ hf)
def f_X11_gapsLooked (h : Hp) (this : Nat) : Option Int32 :=
    f_X11_gapsLooked_4 h this 10000 (0 : Int32) (1 : Int32)
set_option maxRecDepth 100000 in
set_option maxHeartbeats 4000000 in
theorem k_X11_gapsLooked (G : Gx) (l : Launch) {h : Hp} {this : Nat} {r : Int32} (hf : f_X11_gapsLooked h this = some r) : KM l yX11_gapsLooked (.code yX11_gapsLooked cX11_gapsLooked 3 (some .int) :: wsK) 1 23 G [vR (some this)] h (some (vI r)) h := by
  refine r_entry (ctor := false) (own := RX11) (by decide +kernel) rfl (fun q => by cases q) (Nat.le_of_ble_eq_true rfl) ?_
  show RJ G l M_X11_gapsLooked (some (vI r)) h 0 [(0, vR (some this))] [] h
  unfold f_X11_gapsLooked at hf
  refine r_iconst (x := (0 : Int32)) dX11_gapsLooked_0 (by decide) ?_
  refine r_istore_n (lv' := [(1, vI (0 : Int32)), (0, vR (some this))]) dX11_gapsLooked_1 (Nat.le_of_ble_eq_true rfl) rfl ?_
  refine r_iconst (x := (1 : Int32)) dX11_gapsLooked_2 (by decide) ?_
  refine r_istore_n (lv' := [(2, vI (1 : Int32)), (1, vI (0 : Int32)), (0, vR (some this))]) dX11_gapsLooked_3 (Nat.le_of_ble_eq_true rfl) rfl ?_
  exact r_sub [2, 1, 0] rfl (t_X11_gapsLooked_4 G l _ _ _ _ _ _ hf)
/-! ===== NumberedByAgeModel.gaps()I ===== -/
abbrev M_X11_gaps : Mx := (cX11_gaps, 1, RX11, (false, []), (some .int), 2, 45)
def f_X11_gaps (h : Hp) (this : Nat) : Option (Int32 × Hp) :=
    (pF h (some this) [11] 6 (vI (0 : Int32))).bind fun h2 =>
    (rcv h2 (some this) 11).bind fun a6 =>
    (f_X11_lookNow h2 a6).bind fun h6 =>
    (rcv h6 (some this) 11).bind fun a10 =>
    (f_X11_gapsLooked h6 a10).bind fun v10 =>
    some (v10, h6)
set_option maxRecDepth 100000 in
set_option maxHeartbeats 4000000 in
theorem k_X11_gaps (G : Gx) (l : Launch) {h : Hp} {this : Nat} {r : (Int32 × Hp)} (hf : f_X11_gaps h this = some r) : KM l yX11_gaps (.code yX11_gaps cX11_gaps 1 (some .int) :: wsK) 2 45 G [vR (some this)] h (some (vI r.1)) r.2 := by
  refine r_entry (ctor := false) (own := RX11) (by decide +kernel) rfl (fun q => by cases q) (Nat.le_of_ble_eq_true rfl) ?_
  show RJ G l M_X11_gaps (some (vI r.1)) r.2 0 [(0, vR (some this))] [] h
  unfold f_X11_gaps at hf
  refine r_aload_n 0 dX11_gaps_0 rfl ?_
  refine r_iconst (x := (0 : Int32)) dX11_gaps_1 (by decide) ?_
  obtain ⟨h2, e2, hf⟩ := ob hf
  refine r_put dX11_gaps_2 fl_11_6 kw_4_61 (Or.inl rfl) (by decide +kernel) (fit_int _) e2 ?_
  refine r_aload_n 0 dX11_gaps_5 rfl ?_
  obtain ⟨a6, ea6, hf⟩ := ob hf
  obtain ⟨h6, e6, hf⟩ := ob hf
  refine r_callV (y := yX11_lookNow) (ci := 11) (avs := []) dX11_gaps_6 rfl kw_4_212 kw_4_214 kw_0_23 kw_1_5 kw_4_215 oky_X11_lookNow ⟨Nat.le_of_ble_eq_true rfl, Nat.le_of_ble_eq_true rfl⟩ rfl (Nat.le_of_ble_eq_true rfl) ea6 (k_X11_lookNow G l e6) ?_
  refine r_aload_n 0 dX11_gaps_9 rfl ?_
  obtain ⟨a10, ea10, hf⟩ := ob hf
  obtain ⟨v10, e10, hf⟩ := ob hf
  refine r_callV (y := yX11_gapsLooked) (ci := 11) (avs := []) dX11_gaps_10 rfl kw_5_62 kw_5_64 kw_0_32 kw_1_5 kw_5_65 oky_X11_gapsLooked ⟨Nat.le_of_ble_eq_true rfl, Nat.le_of_ble_eq_true rfl⟩ rfl (Nat.le_of_ble_eq_true rfl) ea10 (k_X11_gapsLooked G l e10) ?_
  have hf := Option.some.inj hf
  subst hf
  exact r_iret rfl dX11_gaps_13
