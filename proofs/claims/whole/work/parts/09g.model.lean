/-! ===== NumberedByAgeModel.orders(I)I ===== -/
abbrev M_X11_orders : Mx := (cX11_orders, 9, RX11, (false, []), (some .int), 4, 94)
def f_X11_orders_151 (this : Nat) (k64 : Hp → Int32 → Int32 → Int32 → Int32 → Int32 → Option (Int32 × Hp)) (k79 : Hp → Int32 → Int32 → Int32 → Int32 → Int32 → Int32 → Option (Int32 × Hp)) (h : Hp) (x1 : Int32) (x2 : Int32) (x3 : Int32) (x4 : Int32) (x7 : Int32) (s0 : Int32) : Option (Int32 × Hp) :=
    k79 h x1 x2 x3 x4 s0 (x7 + 1)
set_option maxRecDepth 100000 in
set_option maxHeartbeats 4000000 in
theorem t_X11_orders_151 (G : Gx) (l : Launch) (this : Nat) (k64 : Hp → Int32 → Int32 → Int32 → Int32 → Int32 → Option (Int32 × Hp)) (hk64 : ∀ (h : Hp) (x1 : Int32) (x2 : Int32) (x3 : Int32) (x4 : Int32) (x5 : Int32) (r : (Int32 × Hp)), k64 h x1 x2 x3 x4 x5 = some r → RJ G l M_X11_orders (some (vI r.1)) r.2 64 [(0, vR (some this)), (1, vI x1), (2, vI x2), (3, vI x3), (4, vI x4), (5, vI x5)] [] h) (k79 : Hp → Int32 → Int32 → Int32 → Int32 → Int32 → Int32 → Option (Int32 × Hp)) (hk79 : ∀ (h : Hp) (x1 : Int32) (x2 : Int32) (x3 : Int32) (x4 : Int32) (x6 : Int32) (x7 : Int32) (r : (Int32 × Hp)), k79 h x1 x2 x3 x4 x6 x7 = some r → RJ G l M_X11_orders (some (vI r.1)) r.2 79 [(0, vR (some this)), (1, vI x1), (2, vI x2), (3, vI x3), (4, vI x4), (6, vI x6), (7, vI x7)] [] h) (h : Hp) (x1 : Int32) (x2 : Int32) (x3 : Int32) (x4 : Int32) (x7 : Int32) (s0 : Int32) (r : (Int32 × Hp)) (hf : f_X11_orders_151 this k64 k79 h x1 x2 x3 x4 x7 s0 = some r) : RJ G l M_X11_orders (some (vI r.1)) r.2 151 [(0, vR (some this)), (1, vI x1), (2, vI x2), (3, vI x3), (4, vI x4), (7, vI x7)] [vI s0] h := by
  unfold f_X11_orders_151 at hf
  refine r_istore (lv' := [(6, vI s0), (0, vR (some this)), (1, vI x1), (2, vI x2), (3, vI x3), (4, vI x4), (7, vI x7)]) dX11_orders_151 (Nat.le_of_ble_eq_true rfl) rfl ?_
  refine r_iinc (y := (x7 + 1)) (lv' := [(7, vI (x7 + 1)), (6, vI s0), (0, vR (some this)), (1, vI x1), (2, vI x2), (3, vI x3), (4, vI x4)]) 6 dX11_orders_153 rfl rfl (Nat.le_of_ble_eq_true rfl) rfl ?_
  refine r_goto (tgt := 79) dX11_orders_156 (by decide) ?_
  exact r_sub [2, 3, 4, 5, 6, 1, 0] rfl (hk79 _ _ _ _ _ _ _ _ hf)
def f_X11_orders_201 (this : Nat) (k64 : Hp → Int32 → Int32 → Int32 → Int32 → Int32 → Option (Int32 × Hp)) (h : Hp) (x1 : Int32) (x2 : Int32) (x4 : Int32) (s0 : Int32) (s1 : Int32) : Option (Int32 × Hp) :=
    (rcv h (some this) 11).bind fun a205 =>
    (f_X11_nextOrder h a205 x2).bind fun q205 =>
    k64 q205.2 x1 x2 (s1 + s0) x4 q205.1
set_option maxRecDepth 100000 in
set_option maxHeartbeats 4000000 in
theorem t_X11_orders_201 (G : Gx) (l : Launch) (this : Nat) (k64 : Hp → Int32 → Int32 → Int32 → Int32 → Int32 → Option (Int32 × Hp)) (hk64 : ∀ (h : Hp) (x1 : Int32) (x2 : Int32) (x3 : Int32) (x4 : Int32) (x5 : Int32) (r : (Int32 × Hp)), k64 h x1 x2 x3 x4 x5 = some r → RJ G l M_X11_orders (some (vI r.1)) r.2 64 [(0, vR (some this)), (1, vI x1), (2, vI x2), (3, vI x3), (4, vI x4), (5, vI x5)] [] h) (h : Hp) (x1 : Int32) (x2 : Int32) (x4 : Int32) (s0 : Int32) (s1 : Int32) (r : (Int32 × Hp)) (hf : f_X11_orders_201 this k64 h x1 x2 x4 s0 s1 = some r) : RJ G l M_X11_orders (some (vI r.1)) r.2 201 [(0, vR (some this)), (1, vI x1), (2, vI x2), (4, vI x4)] [vI s0, vI s1] h := by
  unfold f_X11_orders_201 at hf
  refine r_iadd dX11_orders_201 ?_
  refine r_istore_n (lv' := [(3, vI (s1 + s0)), (0, vR (some this)), (1, vI x1), (2, vI x2), (4, vI x4)]) dX11_orders_202 (Nat.le_of_ble_eq_true rfl) rfl ?_
  refine r_aload_n 1 dX11_orders_203 rfl ?_
  refine r_iload_n 3 dX11_orders_204 rfl ?_
  obtain ⟨a205, ea205, hf⟩ := ob hf
  obtain ⟨q205, e205, hf⟩ := ob hf
  refine r_callV (y := yX11_nextOrder) (ci := 11) (avs := [vI x2]) dX11_orders_205 rfl kw_5_122 kw_5_124 kw_0_40 kw_1_5 kw_5_125 oky_X11_nextOrder ⟨Nat.le_of_ble_eq_true rfl, Nat.le_of_ble_eq_true rfl⟩ rfl (Nat.le_of_ble_eq_true rfl) ea205 (k_X11_nextOrder G l e205) ?_
  refine r_istore (lv' := [(5, vI q205.1), (3, vI (s1 + s0)), (0, vR (some this)), (1, vI x1), (2, vI x2), (4, vI x4)]) dX11_orders_208 (Nat.le_of_ble_eq_true rfl) rfl ?_
  refine r_goto (tgt := 64) dX11_orders_210 (by decide) ?_
  exact r_sub [2, 3, 4, 1, 5, 0] rfl (hk64 _ _ _ _ _ _ _ hf)
def f_X11_orders_188 (this : Nat) (k64 : Hp → Int32 → Int32 → Int32 → Int32 → Int32 → Option (Int32 × Hp)) (h : Hp) (x1 : Int32) (x2 : Int32) (x3 : Int32) (x6 : Int32) (s0 : Int32) : Option (Int32 × Hp) :=
    if x6 = 0 then
      f_X11_orders_201 this k64 h x1 x2 s0 (0 : Int32) x3
    else
      f_X11_orders_201 this k64 h x1 x2 s0 (1 : Int32) x3
set_option maxRecDepth 100000 in
set_option maxHeartbeats 4000000 in
theorem t_X11_orders_188 (G : Gx) (l : Launch) (this : Nat) (k64 : Hp → Int32 → Int32 → Int32 → Int32 → Int32 → Option (Int32 × Hp)) (hk64 : ∀ (h : Hp) (x1 : Int32) (x2 : Int32) (x3 : Int32) (x4 : Int32) (x5 : Int32) (r : (Int32 × Hp)), k64 h x1 x2 x3 x4 x5 = some r → RJ G l M_X11_orders (some (vI r.1)) r.2 64 [(0, vR (some this)), (1, vI x1), (2, vI x2), (3, vI x3), (4, vI x4), (5, vI x5)] [] h) (h : Hp) (x1 : Int32) (x2 : Int32) (x3 : Int32) (x6 : Int32) (s0 : Int32) (r : (Int32 × Hp)) (hf : f_X11_orders_188 this k64 h x1 x2 x3 x6 s0 = some r) : RJ G l M_X11_orders (some (vI r.1)) r.2 188 [(0, vR (some this)), (1, vI x1), (2, vI x2), (3, vI x3), (6, vI x6)] [vI s0] h := by
  unfold f_X11_orders_188 at hf
  refine r_istore (lv' := [(4, vI s0), (0, vR (some this)), (1, vI x1), (2, vI x2), (3, vI x3), (6, vI x6)]) dX11_orders_188 (Nat.le_of_ble_eq_true rfl) rfl ?_
  refine r_iload_n 4 dX11_orders_190 rfl ?_
  refine r_iload 5 dX11_orders_191 rfl ?_
  refine r_if_eq (tgt := 200) dX11_orders_193 (by decide) (fun c193 => ?_) (fun c193 => ?_)
  · replace hf := (if_pos c193).symm.trans hf
    refine r_iconst (x := (0 : Int32)) dX11_orders_200 (by decide) ?_
    exact r_sub [1, 2, 3, 0] rfl (t_X11_orders_201 G l _ k64 hk64 _ _ _ _ _ _ _ hf)
  · replace hf := (if_neg c193).symm.trans hf
    refine r_iconst (x := (1 : Int32)) dX11_orders_196 (by decide) ?_
    refine r_goto (tgt := 201) dX11_orders_197 (by decide) ?_
    exact r_sub [1, 2, 3, 0] rfl (t_X11_orders_201 G l _ k64 hk64 _ _ _ _ _ _ _ hf)
def f_X11_orders_186 (this : Nat) (k64 : Hp → Int32 → Int32 → Int32 → Int32 → Int32 → Option (Int32 × Hp)) (h : Hp) (x1 : Int32) (x2 : Int32) (x3 : Int32) (x4 : Int32) (x6 : Int32) : Option (Int32 × Hp) :=
    f_X11_orders_188 this k64 h x1 x2 x3 x6 x4
set_option maxRecDepth 100000 in
set_option maxHeartbeats 4000000 in
theorem t_X11_orders_186 (G : Gx) (l : Launch) (this : Nat) (k64 : Hp → Int32 → Int32 → Int32 → Int32 → Int32 → Option (Int32 × Hp)) (hk64 : ∀ (h : Hp) (x1 : Int32) (x2 : Int32) (x3 : Int32) (x4 : Int32) (x5 : Int32) (r : (Int32 × Hp)), k64 h x1 x2 x3 x4 x5 = some r → RJ G l M_X11_orders (some (vI r.1)) r.2 64 [(0, vR (some this)), (1, vI x1), (2, vI x2), (3, vI x3), (4, vI x4), (5, vI x5)] [] h) (h : Hp) (x1 : Int32) (x2 : Int32) (x3 : Int32) (x4 : Int32) (x6 : Int32) (r : (Int32 × Hp)) (hf : f_X11_orders_186 this k64 h x1 x2 x3 x4 x6 = some r) : RJ G l M_X11_orders (some (vI r.1)) r.2 186 [(0, vR (some this)), (1, vI x1), (2, vI x2), (3, vI x3), (4, vI x4), (6, vI x6)] [] h := by
  unfold f_X11_orders_186 at hf
  refine r_iload 4 dX11_orders_186 rfl ?_
  exact r_sub [0, 1, 2, 3, 5] rfl (t_X11_orders_188 G l _ k64 hk64 _ _ _ _ _ _ _ hf)
def f_X11_orders_159 (this : Nat) (k64 : Hp → Int32 → Int32 → Int32 → Int32 → Int32 → Option (Int32 × Hp)) (h : Hp) (x1 : Int32) (x2 : Int32) (x3 : Int32) (x4 : Int32) (x6 : Int32) : Option (Int32 × Hp) :=
    if x6 = 0 then
      f_X11_orders_186 this k64 h x1 x2 x3 x4 x6
    else
      if x3 = 0 then
        if x2 ≤ 0 then
          f_X11_orders_186 this k64 h x1 x2 x3 x4 x6
        else
          (gR h (some this) [11] 25).bind fun v173 =>
          (gR h (some this) [11] 26).bind fun v177 =>
          (aI h v177 (0 : Int32)).bind fun v181 =>
          (aI h v173 v181).bind fun v182 =>
          f_X11_orders_188 this k64 h x1 x2 x3 x6 v182
      else
        f_X11_orders_186 this k64 h x1 x2 x3 x4 x6
set_option maxRecDepth 100000 in
set_option maxHeartbeats 4000000 in
theorem t_X11_orders_159 (G : Gx) (l : Launch) (this : Nat) (k64 : Hp → Int32 → Int32 → Int32 → Int32 → Int32 → Option (Int32 × Hp)) (hk64 : ∀ (h : Hp) (x1 : Int32) (x2 : Int32) (x3 : Int32) (x4 : Int32) (x5 : Int32) (r : (Int32 × Hp)), k64 h x1 x2 x3 x4 x5 = some r → RJ G l M_X11_orders (some (vI r.1)) r.2 64 [(0, vR (some this)), (1, vI x1), (2, vI x2), (3, vI x3), (4, vI x4), (5, vI x5)] [] h) (h : Hp) (x1 : Int32) (x2 : Int32) (x3 : Int32) (x4 : Int32) (x6 : Int32) (r : (Int32 × Hp)) (hf : f_X11_orders_159 this k64 h x1 x2 x3 x4 x6 = some r) : RJ G l M_X11_orders (some (vI r.1)) r.2 159 [(0, vR (some this)), (1, vI x1), (2, vI x2), (3, vI x3), (4, vI x4), (6, vI x6)] [] h := by
  unfold f_X11_orders_159 at hf
  refine r_iload 5 dX11_orders_159 rfl ?_
  refine r_if_eq (tgt := 186) dX11_orders_161 (by decide) (fun c161 => ?_) (fun c161 => ?_)
  · replace hf := (if_pos c161).symm.trans hf
    exact r_sub [0, 1, 2, 3, 4, 5] rfl (t_X11_orders_186 G l _ k64 hk64 _ _ _ _ _ _ _ hf)
  · replace hf := (if_neg c161).symm.trans hf
    refine r_iload_n 3 dX11_orders_164 rfl ?_
    refine r_if_ne (tgt := 186) dX11_orders_165 (by decide) (fun c165 => ?_) (fun c165 => ?_)
    · replace hf := (if_pos c165).symm.trans hf
      refine r_iload_n 2 dX11_orders_168 rfl ?_
      refine r_if_le (tgt := 186) dX11_orders_169 (by decide) (fun c169 => ?_) (fun c169 => ?_)
      · replace hf := (if_pos c169).symm.trans hf
        exact r_sub [0, 1, 2, 3, 4, 5] rfl (t_X11_orders_186 G l _ k64 hk64 _ _ _ _ _ _ _ hf)
      · replace hf := (if_neg c169).symm.trans hf
        refine r_aload_n 0 dX11_orders_172 rfl ?_
        obtain ⟨v173, e173, hf⟩ := ob hf
        refine r_get dX11_orders_173 fl_11_25 kw_4_80 (Or.inl rfl) (gR_sp e173) ?_
        refine r_aload_n 0 dX11_orders_176 rfl ?_
        obtain ⟨v177, e177, hf⟩ := ob hf
        refine r_get dX11_orders_177 fl_11_26 kw_4_81 (Or.inl rfl) (gR_sp e177) ?_
        refine r_iconst (x := (0 : Int32)) dX11_orders_180 (by decide) ?_
        obtain ⟨v181, e181, hf⟩ := ob hf
        refine r_iaload dX11_orders_181 e181 ?_
        obtain ⟨v182, e182, hf⟩ := ob hf
        refine r_iaload dX11_orders_182 e182 ?_
        refine r_goto (tgt := 188) dX11_orders_183 (by decide) ?_
        exact r_sub [0, 1, 2, 3, 5] rfl (t_X11_orders_188 G l _ k64 hk64 _ _ _ _ _ _ _ hf)
    · replace hf := (if_neg c165).symm.trans hf
      exact r_sub [0, 1, 2, 3, 4, 5] rfl (t_X11_orders_186 G l _ k64 hk64 _ _ _ _ _ _ _ hf)
def f_X11_orders_79 (this : Nat) (k64 : Hp → Int32 → Int32 → Int32 → Int32 → Int32 → Option (Int32 × Hp)) : Nat → Hp → Int32 → Int32 → Int32 → Int32 → Int32 → Int32 → Option (Int32 × Hp)
  | 0, _, _, _, _, _, _, _ => none
  | n + 1, h, x1, x2, x3, x4, x6, x7 =>
    if x2 ≤ x7 then
      f_X11_orders_159 this k64 h x1 x2 x3 x4 x6
    else
      if x6 = 0 then
        f_X11_orders_159 this k64 h x1 x2 x3 x4 x6
      else
        (gR h (some this) [11] 25).bind fun v91 =>
        (gR h (some this) [11] 26).bind fun v95 =>
        (aI h v95 x7).bind fun v100 =>
        (aI h v91 v100).bind fun v101 =>
        (gI h (some this) [11] 0).bind fun v106 =>
        (gI h (some this) [11] 1).bind fun v110 =>
        (gR h (some this) [11] 4).bind fun v116 =>
        (rcv h (some this) 11).bind fun a122 =>
        (f_X11_builtAt h a122 v101).bind fun v122 =>
        (aI h v116 v122).bind fun v125 =>
        (rcv h (some this) 11).bind fun a126 =>
        (f_X11_buildLooked h a126 v106 v110 v101 v125).bind fun h126 =>
        (gR h126 (some this) [11] 7).bind fun v130 =>
        (aI h126 v130 v101).bind fun v135 =>
        (gR h126 (some this) [11] 5).bind fun v137 =>
        (aI h126 v137 v101).bind fun v142 =>
        if v135 = v142 then
          f_X11_orders_151 this k64 (f_X11_orders_79 this k64 n) h126 x1 x2 x3 x4 x7 (1 : Int32)
        else
          f_X11_orders_151 this k64 (f_X11_orders_79 this k64 n) h126 x1 x2 x3 x4 x7 (0 : Int32)
set_option maxRecDepth 100000 in
set_option maxHeartbeats 4000000 in
theorem t_X11_orders_79 (G : Gx) (l : Launch) (this : Nat) (k64 : Hp → Int32 → Int32 → Int32 → Int32 → Int32 → Option (Int32 × Hp)) (hk64 : ∀ (h : Hp) (x1 : Int32) (x2 : Int32) (x3 : Int32) (x4 : Int32) (x5 : Int32) (r : (Int32 × Hp)), k64 h x1 x2 x3 x4 x5 = some r → RJ G l M_X11_orders (some (vI r.1)) r.2 64 [(0, vR (some this)), (1, vI x1), (2, vI x2), (3, vI x3), (4, vI x4), (5, vI x5)] [] h) : ∀ (n : Nat) (h : Hp) (x1 : Int32) (x2 : Int32) (x3 : Int32) (x4 : Int32) (x6 : Int32) (x7 : Int32) (r : (Int32 × Hp)), f_X11_orders_79 this k64 n h x1 x2 x3 x4 x6 x7 = some r → RJ G l M_X11_orders (some (vI r.1)) r.2 79 [(0, vR (some this)), (1, vI x1), (2, vI x2), (3, vI x3), (4, vI x4), (6, vI x6), (7, vI x7)] [] h := by
  intro n
  induction n with
  | zero =>
    intro h x1 x2 x3 x4 x6 x7 r hf
    rw [f_X11_orders_79] at hf
    cases hf
  | succ n ih =>
    intro h x1 x2 x3 x4 x6 x7 r hf
    rw [f_X11_orders_79] at hf
    refine r_iload 6 dX11_orders_79 rfl ?_
    refine r_iload_n 2 dX11_orders_81 rfl ?_
    refine r_icmp_ge (tgt := 159) dX11_orders_82 (by decide) (fun c82 => ?_) (fun c82 => ?_)
    · replace hf := (if_pos c82).symm.trans hf
      exact r_sub [0, 1, 2, 3, 4, 5] rfl (t_X11_orders_159 G l _ k64 hk64 _ _ _ _ _ _ _ hf)
    · replace hf := (if_neg c82).symm.trans hf
      refine r_iload 5 dX11_orders_85 rfl ?_
      refine r_if_eq (tgt := 159) dX11_orders_87 (by decide) (fun c87 => ?_) (fun c87 => ?_)
      · replace hf := (if_pos c87).symm.trans hf
        exact r_sub [0, 1, 2, 3, 4, 5] rfl (t_X11_orders_159 G l _ k64 hk64 _ _ _ _ _ _ _ hf)
      · replace hf := (if_neg c87).symm.trans hf
        refine r_aload_n 0 dX11_orders_90 rfl ?_
        obtain ⟨v91, e91, hf⟩ := ob hf
        refine r_get dX11_orders_91 fl_11_25 kw_4_80 (Or.inl rfl) (gR_sp e91) ?_
        refine r_aload_n 0 dX11_orders_94 rfl ?_
        obtain ⟨v95, e95, hf⟩ := ob hf
        refine r_get dX11_orders_95 fl_11_26 kw_4_81 (Or.inl rfl) (gR_sp e95) ?_
        refine r_iload 6 dX11_orders_98 rfl ?_
        obtain ⟨v100, e100, hf⟩ := ob hf
        refine r_iaload dX11_orders_100 e100 ?_
        obtain ⟨v101, e101, hf⟩ := ob hf
        refine r_iaload dX11_orders_101 e101 ?_
        refine r_istore (lv' := [(8, vI v101), (0, vR (some this)), (1, vI x1), (2, vI x2), (3, vI x3), (4, vI x4), (6, vI x6), (7, vI x7)]) dX11_orders_102 (Nat.le_of_ble_eq_true rfl) rfl ?_
        refine r_aload_n 1 dX11_orders_104 rfl ?_
        refine r_aload_n 1 dX11_orders_105 rfl ?_
        obtain ⟨v106, e106, hf⟩ := ob hf
        refine r_get dX11_orders_106 fl_11_0 kw_4_55 (Or.inl rfl) (gI_sp e106) ?_
        refine r_aload_n 1 dX11_orders_109 rfl ?_
        obtain ⟨v110, e110, hf⟩ := ob hf
        refine r_get dX11_orders_110 fl_11_1 kw_4_56 (Or.inl rfl) (gI_sp e110) ?_
        refine r_pc (pc' := 113) rfl ?_
        refine r_iload 0 dX11_orders_113 rfl ?_
        refine r_aload_n 1 dX11_orders_115 rfl ?_
        obtain ⟨v116, e116, hf⟩ := ob hf
        refine r_get dX11_orders_116 fl_11_4 kw_4_59 (Or.inl rfl) (gR_sp e116) ?_
        refine r_aload_n 1 dX11_orders_119 rfl ?_
        refine r_iload 0 dX11_orders_120 rfl ?_
        obtain ⟨a122, ea122, hf⟩ := ob hf
        obtain ⟨v122, e122, hf⟩ := ob hf
        refine r_callV (y := yX11_builtAt) (ci := 11) (avs := [vI v101]) dX11_orders_122 rfl kw_5_37 kw_5_39 kw_0_31 kw_1_5 kw_5_40 oky_X11_builtAt ⟨Nat.le_of_ble_eq_true rfl, Nat.le_of_ble_eq_true rfl⟩ rfl (Nat.le_of_ble_eq_true rfl) ea122 (k_X11_builtAt G l e122) ?_
        obtain ⟨v125, e125, hf⟩ := ob hf
        refine r_iaload dX11_orders_125 e125 ?_
        obtain ⟨a126, ea126, hf⟩ := ob hf
        obtain ⟨h126, e126, hf⟩ := ob hf
        refine r_callV (y := yX11_buildLooked) (ci := 11) (avs := [vI v106, vI v110, vI v101, vI v125]) dX11_orders_126 rfl kw_5_102 kw_5_104 kw_0_37 kw_1_5 kw_5_105 oky_X11_buildLooked ⟨Nat.le_of_ble_eq_true rfl, Nat.le_of_ble_eq_true rfl⟩ rfl (Nat.le_of_ble_eq_true rfl) ea126 (k_X11_buildLooked G l e126) ?_
        refine r_aload_n 1 dX11_orders_129 rfl ?_
        obtain ⟨v130, e130, hf⟩ := ob hf
        refine r_get dX11_orders_130 fl_11_7 kw_4_62 (Or.inl rfl) (gR_sp e130) ?_
        refine r_iload 0 dX11_orders_133 rfl ?_
        obtain ⟨v135, e135, hf⟩ := ob hf
        refine r_iaload dX11_orders_135 e135 ?_
        refine r_aload_n 1 dX11_orders_136 rfl ?_
        obtain ⟨v137, e137, hf⟩ := ob hf
        refine r_get dX11_orders_137 fl_11_5 kw_4_60 (Or.inl rfl) (gR_sp e137) ?_
        refine r_pc (pc' := 140) rfl ?_
        refine r_iload 0 dX11_orders_140 rfl ?_
        obtain ⟨v142, e142, hf⟩ := ob hf
        refine r_iaload dX11_orders_142 e142 ?_
        refine r_icmp_ne (tgt := 150) dX11_orders_143 (by decide) (fun c143 => ?_) (fun c143 => ?_)
        · replace hf := (if_pos c143).symm.trans hf
          refine r_iconst (x := (1 : Int32)) dX11_orders_146 (by decide) ?_
          refine r_goto (tgt := 151) dX11_orders_147 (by decide) ?_
          exact r_sub [1, 2, 3, 4, 5, 7] rfl (t_X11_orders_151 G l _ k64 hk64 (f_X11_orders_79 this k64 n) ih _ _ _ _ _ _ _ _ hf)
        · replace hf := (if_neg c143).symm.trans hf
          refine r_iconst (x := (0 : Int32)) dX11_orders_150 (by decide) ?_
          exact r_sub [1, 2, 3, 4, 5, 7] rfl (t_X11_orders_151 G l _ k64 hk64 (f_X11_orders_79 this k64 n) ih _ _ _ _ _ _ _ _ hf)
def f_X11_orders_64 (this : Nat) : Nat → Hp → Int32 → Int32 → Int32 → Int32 → Int32 → Option (Int32 × Hp)
  | 0, _, _, _, _, _, _ => none
  | n + 1, h, x1, x2, x3, x4, x5 =>
    if x5 = 0 then
      if x1 = 0 then
        some (x3, h)
      else
        some (x4, h)
    else
      (rcv h (some this) 11).bind fun a70 =>
      (f_X11_lookEmpty h a70).bind fun h70 =>
      f_X11_orders_79 this (f_X11_orders_64 this n) 10000 h70 x1 x2 x3 x4 (1 : Int32) (0 : Int32)
set_option maxRecDepth 100000 in
set_option maxHeartbeats 4000000 in
theorem t_X11_orders_64 (G : Gx) (l : Launch) (this : Nat)  : ∀ (n : Nat) (h : Hp) (x1 : Int32) (x2 : Int32) (x3 : Int32) (x4 : Int32) (x5 : Int32) (r : (Int32 × Hp)), f_X11_orders_64 this n h x1 x2 x3 x4 x5 = some r → RJ G l M_X11_orders (some (vI r.1)) r.2 64 [(0, vR (some this)), (1, vI x1), (2, vI x2), (3, vI x3), (4, vI x4), (5, vI x5)] [] h := by
  intro n
  induction n with
  | zero =>
    intro h x1 x2 x3 x4 x5 r hf
    rw [f_X11_orders_64] at hf
    cases hf
  | succ n ih =>
    intro h x1 x2 x3 x4 x5 r hf
    rw [f_X11_orders_64] at hf
    refine r_iload 5 dX11_orders_64 rfl ?_
    refine r_if_eq (tgt := 213) dX11_orders_66 (by decide) (fun c66 => ?_) (fun c66 => ?_)
    · replace hf := (if_pos c66).symm.trans hf
      refine r_iload_n 1 dX11_orders_213 rfl ?_
      refine r_if_ne (tgt := 221) dX11_orders_214 (by decide) (fun c214 => ?_) (fun c214 => ?_)
      · replace hf := (if_pos c214).symm.trans hf
        refine r_iload_n 3 dX11_orders_217 rfl ?_
        refine r_goto (tgt := 223) dX11_orders_218 (by decide) ?_
        have hf := Option.some.inj hf
        subst hf
        exact r_iret rfl dX11_orders_223
      · replace hf := (if_neg c214).symm.trans hf
        refine r_iload 4 dX11_orders_221 rfl ?_
        have hf := Option.some.inj hf
        subst hf
        exact r_iret rfl dX11_orders_223
    · replace hf := (if_neg c66).symm.trans hf
      refine r_aload_n 0 dX11_orders_69 rfl ?_
      obtain ⟨a70, ea70, hf⟩ := ob hf
      obtain ⟨h70, e70, hf⟩ := ob hf
      refine r_callV (y := yX11_lookEmpty) (ci := 11) (avs := []) dX11_orders_70 rfl kw_4_216 kw_4_218 kw_0_24 kw_1_5 kw_4_219 oky_X11_lookEmpty ⟨Nat.le_of_ble_eq_true rfl, Nat.le_of_ble_eq_true rfl⟩ rfl (Nat.le_of_ble_eq_true rfl) ea70 (k_X11_lookEmpty G l e70) ?_
      refine r_iconst (x := (1 : Int32)) dX11_orders_73 (by decide) ?_
      refine r_istore (lv' := [(6, vI (1 : Int32)), (0, vR (some this)), (1, vI x1), (2, vI x2), (3, vI x3), (4, vI x4), (5, vI x5)]) dX11_orders_74 (Nat.le_of_ble_eq_true rfl) rfl ?_
      refine r_iconst (x := (0 : Int32)) dX11_orders_76 (by decide) ?_
      refine r_istore (lv' := [(7, vI (0 : Int32)), (6, vI (1 : Int32)), (0, vR (some this)), (1, vI x1), (2, vI x2), (3, vI x3), (4, vI x4), (5, vI x5)]) dX11_orders_77 (Nat.le_of_ble_eq_true rfl) rfl ?_
      exact r_sub [2, 3, 4, 5, 6, 1, 0] rfl (t_X11_orders_79 G l _ (f_X11_orders_64 this n) ih _ _ _ _ _ _ _ _ _ hf)
def f_X11_orders_40 (this : Nat) : Nat → Hp → Int32 → Int32 → Int32 → Int32 → Int32 → Option (Int32 × Hp)
  | 0, _, _, _, _, _, _ => none
  | n + 1, h, x1, x2, x3, x4, x5 =>
    if x2 ≤ x5 then
      f_X11_orders_64 this 10000 h x1 x2 x3 x4 (1 : Int32)
    else
      (gR h (some this) [11] 26).bind fun v47 =>
      (wI h v47 x5 x5).bind fun h54 =>
      (f_X11_orders_40 this n) h54 x1 x2 x3 x4 (x5 + 1)
set_option maxRecDepth 100000 in
set_option maxHeartbeats 4000000 in
theorem t_X11_orders_40 (G : Gx) (l : Launch) (this : Nat)  : ∀ (n : Nat) (h : Hp) (x1 : Int32) (x2 : Int32) (x3 : Int32) (x4 : Int32) (x5 : Int32) (r : (Int32 × Hp)), f_X11_orders_40 this n h x1 x2 x3 x4 x5 = some r → RJ G l M_X11_orders (some (vI r.1)) r.2 40 [(0, vR (some this)), (1, vI x1), (2, vI x2), (3, vI x3), (4, vI x4), (5, vI x5)] [] h := by
  intro n
  induction n with
  | zero =>
    intro h x1 x2 x3 x4 x5 r hf
    rw [f_X11_orders_40] at hf
    cases hf
  | succ n ih =>
    intro h x1 x2 x3 x4 x5 r hf
    rw [f_X11_orders_40] at hf
    refine r_iload 5 dX11_orders_40 rfl ?_
    refine r_iload_n 2 dX11_orders_42 rfl ?_
    refine r_icmp_ge (tgt := 61) dX11_orders_43 (by decide) (fun c43 => ?_) (fun c43 => ?_)
    · replace hf := (if_pos c43).symm.trans hf
      refine r_iconst (x := (1 : Int32)) dX11_orders_61 (by decide) ?_
      refine r_istore (lv' := [(5, vI (1 : Int32)), (0, vR (some this)), (1, vI x1), (2, vI x2), (3, vI x3), (4, vI x4)]) dX11_orders_62 (Nat.le_of_ble_eq_true rfl) rfl ?_
      exact r_sub [1, 2, 3, 4, 5, 0] rfl (t_X11_orders_64 G l _ _ _ _ _ _ _ _ _ hf)
    · replace hf := (if_neg c43).symm.trans hf
      refine r_aload_n 0 dX11_orders_46 rfl ?_
      obtain ⟨v47, e47, hf⟩ := ob hf
      refine r_get dX11_orders_47 fl_11_26 kw_4_81 (Or.inl rfl) (gR_sp e47) ?_
      refine r_iload 5 dX11_orders_50 rfl ?_
      refine r_iload 5 dX11_orders_52 rfl ?_
      obtain ⟨h54, e54, hf⟩ := ob hf
      refine r_iastore dX11_orders_54 e54 ?_
      refine r_iinc (y := (x5 + 1)) (lv' := [(5, vI (x5 + 1)), (0, vR (some this)), (1, vI x1), (2, vI x2), (3, vI x3), (4, vI x4)]) 5 dX11_orders_55 rfl rfl (Nat.le_of_ble_eq_true rfl) rfl ?_
      refine r_goto (tgt := 40) dX11_orders_58 (by decide) ?_
      exact r_sub [1, 2, 3, 4, 5, 0] rfl (ih _ _ _ _ _ _ _ hf)
def f_X11_orders (h : Hp) (this : Nat) (x1 : Int32) : Option (Int32 × Hp) :=
    (pF h (some this) [11] 6 (vI (0 : Int32))).bind fun h2 =>
    (f_X11_in h2 x1.toInt64 (0 : Int64) (1 : Int64)).bind fun v9 =>
    if v9 = 0 then
      some ((-1 : Int32), h2)
    else
      (rcv h2 (some this) 11).bind fun a18 =>
      (f_X11_houseMany h2 a18).bind fun q18 =>
      if q18.1 ≤ (7 : Int32) then
        f_X11_orders_40 this 10000 q18.2 x1 q18.1 (0 : Int32) (-4 : Int32) (0 : Int32)
      else
        some ((-2 : Int32), q18.2)
set_option maxRecDepth 100000 in
set_option maxHeartbeats 4000000 in
theorem k_X11_orders (G : Gx) (l : Launch) {h : Hp} {this : Nat} {x1 : Int32} {r : (Int32 × Hp)} (hf : f_X11_orders h this x1 = some r) : KM l yX11_orders (.code yX11_orders cX11_orders 9 (some .int) :: wsK) 4 94 G [vR (some this), vI x1] h (some (vI r.1)) r.2 := by
  refine r_entry (ctor := false) (own := RX11) (by decide +kernel) rfl (fun q => by cases q) (Nat.le_of_ble_eq_true rfl) ?_
  show RJ G l M_X11_orders (some (vI r.1)) r.2 0 [(0, vR (some this)), (1, vI x1)] [] h
  unfold f_X11_orders at hf
  refine r_aload_n 0 dX11_orders_0 rfl ?_
  refine r_iconst (x := (0 : Int32)) dX11_orders_1 (by decide) ?_
  obtain ⟨h2, e2, hf⟩ := ob hf
  refine r_put dX11_orders_2 fl_11_6 kw_4_61 (Or.inl rfl) (by decide +kernel) (fit_int _) e2 ?_
  refine r_iload_n 1 dX11_orders_5 rfl ?_
  refine r_i2l dX11_orders_6 ?_
  refine r_lconst (x := (0 : Int64)) dX11_orders_7 (by decide) ?_
  refine r_lconst (x := (1 : Int64)) dX11_orders_8 (by decide) ?_
  obtain ⟨v9, e9, hf⟩ := ob hf
  refine r_callS (y := yX11_in) (avs := [vL x1.toInt64, vL (0 : Int64), vL (1 : Int64)]) dX11_orders_9 kw_4_179 kw_4_180 kw_1_5 kw_4_181 oky_X11_in ⟨Nat.le_of_ble_eq_true rfl, Nat.le_of_ble_eq_true rfl⟩ rfl (Nat.le_of_ble_eq_true rfl) (k_X11_in G l e9) ?_
  refine r_if_ne (tgt := 17) dX11_orders_12 (by decide) (fun c12 => ?_) (fun c12 => ?_)
  · replace hf := (if_pos c12).symm.trans hf
    refine r_iconst (x := (-1 : Int32)) dX11_orders_15 (by decide) ?_
    have hf := Option.some.inj hf
    subst hf
    exact r_iret rfl dX11_orders_16
  · replace hf := (if_neg c12).symm.trans hf
    refine r_aload_n 0 dX11_orders_17 rfl ?_
    obtain ⟨a18, ea18, hf⟩ := ob hf
    obtain ⟨q18, e18, hf⟩ := ob hf
    refine r_callV (y := yX11_houseMany) (ci := 11) (avs := []) dX11_orders_18 rfl kw_5_118 kw_5_120 kw_0_39 kw_1_5 kw_5_121 oky_X11_houseMany ⟨Nat.le_of_ble_eq_true rfl, Nat.le_of_ble_eq_true rfl⟩ rfl (Nat.le_of_ble_eq_true rfl) ea18 (k_X11_houseMany G l e18) ?_
    refine r_istore_n (lv' := [(2, vI q18.1), (0, vR (some this)), (1, vI x1)]) dX11_orders_21 (Nat.le_of_ble_eq_true rfl) rfl ?_
    refine r_iload_n 0 dX11_orders_22 rfl ?_
    refine r_bipush (x := (7 : Int32)) dX11_orders_23 (by decide) ?_
    refine r_icmp_le (tgt := 31) dX11_orders_25 (by decide) (fun c25 => ?_) (fun c25 => ?_)
    · replace hf := (if_pos c25).symm.trans hf
      refine r_iconst (x := (0 : Int32)) dX11_orders_31 (by decide) ?_
      refine r_istore_n (lv' := [(3, vI (0 : Int32)), (2, vI q18.1), (0, vR (some this)), (1, vI x1)]) dX11_orders_32 (Nat.le_of_ble_eq_true rfl) rfl ?_
      refine r_bipush (x := (-4 : Int32)) dX11_orders_33 (by decide) ?_
      refine r_istore (lv' := [(4, vI (-4 : Int32)), (3, vI (0 : Int32)), (2, vI q18.1), (0, vR (some this)), (1, vI x1)]) dX11_orders_35 (Nat.le_of_ble_eq_true rfl) rfl ?_
      refine r_iconst (x := (0 : Int32)) dX11_orders_37 (by decide) ?_
      refine r_istore (lv' := [(5, vI (0 : Int32)), (4, vI (-4 : Int32)), (3, vI (0 : Int32)), (2, vI q18.1), (0, vR (some this)), (1, vI x1)]) dX11_orders_38 (Nat.le_of_ble_eq_true rfl) rfl ?_
      exact r_sub [4, 5, 3, 2, 1, 0] rfl (t_X11_orders_40 G l _ _ _ _ _ _ _ _ _ hf)
    · replace hf := (if_neg c25).symm.trans hf
      refine r_bipush (x := (-2 : Int32)) dX11_orders_28 (by decide) ?_
      have hf := Option.some.inj hf
      subst hf
      exact r_iret rfl dX11_orders_30
/-! ===== NumberedByAgeModel.put(III)I ===== -/
abbrev M_X11_put : Mx := (cX11_put, 5, RX11, (false, []), (some .int), 2, 46)
def f_X11_put (h : Hp) (this : Nat) (x1 : Int32) (x2 : Int32) (x3 : Int32) : Option (Int32 × Hp) :=
    (pF h (some this) [11] 6 (vI (0 : Int32))).bind fun h2 =>
    (rcv h2 (some this) 11).bind fun a7 =>
    (f_X11_wrongRow h2 a7 x1).bind fun v7 =>
    if 0 ≤ v7 then
      (gR h2 (some this) [11] 32).bind fun v24 =>
      (aI h2 v24 x1).bind fun v28 =>
      (f_X11_in h2 x2.toInt64 (0 : Int64) (v28 - (1 : Int32)).toInt64).bind fun v32 =>
      if v32 = 0 then
        some ((-13 : Int32), h2)
      else
        (gR h2 (some this) [11] 33).bind fun v42 =>
        (gR h2 (some this) [11] 31).bind fun v53 =>
        (aI h2 v53 x1).bind fun v57 =>
        (f_X11_narrowed h2 x3 v57).bind fun v58 =>
        (wL h2 v42 (((100 : Int32) * x1) + x2) v58).bind fun h61 =>
        some ((0 : Int32), h61)
    else
      some (v7, h2)
set_option maxRecDepth 100000 in
set_option maxHeartbeats 4000000 in
theorem k_X11_put (G : Gx) (l : Launch) {h : Hp} {this : Nat} {x1 : Int32} {x2 : Int32} {x3 : Int32} {r : (Int32 × Hp)} (hf : f_X11_put h this x1 x2 x3 = some r) : KM l yX11_put (.code yX11_put cX11_put 5 (some .int) :: wsK) 2 46 G [vR (some this), vI x1, vI x2, vI x3] h (some (vI r.1)) r.2 := by
  refine r_entry (ctor := false) (own := RX11) (by decide +kernel) rfl (fun q => by cases q) (Nat.le_of_ble_eq_true rfl) ?_
  show RJ G l M_X11_put (some (vI r.1)) r.2 0 [(0, vR (some this)), (1, vI x1), (2, vI x2), (3, vI x3)] [] h
  unfold f_X11_put at hf
  refine r_aload_n 0 dX11_put_0 rfl ?_
  refine r_iconst (x := (0 : Int32)) dX11_put_1 (by decide) ?_
  obtain ⟨h2, e2, hf⟩ := ob hf
  refine r_put dX11_put_2 fl_11_6 kw_4_61 (Or.inl rfl) (by decide +kernel) (fit_int _) e2 ?_
  refine r_aload_n 0 dX11_put_5 rfl ?_
  refine r_iload_n 1 dX11_put_6 rfl ?_
  obtain ⟨a7, ea7, hf⟩ := ob hf
  obtain ⟨v7, e7, hf⟩ := ob hf
  refine r_callV (y := yX11_wrongRow) (ci := 11) (avs := [vI x1]) dX11_put_7 rfl kw_4_174 kw_4_176 kw_0_15 kw_1_5 kw_4_177 oky_X11_wrongRow ⟨Nat.le_of_ble_eq_true rfl, Nat.le_of_ble_eq_true rfl⟩ rfl (Nat.le_of_ble_eq_true rfl) ea7 (k_X11_wrongRow G l e7) ?_
  refine r_istore (lv' := [(4, vI v7), (0, vR (some this)), (1, vI x1), (2, vI x2), (3, vI x3)]) dX11_put_10 (Nat.le_of_ble_eq_true rfl) rfl ?_
  refine r_iload 0 dX11_put_12 rfl ?_
  refine r_if_ge (tgt := 20) dX11_put_14 (by decide) (fun c14 => ?_) (fun c14 => ?_)
  · replace hf := (if_pos c14).symm.trans hf
    refine r_iload_n 3 dX11_put_20 rfl ?_
    refine r_i2l dX11_put_21 ?_
    refine r_lconst (x := (0 : Int64)) dX11_put_22 (by decide) ?_
    refine r_aload_n 1 dX11_put_23 rfl ?_
    obtain ⟨v24, e24, hf⟩ := ob hf
    refine r_get dX11_put_24 fl_11_32 kw_4_87 (Or.inl rfl) (gR_sp e24) ?_
    refine r_iload_n 2 dX11_put_27 rfl ?_
    obtain ⟨v28, e28, hf⟩ := ob hf
    refine r_iaload dX11_put_28 e28 ?_
    refine r_iconst (x := (1 : Int32)) dX11_put_29 (by decide) ?_
    refine r_isub dX11_put_30 ?_
    refine r_i2l dX11_put_31 ?_
    obtain ⟨v32, e32, hf⟩ := ob hf
    refine r_callS (y := yX11_in) (avs := [vL x2.toInt64, vL (0 : Int64), vL (v28 - (1 : Int32)).toInt64]) dX11_put_32 kw_4_179 kw_4_180 kw_1_5 kw_4_181 oky_X11_in ⟨Nat.le_of_ble_eq_true rfl, Nat.le_of_ble_eq_true rfl⟩ rfl (Nat.le_of_ble_eq_true rfl) (k_X11_in G l e32) ?_
    refine r_if_ne (tgt := 41) dX11_put_35 (by decide) (fun c35 => ?_) (fun c35 => ?_)
    · replace hf := (if_pos c35).symm.trans hf
      refine r_bipush (x := (-13 : Int32)) dX11_put_38 (by decide) ?_
      have hf := Option.some.inj hf
      subst hf
      exact r_iret rfl dX11_put_40
    · replace hf := (if_neg c35).symm.trans hf
      refine r_aload_n 1 dX11_put_41 rfl ?_
      obtain ⟨v42, e42, hf⟩ := ob hf
      refine r_get dX11_put_42 fl_11_33 kw_4_88 (Or.inl rfl) (gR_sp e42) ?_
      refine r_bipush (x := (100 : Int32)) dX11_put_45 (by decide) ?_
      refine r_iload_n 2 dX11_put_47 rfl ?_
      refine r_imul dX11_put_48 ?_
      refine r_iload_n 3 dX11_put_49 rfl ?_
      refine r_iadd dX11_put_50 ?_
      refine r_iload_n 4 dX11_put_51 rfl ?_
      refine r_aload_n 1 dX11_put_52 rfl ?_
      obtain ⟨v53, e53, hf⟩ := ob hf
      refine r_get dX11_put_53 fl_11_31 kw_4_86 (Or.inl rfl) (gR_sp e53) ?_
      refine r_iload_n 2 dX11_put_56 rfl ?_
      obtain ⟨v57, e57, hf⟩ := ob hf
      refine r_iaload dX11_put_57 e57 ?_
      obtain ⟨v58, e58, hf⟩ := ob hf
      refine r_callS (y := yX11_narrowed) (avs := [vI x3, vI v57]) dX11_put_58 kw_5_174 kw_5_175 kw_1_5 kw_5_176 oky_X11_narrowed ⟨Nat.le_of_ble_eq_true rfl, Nat.le_of_ble_eq_true rfl⟩ rfl (Nat.le_of_ble_eq_true rfl) (k_X11_narrowed G l e58) ?_
      refine r_pc (pc' := 61) rfl ?_
      obtain ⟨h61, e61, hf⟩ := ob hf
      refine r_lastore dX11_put_61 e61 ?_
      refine r_iconst (x := (0 : Int32)) dX11_put_62 (by decide) ?_
      have hf := Option.some.inj hf
      subst hf
      exact r_iret rfl dX11_put_63
  · replace hf := (if_neg c14).symm.trans hf
    refine r_iload 0 dX11_put_17 rfl ?_
    have hf := Option.some.inj hf
    subst hf
    exact r_iret rfl dX11_put_19
/-! ===== NumberedByAgeModel.readDigit()I ===== -/
abbrev M_X11_readDigit : Mx := (cX11_readDigit, 1, RX11, (false, []), (some .int), 1, 25)
def f_X11_readDigit_30 (this : Nat) (h : Hp) (s0 : Int32) (s1 : Option Nat) : Option (Int32 × Hp) :=
    (okZ s0).bind fun z30 =>
    (pF h s1 [11] 12 (vI s0)).bind fun h30 =>
    (gI h30 (some this) [11] 12).bind fun v34 =>
    if v34 = 0 then
      (gI h30 (some this) [11] 11).bind fun v44 =>
      (pF h30 (some this) [11] 11 (vI (v44 + (1 : Int32)))).bind fun h49 =>
      (gR h49 (some this) [11] 33).bind fun v53 =>
      (gI h49 (some this) [11] 9).bind fun v57 =>
      (gI h49 (some this) [11] 11).bind fun v61 =>
      (aL h49 v53 ((v57 + v61) - (1 : Int32))).bind fun v67 =>
      some ((v67.toInt32 - (48 : Int32)), h49)
    else
      some ((0 : Int32), h30)
set_option maxRecDepth 100000 in
set_option maxHeartbeats 4000000 in
theorem t_X11_readDigit_30 (G : Gx) (l : Launch) (this : Nat)  (h : Hp) (s0 : Int32) (s1 : Option Nat) (r : (Int32 × Hp)) (hf : f_X11_readDigit_30 this h s0 s1 = some r) : RJ G l M_X11_readDigit (some (vI r.1)) r.2 30 [(0, vR (some this))] [vI s0, vR s1] h := by
  unfold f_X11_readDigit_30 at hf
  obtain ⟨z30, ez30, hf⟩ := ob hf
  obtain ⟨-, ew30⟩ := okZ_sp ez30
  obtain ⟨h30, e30, hf⟩ := ob hf
  refine r_put dX11_readDigit_30 fl_11_12 kw_4_67 (Or.inl rfl) (by decide +kernel) (fit_bool ew30) e30 ?_
  refine r_aload_n 0 dX11_readDigit_33 rfl ?_
  obtain ⟨v34, e34, hf⟩ := ob hf
  refine r_get dX11_readDigit_34 fl_11_12 kw_4_67 (Or.inl rfl) (gI_sp e34) ?_
  refine r_if_eq (tgt := 42) dX11_readDigit_37 (by decide) (fun c37 => ?_) (fun c37 => ?_)
  · replace hf := (if_pos c37).symm.trans hf
    refine r_aload_n 0 dX11_readDigit_42 rfl ?_
    refine r_dup dX11_readDigit_43 rfl ?_
    obtain ⟨v44, e44, hf⟩ := ob hf
    refine r_get dX11_readDigit_44 fl_11_11 kw_4_66 (Or.inl rfl) (gI_sp e44) ?_
    refine r_iconst (x := (1 : Int32)) dX11_readDigit_47 (by decide) ?_
    refine r_iadd dX11_readDigit_48 ?_
    obtain ⟨h49, e49, hf⟩ := ob hf
    refine r_put dX11_readDigit_49 fl_11_11 kw_4_66 (Or.inl rfl) (by decide +kernel) (fit_int _) e49 ?_
    refine r_aload_n 0 dX11_readDigit_52 rfl ?_
    obtain ⟨v53, e53, hf⟩ := ob hf
    refine r_get dX11_readDigit_53 fl_11_33 kw_4_88 (Or.inl rfl) (gR_sp e53) ?_
    refine r_aload_n 0 dX11_readDigit_56 rfl ?_
    obtain ⟨v57, e57, hf⟩ := ob hf
    refine r_get dX11_readDigit_57 fl_11_9 kw_4_64 (Or.inl rfl) (gI_sp e57) ?_
    refine r_aload_n 0 dX11_readDigit_60 rfl ?_
    obtain ⟨v61, e61, hf⟩ := ob hf
    refine r_get dX11_readDigit_61 fl_11_11 kw_4_66 (Or.inl rfl) (gI_sp e61) ?_
    refine r_iadd dX11_readDigit_64 ?_
    refine r_pc (pc' := 65) rfl ?_
    refine r_iconst (x := (1 : Int32)) dX11_readDigit_65 (by decide) ?_
    refine r_isub dX11_readDigit_66 ?_
    obtain ⟨v67, e67, hf⟩ := ob hf
    refine r_laload dX11_readDigit_67 e67 ?_
    refine r_l2i dX11_readDigit_68 ?_
    refine r_bipush (x := (48 : Int32)) dX11_readDigit_69 (by decide) ?_
    refine r_isub dX11_readDigit_71 ?_
    have hf := Option.some.inj hf
    subst hf
    exact r_iret rfl dX11_readDigit_72
  · replace hf := (if_neg c37).symm.trans hf
    refine r_iconst (x := (0 : Int32)) dX11_readDigit_40 (by decide) ?_
    have hf := Option.some.inj hf
    subst hf
    exact r_iret rfl dX11_readDigit_41
def f_X11_readDigit_25 (this : Nat) (h : Hp) (s0 : Option Nat) : Option (Int32 × Hp) :=
    f_X11_readDigit_30 this h (1 : Int32) s0
set_option maxRecDepth 100000 in
set_option maxHeartbeats 4000000 in
theorem t_X11_readDigit_25 (G : Gx) (l : Launch) (this : Nat)  (h : Hp) (s0 : Option Nat) (r : (Int32 × Hp)) (hf : f_X11_readDigit_25 this h s0 = some r) : RJ G l M_X11_readDigit (some (vI r.1)) r.2 25 [(0, vR (some this))] [vR s0] h := by
  unfold f_X11_readDigit_25 at hf
  refine r_iconst (x := (1 : Int32)) dX11_readDigit_25 (by decide) ?_
  refine r_goto (tgt := 30) dX11_readDigit_26 (by decide) ?_
  exact r_sub [0] rfl (t_X11_readDigit_30 G l _ _ _ _ _ hf)
def f_X11_readDigit (h : Hp) (this : Nat) : Option (Int32 × Hp) :=
    (gI h (some this) [11] 12).bind fun v2 =>
    if v2 = 0 then
      (rcv h (some this) 11).bind fun a9 =>
      (f_X11_here h a9).bind fun v9 =>
      (f_X11_in h v9.toInt64 (48 : Int64) (57 : Int64)).bind fun v19 =>
      if v19 = 0 then
        f_X11_readDigit_25 this h (some this)
      else
        f_X11_readDigit_30 this h (0 : Int32) (some this)
    else
      f_X11_readDigit_25 this h (some this)
set_option maxRecDepth 100000 in
set_option maxHeartbeats 4000000 in
theorem k_X11_readDigit (G : Gx) (l : Launch) {h : Hp} {this : Nat} {r : (Int32 × Hp)} (hf : f_X11_readDigit h this = some r) : KM l yX11_readDigit (.code yX11_readDigit cX11_readDigit 1 (some .int) :: wsK) 1 25 G [vR (some this)] h (some (vI r.1)) r.2 := by
  refine r_entry (ctor := false) (own := RX11) (by decide +kernel) rfl (fun q => by cases q) (Nat.le_of_ble_eq_true rfl) ?_
  show RJ G l M_X11_readDigit (some (vI r.1)) r.2 0 [(0, vR (some this))] [] h
  unfold f_X11_readDigit at hf
  refine r_aload_n 0 dX11_readDigit_0 rfl ?_
  refine r_aload_n 0 dX11_readDigit_1 rfl ?_
  obtain ⟨v2, e2, hf⟩ := ob hf
  refine r_get dX11_readDigit_2 fl_11_12 kw_4_67 (Or.inl rfl) (gI_sp e2) ?_
  refine r_if_ne (tgt := 25) dX11_readDigit_5 (by decide) (fun c5 => ?_) (fun c5 => ?_)
  · replace hf := (if_pos c5).symm.trans hf
    refine r_aload_n 0 dX11_readDigit_8 rfl ?_
    obtain ⟨a9, ea9, hf⟩ := ob hf
    obtain ⟨v9, e9, hf⟩ := ob hf
    refine r_callV (y := yX11_here) (ci := 11) (avs := []) dX11_readDigit_9 rfl kw_4_186 kw_4_188 kw_0_17 kw_1_5 kw_4_189 oky_X11_here ⟨Nat.le_of_ble_eq_true rfl, Nat.le_of_ble_eq_true rfl⟩ rfl (Nat.le_of_ble_eq_true rfl) ea9 (k_X11_here G l e9) ?_
    refine r_i2l dX11_readDigit_12 ?_
    refine r_ldc2 (x := (48 : Int64)) dX11_readDigit_13 kw_4_194 ?_
    refine r_ldc2 (x := (57 : Int64)) dX11_readDigit_16 kw_4_195 ?_
    obtain ⟨v19, e19, hf⟩ := ob hf
    refine r_callS (y := yX11_in) (avs := [vL v9.toInt64, vL (48 : Int64), vL (57 : Int64)]) dX11_readDigit_19 kw_4_179 kw_4_180 kw_1_5 kw_4_181 oky_X11_in ⟨Nat.le_of_ble_eq_true rfl, Nat.le_of_ble_eq_true rfl⟩ rfl (Nat.le_of_ble_eq_true rfl) (k_X11_in G l e19) ?_
    refine r_if_ne (tgt := 29) dX11_readDigit_22 (by decide) (fun c22 => ?_) (fun c22 => ?_)
    · replace hf := (if_pos c22).symm.trans hf
      exact r_sub [0] rfl (t_X11_readDigit_25 G l _ _ _ _ hf)
    · replace hf := (if_neg c22).symm.trans hf
      refine r_iconst (x := (0 : Int32)) dX11_readDigit_29 (by decide) ?_
      exact r_sub [0] rfl (t_X11_readDigit_30 G l _ _ _ _ _ hf)
  · replace hf := (if_neg c5).symm.trans hf
    exact r_sub [0] rfl (t_X11_readDigit_25 G l _ _ _ _ hf)
