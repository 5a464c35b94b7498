/-! ===== NumberedByAgeModel.search(II)I ===== -/
abbrev M_X11_search : Mx := (cX11_search, 10, RX11, (false, []), (some .int), 3, 68)
def f_X11_search_167 (this : Nat) (k68 : Hp → Int32 → Int32 → Int32 → Int32 → Int32 → Int32 → Int32 → Option (Int32 × Hp)) (h : Hp) (x1 : Int32) (x4 : Int32) (x6 : Int32) (x7 : Int32) (x8 : Int32) (x9 : Int32) (s0 : Int32) : Option (Int32 × Hp) :=
    k68 h x1 x4 s0 x6 x7 x8 (x9 + 1)
set_option maxRecDepth 100000 in
set_option maxHeartbeats 4000000 in
theorem t_X11_search_167 (G : Gx) (l : Launch) (this : Nat) (k68 : Hp → Int32 → Int32 → Int32 → Int32 → Int32 → Int32 → Int32 → Option (Int32 × Hp)) (hk68 : ∀ (h : Hp) (x1 : Int32) (x4 : Int32) (x5 : Int32) (x6 : Int32) (x7 : Int32) (x8 : Int32) (x9 : Int32) (r : (Int32 × Hp)), k68 h x1 x4 x5 x6 x7 x8 x9 = some r → RJ G l M_X11_search (some (vI r.1)) r.2 68 [(0, vR (some this)), (1, vI x1), (4, vI x4), (5, vI x5), (6, vI x6), (7, vI x7), (8, vI x8), (9, vI x9)] [] h) (h : Hp) (x1 : Int32) (x4 : Int32) (x6 : Int32) (x7 : Int32) (x8 : Int32) (x9 : Int32) (s0 : Int32) (r : (Int32 × Hp)) (hf : f_X11_search_167 this k68 h x1 x4 x6 x7 x8 x9 s0 = some r) : RJ G l M_X11_search (some (vI r.1)) r.2 167 [(0, vR (some this)), (1, vI x1), (4, vI x4), (6, vI x6), (7, vI x7), (8, vI x8), (9, vI x9)] [vI s0] h := by
  unfold f_X11_search_167 at hf
  refine r_istore (lv' := [(5, vI s0), (0, vR (some this)), (1, vI x1), (4, vI x4), (6, vI x6), (7, vI x7), (8, vI x8), (9, vI x9)]) dX11_search_167 (Nat.le_of_ble_eq_true rfl) rfl ?_
  refine r_iinc (y := (x9 + 1)) (lv' := [(9, vI (x9 + 1)), (5, vI s0), (0, vR (some this)), (1, vI x1), (4, vI x4), (6, vI x6), (7, vI x7), (8, vI x8)]) 7 dX11_search_169 rfl rfl (Nat.le_of_ble_eq_true rfl) rfl ?_
  refine r_goto (tgt := 68) dX11_search_172 (by decide) ?_
  exact r_sub [2, 3, 4, 1, 5, 6, 7, 0] rfl (hk68 _ _ _ _ _ _ _ _ _ hf)
def f_X11_search_151 (this : Nat) (k68 : Hp → Int32 → Int32 → Int32 → Int32 → Int32 → Int32 → Int32 → Option (Int32 × Hp)) (h : Hp) (x1 : Int32) (x5 : Int32) (x6 : Int32) (x7 : Int32) (x8 : Int32) (x9 : Int32) (s0 : Int32) : Option (Int32 × Hp) :=
    if x6 ≤ x5 then
      f_X11_search_167 this k68 h x1 s0 x6 x7 x8 x9 x5
    else
      f_X11_search_167 this k68 h x1 s0 x6 x7 x8 x9 x6
set_option maxRecDepth 100000 in
set_option maxHeartbeats 4000000 in
theorem t_X11_search_151 (G : Gx) (l : Launch) (this : Nat) (k68 : Hp → Int32 → Int32 → Int32 → Int32 → Int32 → Int32 → Int32 → Option (Int32 × Hp)) (hk68 : ∀ (h : Hp) (x1 : Int32) (x4 : Int32) (x5 : Int32) (x6 : Int32) (x7 : Int32) (x8 : Int32) (x9 : Int32) (r : (Int32 × Hp)), k68 h x1 x4 x5 x6 x7 x8 x9 = some r → RJ G l M_X11_search (some (vI r.1)) r.2 68 [(0, vR (some this)), (1, vI x1), (4, vI x4), (5, vI x5), (6, vI x6), (7, vI x7), (8, vI x8), (9, vI x9)] [] h) (h : Hp) (x1 : Int32) (x5 : Int32) (x6 : Int32) (x7 : Int32) (x8 : Int32) (x9 : Int32) (s0 : Int32) (r : (Int32 × Hp)) (hf : f_X11_search_151 this k68 h x1 x5 x6 x7 x8 x9 s0 = some r) : RJ G l M_X11_search (some (vI r.1)) r.2 151 [(0, vR (some this)), (1, vI x1), (5, vI x5), (6, vI x6), (7, vI x7), (8, vI x8), (9, vI x9)] [vI s0] h := by
  unfold f_X11_search_151 at hf
  refine r_istore (lv' := [(4, vI s0), (0, vR (some this)), (1, vI x1), (5, vI x5), (6, vI x6), (7, vI x7), (8, vI x8), (9, vI x9)]) dX11_search_151 (Nat.le_of_ble_eq_true rfl) rfl ?_
  refine r_iload 4 dX11_search_153 rfl ?_
  refine r_iload 3 dX11_search_155 rfl ?_
  refine r_icmp_le (tgt := 165) dX11_search_157 (by decide) (fun c157 => ?_) (fun c157 => ?_)
  · replace hf := (if_pos c157).symm.trans hf
    refine r_iload 3 dX11_search_165 rfl ?_
    exact r_sub [1, 2, 0, 4, 5, 6, 7] rfl (t_X11_search_167 G l _ k68 hk68 _ _ _ _ _ _ _ _ _ hf)
  · replace hf := (if_neg c157).symm.trans hf
    refine r_iload 4 dX11_search_160 rfl ?_
    refine r_goto (tgt := 167) dX11_search_162 (by decide) ?_
    exact r_sub [1, 2, 0, 4, 5, 6, 7] rfl (t_X11_search_167 G l _ k68 hk68 _ _ _ _ _ _ _ _ _ hf)
def f_X11_search_117 (this : Nat) (k68 : Hp → Int32 → Int32 → Int32 → Int32 → Int32 → Int32 → Int32 → Option (Int32 × Hp)) (h : Hp) (x1 : Int32) (x4 : Int32) (x5 : Int32) (x6 : Int32) (x7 : Int32) (x9 : Int32) (s0 : Int32) : Option (Int32 × Hp) :=
    (f_X11_isPlot h (x6 + x7)).bind fun v128 =>
    if v128 = 0 then
      some ((-4 : Int32), h)
    else
      if x4 ≤ (x6 + x7) then
        f_X11_search_151 this k68 h x1 x5 (x6 + x7) x7 s0 x9 x4
      else
        f_X11_search_151 this k68 h x1 x5 (x6 + x7) x7 s0 x9 (x6 + x7)
set_option maxRecDepth 100000 in
set_option maxHeartbeats 4000000 in
theorem t_X11_search_117 (G : Gx) (l : Launch) (this : Nat) (k68 : Hp → Int32 → Int32 → Int32 → Int32 → Int32 → Int32 → Int32 → Option (Int32 × Hp)) (hk68 : ∀ (h : Hp) (x1 : Int32) (x4 : Int32) (x5 : Int32) (x6 : Int32) (x7 : Int32) (x8 : Int32) (x9 : Int32) (r : (Int32 × Hp)), k68 h x1 x4 x5 x6 x7 x8 x9 = some r → RJ G l M_X11_search (some (vI r.1)) r.2 68 [(0, vR (some this)), (1, vI x1), (4, vI x4), (5, vI x5), (6, vI x6), (7, vI x7), (8, vI x8), (9, vI x9)] [] h) (h : Hp) (x1 : Int32) (x4 : Int32) (x5 : Int32) (x6 : Int32) (x7 : Int32) (x9 : Int32) (s0 : Int32) (r : (Int32 × Hp)) (hf : f_X11_search_117 this k68 h x1 x4 x5 x6 x7 x9 s0 = some r) : RJ G l M_X11_search (some (vI r.1)) r.2 117 [(0, vR (some this)), (1, vI x1), (4, vI x4), (5, vI x5), (6, vI x6), (7, vI x7), (9, vI x9)] [vI s0] h := by
  unfold f_X11_search_117 at hf
  refine r_istore (lv' := [(8, vI s0), (0, vR (some this)), (1, vI x1), (4, vI x4), (5, vI x5), (6, vI x6), (7, vI x7), (9, vI x9)]) dX11_search_117 (Nat.le_of_ble_eq_true rfl) rfl ?_
  refine r_iload 5 dX11_search_119 rfl ?_
  refine r_iload 6 dX11_search_121 rfl ?_
  refine r_iadd dX11_search_123 ?_
  refine r_istore (lv' := [(6, vI (x6 + x7)), (8, vI s0), (0, vR (some this)), (1, vI x1), (4, vI x4), (5, vI x5), (7, vI x7), (9, vI x9)]) dX11_search_124 (Nat.le_of_ble_eq_true rfl) rfl ?_
  refine r_iload 0 dX11_search_126 rfl ?_
  obtain ⟨v128, e128, hf⟩ := ob hf
  refine r_callS (y := yX11_isPlot) (avs := [vI (x6 + x7)]) dX11_search_128 kw_5_15 kw_5_16 kw_1_5 kw_5_17 oky_X11_isPlot ⟨Nat.le_of_ble_eq_true rfl, Nat.le_of_ble_eq_true rfl⟩ rfl (Nat.le_of_ble_eq_true rfl) (k_X11_isPlot G l e128) ?_
  refine r_if_ne (tgt := 137) dX11_search_131 (by decide) (fun c131 => ?_) (fun c131 => ?_)
  · replace hf := (if_pos c131).symm.trans hf
    refine r_bipush (x := (-4 : Int32)) dX11_search_134 (by decide) ?_
    have hf := Option.some.inj hf
    subst hf
    exact r_iret rfl dX11_search_136
  · replace hf := (if_neg c131).symm.trans hf
    refine r_iload 0 dX11_search_137 rfl ?_
    refine r_iload 4 dX11_search_139 rfl ?_
    refine r_icmp_ge (tgt := 149) dX11_search_141 (by decide) (fun c141 => ?_) (fun c141 => ?_)
    · replace hf := (if_pos c141).symm.trans hf
      refine r_iload 4 dX11_search_149 rfl ?_
      exact r_sub [2, 3, 5, 0, 6, 1, 7] rfl (t_X11_search_151 G l _ k68 hk68 _ _ _ _ _ _ _ _ _ hf)
    · replace hf := (if_neg c141).symm.trans hf
      refine r_iload 0 dX11_search_144 rfl ?_
      refine r_goto (tgt := 151) dX11_search_146 (by decide) ?_
      exact r_sub [2, 3, 5, 0, 6, 1, 7] rfl (t_X11_search_151 G l _ k68 hk68 _ _ _ _ _ _ _ _ _ hf)
def f_X11_search_102 (this : Nat) (k68 : Hp → Int32 → Int32 → Int32 → Int32 → Int32 → Int32 → Int32 → Option (Int32 × Hp)) (h : Hp) (x1 : Int32) (x4 : Int32) (x5 : Int32) (x6 : Int32) (x8 : Int32) (x9 : Int32) (s0 : Int32) : Option (Int32 × Hp) :=
    if x6 = x8 then
      f_X11_search_117 this k68 h x1 x4 x5 x6 s0 x9 (-1 : Int32)
    else
      f_X11_search_117 this k68 h x1 x4 x5 x6 s0 x9 x8
set_option maxRecDepth 100000 in
set_option maxHeartbeats 4000000 in
theorem t_X11_search_102 (G : Gx) (l : Launch) (this : Nat) (k68 : Hp → Int32 → Int32 → Int32 → Int32 → Int32 → Int32 → Int32 → Option (Int32 × Hp)) (hk68 : ∀ (h : Hp) (x1 : Int32) (x4 : Int32) (x5 : Int32) (x6 : Int32) (x7 : Int32) (x8 : Int32) (x9 : Int32) (r : (Int32 × Hp)), k68 h x1 x4 x5 x6 x7 x8 x9 = some r → RJ G l M_X11_search (some (vI r.1)) r.2 68 [(0, vR (some this)), (1, vI x1), (4, vI x4), (5, vI x5), (6, vI x6), (7, vI x7), (8, vI x8), (9, vI x9)] [] h) (h : Hp) (x1 : Int32) (x4 : Int32) (x5 : Int32) (x6 : Int32) (x8 : Int32) (x9 : Int32) (s0 : Int32) (r : (Int32 × Hp)) (hf : f_X11_search_102 this k68 h x1 x4 x5 x6 x8 x9 s0 = some r) : RJ G l M_X11_search (some (vI r.1)) r.2 102 [(0, vR (some this)), (1, vI x1), (4, vI x4), (5, vI x5), (6, vI x6), (8, vI x8), (9, vI x9)] [vI s0] h := by
  unfold f_X11_search_102 at hf
  refine r_istore (lv' := [(7, vI s0), (0, vR (some this)), (1, vI x1), (4, vI x4), (5, vI x5), (6, vI x6), (8, vI x8), (9, vI x9)]) dX11_search_102 (Nat.le_of_ble_eq_true rfl) rfl ?_
  refine r_iload 5 dX11_search_104 rfl ?_
  refine r_iload 6 dX11_search_106 rfl ?_
  refine r_icmp_ne (tgt := 115) dX11_search_108 (by decide) (fun c108 => ?_) (fun c108 => ?_)
  · replace hf := (if_pos c108).symm.trans hf
    refine r_iconst (x := (-1 : Int32)) dX11_search_111 (by decide) ?_
    refine r_goto (tgt := 117) dX11_search_112 (by decide) ?_
    exact r_sub [1, 2, 3, 4, 5, 0, 7] rfl (t_X11_search_117 G l _ k68 hk68 _ _ _ _ _ _ _ _ _ hf)
  · replace hf := (if_neg c108).symm.trans hf
    refine r_iload 6 dX11_search_115 rfl ?_
    exact r_sub [1, 2, 3, 4, 5, 0, 7] rfl (t_X11_search_117 G l _ k68 hk68 _ _ _ _ _ _ _ _ _ hf)
def f_X11_search_68 (this : Nat) : Nat → Hp → Int32 → Int32 → Int32 → Int32 → Int32 → Int32 → Int32 → Option (Int32 × Hp)
  | 0, _, _, _, _, _, _, _, _ => none
  | n + 1, h, x1, x4, x5, x6, x7, x8, x9 =>
    if (30 : Int32) ≤ x9 then
      some (x9, h)
    else
      (rcv h (some this) 11).bind fun a81 =>
      (f_X11_areMet h a81 x1 x4 x5).bind fun v81 =>
      if v81 = 0 then
        if x6 = x8 then
          f_X11_search_102 this (f_X11_search_68 this n) h x1 x4 x5 x6 x8 x9 (-x7)
        else
          f_X11_search_102 this (f_X11_search_68 this n) h x1 x4 x5 x6 x8 x9 x7
      else
        some (x9, h)
set_option maxRecDepth 100000 in
set_option maxHeartbeats 4000000 in
theorem t_X11_search_68 (G : Gx) (l : Launch) (this : Nat)  : ∀ (n : Nat) (h : Hp) (x1 : Int32) (x4 : Int32) (x5 : Int32) (x6 : Int32) (x7 : Int32) (x8 : Int32) (x9 : Int32) (r : (Int32 × Hp)), f_X11_search_68 this n h x1 x4 x5 x6 x7 x8 x9 = some r → RJ G l M_X11_search (some (vI r.1)) r.2 68 [(0, vR (some this)), (1, vI x1), (4, vI x4), (5, vI x5), (6, vI x6), (7, vI x7), (8, vI x8), (9, vI x9)] [] h := by
  intro n
  induction n with
  | zero =>
    intro h x1 x4 x5 x6 x7 x8 x9 r hf
    rw [f_X11_search_68] at hf
    cases hf
  | succ n ih =>
    intro h x1 x4 x5 x6 x7 x8 x9 r hf
    rw [f_X11_search_68] at hf
    refine r_iload 7 dX11_search_68 rfl ?_
    refine r_bipush (x := (30 : Int32)) dX11_search_70 (by decide) ?_
    refine r_icmp_ge (tgt := 175) dX11_search_72 (by decide) (fun c72 => ?_) (fun c72 => ?_)
    · replace hf := (if_pos c72).symm.trans hf
      refine r_iload 7 dX11_search_175 rfl ?_
      have hf := Option.some.inj hf
      subst hf
      exact r_iret rfl dX11_search_177
    · replace hf := (if_neg c72).symm.trans hf
      refine r_aload_n 0 dX11_search_75 rfl ?_
      refine r_iload_n 1 dX11_search_76 rfl ?_
      refine r_iload 2 dX11_search_77 rfl ?_
      refine r_iload 3 dX11_search_79 rfl ?_
      obtain ⟨a81, ea81, hf⟩ := ob hf
      obtain ⟨v81, e81, hf⟩ := ob hf
      refine r_callV (y := yX11_areMet) (ci := 11) (avs := [vI x1, vI x4, vI x5]) dX11_search_81 rfl kw_5_70 kw_5_72 kw_0_33 kw_1_5 kw_5_73 oky_X11_areMet ⟨Nat.le_of_ble_eq_true rfl, Nat.le_of_ble_eq_true rfl⟩ rfl (Nat.le_of_ble_eq_true rfl) ea81 (k_X11_areMet G l e81) ?_
      refine r_if_ne (tgt := 175) dX11_search_84 (by decide) (fun c84 => ?_) (fun c84 => ?_)
      · replace hf := (if_pos c84).symm.trans hf
        refine r_iload 4 dX11_search_87 rfl ?_
        refine r_iload 6 dX11_search_89 rfl ?_
        refine r_icmp_ne (tgt := 100) dX11_search_91 (by decide) (fun c91 => ?_) (fun c91 => ?_)
        · replace hf := (if_pos c91).symm.trans hf
          refine r_iload 5 dX11_search_94 rfl ?_
          refine r_ineg dX11_search_96 ?_
          refine r_goto (tgt := 102) dX11_search_97 (by decide) ?_
          exact r_sub [0, 1, 2, 3, 4, 6, 7] rfl (t_X11_search_102 G l _ (f_X11_search_68 this n) ih _ _ _ _ _ _ _ _ _ hf)
        · replace hf := (if_neg c91).symm.trans hf
          refine r_iload 5 dX11_search_100 rfl ?_
          exact r_sub [0, 1, 2, 3, 4, 6, 7] rfl (t_X11_search_102 G l _ (f_X11_search_68 this n) ih _ _ _ _ _ _ _ _ _ hf)
      · replace hf := (if_neg c84).symm.trans hf
        refine r_iload 7 dX11_search_175 rfl ?_
        have hf := Option.some.inj hf
        subst hf
        exact r_iret rfl dX11_search_177
def f_X11_search_63 (this : Nat) (h : Hp) (x1 : Int32) (x4 : Int32) (x5 : Int32) (x6 : Int32) (x7 : Int32) (s0 : Int32) : Option (Int32 × Hp) :=
    f_X11_search_68 this 10000 h x1 x4 x5 x6 x7 s0 (0 : Int32)
set_option maxRecDepth 100000 in
set_option maxHeartbeats 4000000 in
theorem t_X11_search_63 (G : Gx) (l : Launch) (this : Nat)  (h : Hp) (x1 : Int32) (x4 : Int32) (x5 : Int32) (x6 : Int32) (x7 : Int32) (s0 : Int32) (r : (Int32 × Hp)) (hf : f_X11_search_63 this h x1 x4 x5 x6 x7 s0 = some r) : RJ G l M_X11_search (some (vI r.1)) r.2 63 [(0, vR (some this)), (1, vI x1), (4, vI x4), (5, vI x5), (6, vI x6), (7, vI x7)] [vI s0] h := by
  unfold f_X11_search_63 at hf
  refine r_istore (lv' := [(8, vI s0), (0, vR (some this)), (1, vI x1), (4, vI x4), (5, vI x5), (6, vI x6), (7, vI x7)]) dX11_search_63 (Nat.le_of_ble_eq_true rfl) rfl ?_
  refine r_iconst (x := (0 : Int32)) dX11_search_65 (by decide) ?_
  refine r_istore (lv' := [(9, vI (0 : Int32)), (8, vI s0), (0, vR (some this)), (1, vI x1), (4, vI x4), (5, vI x5), (6, vI x6), (7, vI x7)]) dX11_search_66 (Nat.le_of_ble_eq_true rfl) rfl ?_
  exact r_sub [2, 3, 4, 5, 6, 7, 1, 0] rfl (t_X11_search_68 G l _ _ _ _ _ _ _ _ _ _ _ hf)
def f_X11_search_49 (this : Nat) (h : Hp) (x1 : Int32) (x2 : Int32) (x4 : Int32) (x5 : Int32) (x6 : Int32) (s0 : Int32) : Option (Int32 × Hp) :=
    if (6 : Int32) ≤ x2 then
      f_X11_search_63 this h x1 x4 x5 x6 s0 (11 : Int32)
    else
      f_X11_search_63 this h x1 x4 x5 x6 s0 (0 : Int32)
set_option maxRecDepth 100000 in
set_option maxHeartbeats 4000000 in
theorem t_X11_search_49 (G : Gx) (l : Launch) (this : Nat)  (h : Hp) (x1 : Int32) (x2 : Int32) (x4 : Int32) (x5 : Int32) (x6 : Int32) (s0 : Int32) (r : (Int32 × Hp)) (hf : f_X11_search_49 this h x1 x2 x4 x5 x6 s0 = some r) : RJ G l M_X11_search (some (vI r.1)) r.2 49 [(0, vR (some this)), (1, vI x1), (2, vI x2), (4, vI x4), (5, vI x5), (6, vI x6)] [vI s0] h := by
  unfold f_X11_search_49 at hf
  refine r_istore (lv' := [(7, vI s0), (0, vR (some this)), (1, vI x1), (2, vI x2), (4, vI x4), (5, vI x5), (6, vI x6)]) dX11_search_49 (Nat.le_of_ble_eq_true rfl) rfl ?_
  refine r_iload_n 3 dX11_search_51 rfl ?_
  refine r_bipush (x := (6 : Int32)) dX11_search_52 (by decide) ?_
  refine r_icmp_ge (tgt := 61) dX11_search_54 (by decide) (fun c54 => ?_) (fun c54 => ?_)
  · replace hf := (if_pos c54).symm.trans hf
    refine r_bipush (x := (11 : Int32)) dX11_search_61 (by decide) ?_
    exact r_sub [1, 2, 4, 5, 6, 0] rfl (t_X11_search_63 G l _ _ _ _ _ _ _ _ _ hf)
  · replace hf := (if_neg c54).symm.trans hf
    refine r_iconst (x := (0 : Int32)) dX11_search_57 (by decide) ?_
    refine r_goto (tgt := 63) dX11_search_58 (by decide) ?_
    exact r_sub [1, 2, 4, 5, 6, 0] rfl (t_X11_search_63 G l _ _ _ _ _ _ _ _ _ hf)
def f_X11_search_22 (this : Nat) (h : Hp) (x1 : Int32) (x2 : Int32) (s0 : Int32) : Option (Int32 × Hp) :=
    if 0 ≤ s0 then
      if (6 : Int32) ≤ x2 then
        f_X11_search_49 this h x1 x2 x2 x2 x2 (1 : Int32)
      else
        f_X11_search_49 this h x1 x2 x2 x2 x2 (-1 : Int32)
    else
      some (s0, h)
set_option maxRecDepth 100000 in
set_option maxHeartbeats 4000000 in
theorem t_X11_search_22 (G : Gx) (l : Launch) (this : Nat)  (h : Hp) (x1 : Int32) (x2 : Int32) (s0 : Int32) (r : (Int32 × Hp)) (hf : f_X11_search_22 this h x1 x2 s0 = some r) : RJ G l M_X11_search (some (vI r.1)) r.2 22 [(0, vR (some this)), (1, vI x1), (2, vI x2)] [vI s0] h := by
  unfold f_X11_search_22 at hf
  refine r_istore_n (lv' := [(3, vI s0), (0, vR (some this)), (1, vI x1), (2, vI x2)]) dX11_search_22 (Nat.le_of_ble_eq_true rfl) rfl ?_
  refine r_iload_n 0 dX11_search_23 rfl ?_
  refine r_if_ge (tgt := 29) dX11_search_24 (by decide) (fun c24 => ?_) (fun c24 => ?_)
  · replace hf := (if_pos c24).symm.trans hf
    refine r_iload_n 3 dX11_search_29 rfl ?_
    refine r_istore (lv' := [(4, vI x2), (3, vI s0), (0, vR (some this)), (1, vI x1), (2, vI x2)]) dX11_search_30 (Nat.le_of_ble_eq_true rfl) rfl ?_
    refine r_iload_n 4 dX11_search_32 rfl ?_
    refine r_istore (lv' := [(5, vI x2), (4, vI x2), (3, vI s0), (0, vR (some this)), (1, vI x1), (2, vI x2)]) dX11_search_33 (Nat.le_of_ble_eq_true rfl) rfl ?_
    refine r_iload_n 5 dX11_search_35 rfl ?_
    refine r_istore (lv' := [(6, vI x2), (5, vI x2), (4, vI x2), (3, vI s0), (0, vR (some this)), (1, vI x1), (2, vI x2)]) dX11_search_36 (Nat.le_of_ble_eq_true rfl) rfl ?_
    refine r_iload_n 6 dX11_search_38 rfl ?_
    refine r_bipush (x := (6 : Int32)) dX11_search_39 (by decide) ?_
    refine r_icmp_ge (tgt := 48) dX11_search_41 (by decide) (fun c41 => ?_) (fun c41 => ?_)
    · replace hf := (if_pos c41).symm.trans hf
      refine r_iconst (x := (1 : Int32)) dX11_search_48 (by decide) ?_
      exact r_sub [4, 5, 6, 2, 1, 0] rfl (t_X11_search_49 G l _ _ _ _ _ _ _ _ _ hf)
    · replace hf := (if_neg c41).symm.trans hf
      refine r_iconst (x := (-1 : Int32)) dX11_search_44 (by decide) ?_
      refine r_goto (tgt := 49) dX11_search_45 (by decide) ?_
      exact r_sub [4, 5, 6, 2, 1, 0] rfl (t_X11_search_49 G l _ _ _ _ _ _ _ _ _ hf)
  · replace hf := (if_neg c24).symm.trans hf
    refine r_iload_n 0 dX11_search_27 rfl ?_
    have hf := Option.some.inj hf
    subst hf
    exact r_iret rfl dX11_search_28
def f_X11_search (h : Hp) (this : Nat) (x1 : Int32) (x2 : Int32) : Option (Int32 × Hp) :=
    (pF h (some this) [11] 6 (vI (0 : Int32))).bind fun h2 =>
    (f_X11_isPlot h2 x2).bind fun v6 =>
    if v6 = 0 then
      f_X11_search_22 this h2 x1 x2 (-1 : Int32)
    else
      (rcv h2 (some this) 11).bind fun a15 =>
      (f_X11_wrongSort h2 a15 x1 (1 : Int32)).bind fun v15 =>
      f_X11_search_22 this h2 x1 x2 v15
set_option maxRecDepth 100000 in
set_option maxHeartbeats 4000000 in
theorem k_X11_search (G : Gx) (l : Launch) {h : Hp} {this : Nat} {x1 : Int32} {x2 : Int32} {r : (Int32 × Hp)} (hf : f_X11_search h this x1 x2 = some r) : KM l yX11_search (.code yX11_search cX11_search 10 (some .int) :: wsK) 3 68 G [vR (some this), vI x1, vI x2] h (some (vI r.1)) r.2 := by
  refine r_entry (ctor := false) (own := RX11) (by decide +kernel) rfl (fun q => by cases q) (Nat.le_of_ble_eq_true rfl) ?_
  show RJ G l M_X11_search (some (vI r.1)) r.2 0 [(0, vR (some this)), (1, vI x1), (2, vI x2)] [] h
  unfold f_X11_search at hf
  refine r_aload_n 0 dX11_search_0 rfl ?_
  refine r_iconst (x := (0 : Int32)) dX11_search_1 (by decide) ?_
  obtain ⟨h2, e2, hf⟩ := ob hf
  refine r_put dX11_search_2 fl_11_6 kw_4_61 (Or.inl rfl) (by decide +kernel) (fit_int _) e2 ?_
  refine r_iload_n 2 dX11_search_5 rfl ?_
  obtain ⟨v6, e6, hf⟩ := ob hf
  refine r_callS (y := yX11_isPlot) (avs := [vI x2]) dX11_search_6 kw_5_15 kw_5_16 kw_1_5 kw_5_17 oky_X11_isPlot ⟨Nat.le_of_ble_eq_true rfl, Nat.le_of_ble_eq_true rfl⟩ rfl (Nat.le_of_ble_eq_true rfl) (k_X11_isPlot G l e6) ?_
  refine r_if_eq (tgt := 21) dX11_search_9 (by decide) (fun c9 => ?_) (fun c9 => ?_)
  · replace hf := (if_pos c9).symm.trans hf
    refine r_iconst (x := (-1 : Int32)) dX11_search_21 (by decide) ?_
    exact r_sub [0, 1, 2] rfl (t_X11_search_22 G l _ _ _ _ _ _ hf)
  · replace hf := (if_neg c9).symm.trans hf
    refine r_aload_n 0 dX11_search_12 rfl ?_
    refine r_iload_n 1 dX11_search_13 rfl ?_
    refine r_iconst (x := (1 : Int32)) dX11_search_14 (by decide) ?_
    obtain ⟨a15, ea15, hf⟩ := ob hf
    obtain ⟨v15, e15, hf⟩ := ob hf
    refine r_callV (y := yX11_wrongSort) (ci := 11) (avs := [vI x1, vI (1 : Int32)]) dX11_search_15 rfl kw_4_170 kw_4_172 kw_0_14 kw_1_5 kw_4_173 oky_X11_wrongSort ⟨Nat.le_of_ble_eq_true rfl, Nat.le_of_ble_eq_true rfl⟩ rfl (Nat.le_of_ble_eq_true rfl) ea15 (k_X11_wrongSort G l e15) ?_
    refine r_goto (tgt := 22) dX11_search_18 (by decide) ?_
    exact r_sub [0, 1, 2] rfl (t_X11_search_22 G l _ _ _ _ _ _ hf)
/-! ===== NumberedByAgeModel.seeded(III)I ===== -/
abbrev M_X11_seeded : Mx := (cX11_seeded, 7, RX11, (false, []), (some .int), 4, 94)
def f_X11_seeded_102 (this : Nat) (k41 : Hp → Int32 → Int32 → Int32 → Option (Int32 × Hp)) (h : Hp) (x1 : Int32) (x3 : Int32) (x4 : Int32) : Option (Int32 × Hp) :=
    k41 h x1 x3 (x4 + 1)
set_option maxRecDepth 100000 in
set_option maxHeartbeats 4000000 in
theorem t_X11_seeded_102 (G : Gx) (l : Launch) (this : Nat) (k41 : Hp → Int32 → Int32 → Int32 → Option (Int32 × Hp)) (hk41 : ∀ (h : Hp) (x1 : Int32) (x3 : Int32) (x4 : Int32) (r : (Int32 × Hp)), k41 h x1 x3 x4 = some r → RJ G l M_X11_seeded (some (vI r.1)) r.2 41 [(0, vR (some this)), (1, vI x1), (3, vI x3), (4, vI x4)] [] h) (h : Hp) (x1 : Int32) (x3 : Int32) (x4 : Int32) (r : (Int32 × Hp)) (hf : f_X11_seeded_102 this k41 h x1 x3 x4 = some r) : RJ G l M_X11_seeded (some (vI r.1)) r.2 102 [(0, vR (some this)), (1, vI x1), (3, vI x3), (4, vI x4)] [] h := by
  unfold f_X11_seeded_102 at hf
  refine r_iinc (y := (x4 + 1)) (lv' := [(4, vI (x4 + 1)), (0, vR (some this)), (1, vI x1), (3, vI x3)]) 3 dX11_seeded_102 rfl rfl (Nat.le_of_ble_eq_true rfl) rfl ?_
  refine r_goto (tgt := 41) dX11_seeded_105 (by decide) ?_
  exact r_sub [1, 2, 3, 0] rfl (hk41 _ _ _ _ _ hf)
def f_X11_seeded_41 (this : Nat) : Nat → Hp → Int32 → Int32 → Int32 → Option (Int32 × Hp)
  | 0, _, _, _, _ => none
  | n + 1, h, x1, x3, x4 =>
    if x1 ≤ x4 then
      if x3 = 0 then
        (rcv h (some this) 11).bind fun a113 =>
        (f_X11_gapsLooked h a113).bind fun v113 =>
        some (v113, h)
      else
        (rcv h (some this) 11).bind fun a120 =>
        (f_X11_riseLooked h a120).bind fun q120 =>
        some (q120.1, q120.2)
    else
      (rcv h (some this) 11).bind fun a50 =>
      (f_X11_draw h a50 (12 : Int32)).bind fun q50 =>
      (rcv q50.2 (some this) 11).bind fun a58 =>
      (f_X11_draw q50.2 a58 (9 : Int32)).bind fun q58 =>
      (gR q58.2 (some this) [11] 7).bind fun v66 =>
      (aI q58.2 v66 q50.1).bind fun v71 =>
      if v71 ≤ 0 then
        (gI q58.2 (some this) [11] 0).bind fun v88 =>
        (gI q58.2 (some this) [11] 1).bind fun v92 =>
        (rcv q58.2 (some this) 11).bind fun a99 =>
        (f_X11_buildLooked q58.2 a99 v88 v92 q50.1 (q58.1 + (1 : Int32))).bind fun h99 =>
        f_X11_seeded_102 this (f_X11_seeded_41 this n) h99 x1 x3 x4
      else
        (gR q58.2 (some this) [11] 7).bind fun v76 =>
        (wI q58.2 v76 q50.1 (0 : Int32)).bind fun h82 =>
        f_X11_seeded_102 this (f_X11_seeded_41 this n) h82 x1 x3 x4
set_option maxRecDepth 100000 in
set_option maxHeartbeats 4000000 in
theorem t_X11_seeded_41 (G : Gx) (l : Launch) (this : Nat)  : ∀ (n : Nat) (h : Hp) (x1 : Int32) (x3 : Int32) (x4 : Int32) (r : (Int32 × Hp)), f_X11_seeded_41 this n h x1 x3 x4 = some r → RJ G l M_X11_seeded (some (vI r.1)) r.2 41 [(0, vR (some this)), (1, vI x1), (3, vI x3), (4, vI x4)] [] h := by
  intro n
  induction n with
  | zero =>
    intro h x1 x3 x4 r hf
    rw [f_X11_seeded_41] at hf
    cases hf
  | succ n ih =>
    intro h x1 x3 x4 r hf
    rw [f_X11_seeded_41] at hf
    refine r_iload 3 dX11_seeded_41 rfl ?_
    refine r_iload_n 1 dX11_seeded_43 rfl ?_
    refine r_icmp_ge (tgt := 108) dX11_seeded_44 (by decide) (fun c44 => ?_) (fun c44 => ?_)
    · replace hf := (if_pos c44).symm.trans hf
      refine r_iload_n 2 dX11_seeded_108 rfl ?_
      refine r_if_ne (tgt := 119) dX11_seeded_109 (by decide) (fun c109 => ?_) (fun c109 => ?_)
      · replace hf := (if_pos c109).symm.trans hf
        refine r_aload_n 0 dX11_seeded_112 rfl ?_
        obtain ⟨a113, ea113, hf⟩ := ob hf
        obtain ⟨v113, e113, hf⟩ := ob hf
        refine r_callV (y := yX11_gapsLooked) (ci := 11) (avs := []) dX11_seeded_113 rfl kw_5_62 kw_5_64 kw_0_32 kw_1_5 kw_5_65 oky_X11_gapsLooked ⟨Nat.le_of_ble_eq_true rfl, Nat.le_of_ble_eq_true rfl⟩ rfl (Nat.le_of_ble_eq_true rfl) ea113 (k_X11_gapsLooked G l e113) ?_
        refine r_goto (tgt := 123) dX11_seeded_116 (by decide) ?_
        have hf := Option.some.inj hf
        subst hf
        exact r_iret rfl dX11_seeded_123
      · replace hf := (if_neg c109).symm.trans hf
        refine r_aload_n 0 dX11_seeded_119 rfl ?_
        obtain ⟨a120, ea120, hf⟩ := ob hf
        obtain ⟨q120, e120, hf⟩ := ob hf
        refine r_callV (y := yX11_riseLooked) (ci := 11) (avs := []) dX11_seeded_120 rfl kw_5_86 kw_5_88 kw_0_35 kw_1_5 kw_5_89 oky_X11_riseLooked ⟨Nat.le_of_ble_eq_true rfl, Nat.le_of_ble_eq_true rfl⟩ rfl (Nat.le_of_ble_eq_true rfl) ea120 (k_X11_riseLooked G l e120) ?_
        have hf := Option.some.inj hf
        subst hf
        exact r_iret rfl dX11_seeded_123
    · replace hf := (if_neg c44).symm.trans hf
      refine r_aload_n 0 dX11_seeded_47 rfl ?_
      refine r_bipush (x := (12 : Int32)) dX11_seeded_48 (by decide) ?_
      obtain ⟨a50, ea50, hf⟩ := ob hf
      obtain ⟨q50, e50, hf⟩ := ob hf
      refine r_callV (y := yX11_draw) (ci := 11) (avs := [vI (12 : Int32)]) dX11_seeded_50 rfl kw_5_140 kw_5_142 kw_0_42 kw_1_5 kw_5_143 oky_X11_draw ⟨Nat.le_of_ble_eq_true rfl, Nat.le_of_ble_eq_true rfl⟩ rfl (Nat.le_of_ble_eq_true rfl) ea50 (k_X11_draw G l e50) ?_
      refine r_istore (lv' := [(5, vI q50.1), (0, vR (some this)), (1, vI x1), (3, vI x3), (4, vI x4)]) dX11_seeded_53 (Nat.le_of_ble_eq_true rfl) rfl ?_
      refine r_aload_n 1 dX11_seeded_55 rfl ?_
      refine r_bipush (x := (9 : Int32)) dX11_seeded_56 (by decide) ?_
      obtain ⟨a58, ea58, hf⟩ := ob hf
      obtain ⟨q58, e58, hf⟩ := ob hf
      refine r_callV (y := yX11_draw) (ci := 11) (avs := [vI (9 : Int32)]) dX11_seeded_58 rfl kw_5_140 kw_5_142 kw_0_42 kw_1_5 kw_5_143 oky_X11_draw ⟨Nat.le_of_ble_eq_true rfl, Nat.le_of_ble_eq_true rfl⟩ rfl (Nat.le_of_ble_eq_true rfl) ea58 (k_X11_draw G l e58) ?_
      refine r_iconst (x := (1 : Int32)) dX11_seeded_61 (by decide) ?_
      refine r_iadd dX11_seeded_62 ?_
      refine r_istore (lv' := [(6, vI (q58.1 + (1 : Int32))), (5, vI q50.1), (0, vR (some this)), (1, vI x1), (3, vI x3), (4, vI x4)]) dX11_seeded_63 (Nat.le_of_ble_eq_true rfl) rfl ?_
      refine r_aload_n 2 dX11_seeded_65 rfl ?_
      obtain ⟨v66, e66, hf⟩ := ob hf
      refine r_get dX11_seeded_66 fl_11_7 kw_4_62 (Or.inl rfl) (gR_sp e66) ?_
      refine r_iload 1 dX11_seeded_69 rfl ?_
      refine r_pc (pc' := 71) rfl ?_
      obtain ⟨v71, e71, hf⟩ := ob hf
      refine r_iaload dX11_seeded_71 e71 ?_
      refine r_if_le (tgt := 86) dX11_seeded_72 (by decide) (fun c72 => ?_) (fun c72 => ?_)
      · replace hf := (if_pos c72).symm.trans hf
        refine r_aload_n 2 dX11_seeded_86 rfl ?_
        refine r_aload_n 2 dX11_seeded_87 rfl ?_
        obtain ⟨v88, e88, hf⟩ := ob hf
        refine r_get dX11_seeded_88 fl_11_0 kw_4_55 (Or.inl rfl) (gI_sp e88) ?_
        refine r_aload_n 2 dX11_seeded_91 rfl ?_
        obtain ⟨v92, e92, hf⟩ := ob hf
        refine r_get dX11_seeded_92 fl_11_1 kw_4_56 (Or.inl rfl) (gI_sp e92) ?_
        refine r_iload 1 dX11_seeded_95 rfl ?_
        refine r_iload 0 dX11_seeded_97 rfl ?_
        obtain ⟨a99, ea99, hf⟩ := ob hf
        obtain ⟨h99, e99, hf⟩ := ob hf
        refine r_callV (y := yX11_buildLooked) (ci := 11) (avs := [vI v88, vI v92, vI q50.1, vI (q58.1 + (1 : Int32))]) dX11_seeded_99 rfl kw_5_102 kw_5_104 kw_0_37 kw_1_5 kw_5_105 oky_X11_buildLooked ⟨Nat.le_of_ble_eq_true rfl, Nat.le_of_ble_eq_true rfl⟩ rfl (Nat.le_of_ble_eq_true rfl) ea99 (k_X11_buildLooked G l e99) ?_
        exact r_sub [2, 3, 4, 5] rfl (t_X11_seeded_102 G l _ (f_X11_seeded_41 this n) ih _ _ _ _ _ hf)
      · replace hf := (if_neg c72).symm.trans hf
        refine r_aload_n 2 dX11_seeded_75 rfl ?_
        obtain ⟨v76, e76, hf⟩ := ob hf
        refine r_get dX11_seeded_76 fl_11_7 kw_4_62 (Or.inl rfl) (gR_sp e76) ?_
        refine r_iload 1 dX11_seeded_79 rfl ?_
        refine r_iconst (x := (0 : Int32)) dX11_seeded_81 (by decide) ?_
        obtain ⟨h82, e82, hf⟩ := ob hf
        refine r_iastore dX11_seeded_82 e82 ?_
        refine r_goto (tgt := 102) dX11_seeded_83 (by decide) ?_
        exact r_sub [2, 3, 4, 5] rfl (t_X11_seeded_102 G l _ (f_X11_seeded_41 this n) ih _ _ _ _ _ hf)
def f_X11_seeded (h : Hp) (this : Nat) (x1 : Int32) (x2 : Int32) (x3 : Int32) : Option (Int32 × Hp) :=
    (pF h (some this) [11] 6 (vI (0 : Int32))).bind fun h2 =>
    (f_X11_in h2 x1.toInt64 (1 : Int64) (30 : Int64)).bind fun v11 =>
    if v11 = 0 then
      some ((-1 : Int32), h2)
    else
      (f_X11_in h2 x3.toInt64 (0 : Int64) (1 : Int64)).bind fun v21 =>
      if v21 = 0 then
        some ((-1 : Int32), h2)
      else
        (pF h2 (some this) [11] 27 (vI x2)).bind fun h31 =>
        (rcv h31 (some this) 11).bind fun a35 =>
        (f_X11_lookEmpty h31 a35).bind fun h35 =>
        f_X11_seeded_41 this 10000 h35 x1 x3 (0 : Int32)
set_option maxRecDepth 100000 in
set_option maxHeartbeats 4000000 in
theorem k_X11_seeded (G : Gx) (l : Launch) {h : Hp} {this : Nat} {x1 : Int32} {x2 : Int32} {x3 : Int32} {r : (Int32 × Hp)} (hf : f_X11_seeded h this x1 x2 x3 = some r) : KM l yX11_seeded (.code yX11_seeded cX11_seeded 7 (some .int) :: wsK) 4 94 G [vR (some this), vI x1, vI x2, vI x3] h (some (vI r.1)) r.2 := by
  refine r_entry (ctor := false) (own := RX11) (by decide +kernel) rfl (fun q => by cases q) (Nat.le_of_ble_eq_true rfl) ?_
  show RJ G l M_X11_seeded (some (vI r.1)) r.2 0 [(0, vR (some this)), (1, vI x1), (2, vI x2), (3, vI x3)] [] h
  unfold f_X11_seeded at hf
  refine r_aload_n 0 dX11_seeded_0 rfl ?_
  refine r_iconst (x := (0 : Int32)) dX11_seeded_1 (by decide) ?_
  obtain ⟨h2, e2, hf⟩ := ob hf
  refine r_put dX11_seeded_2 fl_11_6 kw_4_61 (Or.inl rfl) (by decide +kernel) (fit_int _) e2 ?_
  refine r_iload_n 1 dX11_seeded_5 rfl ?_
  refine r_i2l dX11_seeded_6 ?_
  refine r_lconst (x := (1 : Int64)) dX11_seeded_7 (by decide) ?_
  refine r_ldc2 (x := (30 : Int64)) dX11_seeded_8 kw_5_139 ?_
  obtain ⟨v11, e11, hf⟩ := ob hf
  refine r_callS (y := yX11_in) (avs := [vL x1.toInt64, vL (1 : Int64), vL (30 : Int64)]) dX11_seeded_11 kw_4_179 kw_4_180 kw_1_5 kw_4_181 oky_X11_in ⟨Nat.le_of_ble_eq_true rfl, Nat.le_of_ble_eq_true rfl⟩ rfl (Nat.le_of_ble_eq_true rfl) (k_X11_in G l e11) ?_
  refine r_if_eq (tgt := 27) dX11_seeded_14 (by decide) (fun c14 => ?_) (fun c14 => ?_)
  · replace hf := (if_pos c14).symm.trans hf
    refine r_iconst (x := (-1 : Int32)) dX11_seeded_27 (by decide) ?_
    have hf := Option.some.inj hf
    subst hf
    exact r_iret rfl dX11_seeded_28
  · replace hf := (if_neg c14).symm.trans hf
    refine r_iload_n 3 dX11_seeded_17 rfl ?_
    refine r_i2l dX11_seeded_18 ?_
    refine r_lconst (x := (0 : Int64)) dX11_seeded_19 (by decide) ?_
    refine r_lconst (x := (1 : Int64)) dX11_seeded_20 (by decide) ?_
    obtain ⟨v21, e21, hf⟩ := ob hf
    refine r_callS (y := yX11_in) (avs := [vL x3.toInt64, vL (0 : Int64), vL (1 : Int64)]) dX11_seeded_21 kw_4_179 kw_4_180 kw_1_5 kw_4_181 oky_X11_in ⟨Nat.le_of_ble_eq_true rfl, Nat.le_of_ble_eq_true rfl⟩ rfl (Nat.le_of_ble_eq_true rfl) (k_X11_in G l e21) ?_
    refine r_if_ne (tgt := 29) dX11_seeded_24 (by decide) (fun c24 => ?_) (fun c24 => ?_)
    · replace hf := (if_pos c24).symm.trans hf
      refine r_iconst (x := (-1 : Int32)) dX11_seeded_27 (by decide) ?_
      have hf := Option.some.inj hf
      subst hf
      exact r_iret rfl dX11_seeded_28
    · replace hf := (if_neg c24).symm.trans hf
      refine r_aload_n 0 dX11_seeded_29 rfl ?_
      refine r_iload_n 2 dX11_seeded_30 rfl ?_
      obtain ⟨h31, e31, hf⟩ := ob hf
      refine r_put dX11_seeded_31 fl_11_27 kw_4_82 (Or.inl rfl) (by decide +kernel) (fit_int _) e31 ?_
      refine r_aload_n 0 dX11_seeded_34 rfl ?_
      obtain ⟨a35, ea35, hf⟩ := ob hf
      obtain ⟨h35, e35, hf⟩ := ob hf
      refine r_callV (y := yX11_lookEmpty) (ci := 11) (avs := []) dX11_seeded_35 rfl kw_4_216 kw_4_218 kw_0_24 kw_1_5 kw_4_219 oky_X11_lookEmpty ⟨Nat.le_of_ble_eq_true rfl, Nat.le_of_ble_eq_true rfl⟩ rfl (Nat.le_of_ble_eq_true rfl) ea35 (k_X11_lookEmpty G l e35) ?_
      refine r_iconst (x := (0 : Int32)) dX11_seeded_38 (by decide) ?_
      refine r_istore (lv' := [(4, vI (0 : Int32)), (0, vR (some this)), (1, vI x1), (2, vI x2), (3, vI x3)]) dX11_seeded_39 (Nat.le_of_ble_eq_true rfl) rfl ?_
      exact r_sub [1, 2, 4, 0] rfl (t_X11_seeded_41 G l _ _ _ _ _ _ _ hf)
/-! ===== NumberedByAgeModel.street(I)I ===== -/
abbrev M_X11_street : Mx := (cX11_street, 4, RX11, (false, []), (some .int), 5, 116)
def f_X11_street_76 (this : Nat) (k51 : Hp → Option (Int32 × Hp)) (h : Hp) : Option (Int32 × Hp) :=
    (rcv h (some this) 11).bind fun a77 =>
    (f_X11_readStatement h a77).bind fun h77 =>
    k51 h77
set_option maxRecDepth 100000 in
set_option maxHeartbeats 4000000 in
theorem t_X11_street_76 (G : Gx) (l : Launch) (this : Nat) (k51 : Hp → Option (Int32 × Hp)) (hk51 : ∀ (h : Hp) (r : (Int32 × Hp)), k51 h = some r → RJ G l M_X11_street (some (vI r.1)) r.2 51 [(0, vR (some this))] [] h) (h : Hp) (r : (Int32 × Hp)) (hf : f_X11_street_76 this k51 h = some r) : RJ G l M_X11_street (some (vI r.1)) r.2 76 [(0, vR (some this))] [] h := by
  unfold f_X11_street_76 at hf
  refine r_aload_n 0 dX11_street_76 rfl ?_
  obtain ⟨a77, ea77, hf⟩ := ob hf
  obtain ⟨h77, e77, hf⟩ := ob hf
  refine r_callV (y := yX11_readStatement) (ci := 11) (avs := []) dX11_street_77 rfl kw_4_182 kw_4_184 kw_0_16 kw_1_5 kw_4_185 oky_X11_readStatement ⟨Nat.le_of_ble_eq_true rfl, Nat.le_of_ble_eq_true rfl⟩ rfl (Nat.le_of_ble_eq_true rfl) ea77 (k_X11_readStatement G l e77) ?_
  refine r_goto (tgt := 51) dX11_street_80 (by decide) ?_
  exact r_sub [0] rfl (hk51 _ _ hf)
def f_X11_street_110 (this : Nat) : Nat → Hp → Int32 → Option (Int32 × Hp)
  | 0, _, _ => none
  | n + 1, h, x3 =>
    (gI h (some this) [11] 13).bind fun v112 =>
    if v112 ≤ x3 then
      (gI h (some this) [11] 13).bind fun v153 =>
      some (v153, h)
    else
      (rcv h (some this) 11).bind fun a120 =>
      (f_X11_comes h a120 x3).bind fun q120 =>
      if q120.1 = 0 then
        (gR q120.2 (some this) [11] 18).bind fun v128 =>
        (rcv q120.2 (some this) 11).bind fun a132 =>
        (f_X11_carryAll q120.2 a132 v128 (0 : Int32)).bind fun h132 =>
        (gR h132 (some this) [11] 14).bind fun v139 =>
        (aI h132 v139 x3).bind fun v143 =>
        some (((-2000 : Int32) - v143), h132)
      else
        (f_X11_street_110 this n) q120.2 (x3 + 1)
set_option maxRecDepth 100000 in
set_option maxHeartbeats 4000000 in
theorem t_X11_street_110 (G : Gx) (l : Launch) (this : Nat)  : ∀ (n : Nat) (h : Hp) (x3 : Int32) (r : (Int32 × Hp)), f_X11_street_110 this n h x3 = some r → RJ G l M_X11_street (some (vI r.1)) r.2 110 [(0, vR (some this)), (3, vI x3)] [] h := by
  intro n
  induction n with
  | zero =>
    intro h x3 r hf
    rw [f_X11_street_110] at hf
    cases hf
  | succ n ih =>
    intro h x3 r hf
    rw [f_X11_street_110] at hf
    refine r_iload_n 1 dX11_street_110 rfl ?_
    refine r_aload_n 0 dX11_street_111 rfl ?_
    obtain ⟨v112, e112, hf⟩ := ob hf
    refine r_get dX11_street_112 fl_11_13 kw_4_68 (Or.inl rfl) (gI_sp e112) ?_
    refine r_icmp_ge (tgt := 152) dX11_street_115 (by decide) (fun c115 => ?_) (fun c115 => ?_)
    · replace hf := (if_pos c115).symm.trans hf
      refine r_aload_n 0 dX11_street_152 rfl ?_
      obtain ⟨v153, e153, hf⟩ := ob hf
      refine r_get dX11_street_153 fl_11_13 kw_4_68 (Or.inl rfl) (gI_sp e153) ?_
      have hf := Option.some.inj hf
      subst hf
      exact r_iret rfl dX11_street_156
    · replace hf := (if_neg c115).symm.trans hf
      refine r_aload_n 0 dX11_street_118 rfl ?_
      refine r_iload_n 1 dX11_street_119 rfl ?_
      obtain ⟨a120, ea120, hf⟩ := ob hf
      obtain ⟨q120, e120, hf⟩ := ob hf
      refine r_callV (y := yX11_comes) (ci := 11) (avs := [vI x3]) dX11_street_120 rfl kw_4_204 kw_4_206 kw_0_21 kw_1_5 kw_4_207 oky_X11_comes ⟨Nat.le_of_ble_eq_true rfl, Nat.le_of_ble_eq_true rfl⟩ rfl (Nat.le_of_ble_eq_true rfl) ea120 (k_X11_comes G l e120) ?_
      refine r_if_ne (tgt := 146) dX11_street_123 (by decide) (fun c123 => ?_) (fun c123 => ?_)
      · replace hf := (if_pos c123).symm.trans hf
        refine r_aload_n 0 dX11_street_126 rfl ?_
        refine r_aload_n 0 dX11_street_127 rfl ?_
        obtain ⟨v128, e128, hf⟩ := ob hf
        refine r_get dX11_street_128 fl_11_18 kw_4_73 (Or.inl rfl) (gR_sp e128) ?_
        refine r_iconst (x := (0 : Int32)) dX11_street_131 (by decide) ?_
        obtain ⟨a132, ea132, hf⟩ := ob hf
        obtain ⟨h132, e132, hf⟩ := ob hf
        refine r_callV (y := yX11_carryAll) (ci := 11) (avs := [vR v128, vI (0 : Int32)]) dX11_street_132 rfl kw_4_196 kw_4_198 kw_0_19 kw_1_5 kw_4_199 oky_X11_carryAll ⟨Nat.le_of_ble_eq_true rfl, Nat.le_of_ble_eq_true rfl⟩ rfl (Nat.le_of_ble_eq_true rfl) ea132 (k_X11_carryAll G l e132) ?_
        refine r_sipush (x := (-2000 : Int32)) dX11_street_135 (by decide) ?_
        refine r_aload_n 0 dX11_street_138 rfl ?_
        obtain ⟨v139, e139, hf⟩ := ob hf
        refine r_get dX11_street_139 fl_11_14 kw_4_69 (Or.inl rfl) (gR_sp e139) ?_
        refine r_iload_n 1 dX11_street_142 rfl ?_
        obtain ⟨v143, e143, hf⟩ := ob hf
        refine r_iaload dX11_street_143 e143 ?_
        refine r_isub dX11_street_144 ?_
        have hf := Option.some.inj hf
        subst hf
        exact r_iret rfl dX11_street_145
      · replace hf := (if_neg c123).symm.trans hf
        refine r_iinc (y := (x3 + 1)) (lv' := [(3, vI (x3 + 1)), (0, vR (some this))]) 1 dX11_street_146 rfl rfl (Nat.le_of_ble_eq_true rfl) rfl ?_
        refine r_goto (tgt := 110) dX11_street_149 (by decide) ?_
        exact r_sub [1, 0] rfl (ih _ _ _ hf)
def f_X11_street_83 (this : Nat) (h : Hp) : Option (Int32 × Hp) :=
    (gI h (some this) [11] 12).bind fun v84 =>
    if v84 = 0 then
      (gR h (some this) [11] 18).bind fun v101 =>
      (rcv h (some this) 11).bind fun a105 =>
      (f_X11_carryAll h a105 v101 (1 : Int32)).bind fun h105 =>
      f_X11_street_110 this 10000 h105 (0 : Int32)
    else
      (gI h (some this) [11] 11).bind fun v94 =>
      some (((-1000 : Int32) - v94), h)
set_option maxRecDepth 100000 in
set_option maxHeartbeats 4000000 in
theorem t_X11_street_83 (G : Gx) (l : Launch) (this : Nat)  (h : Hp) (r : (Int32 × Hp)) (hf : f_X11_street_83 this h = some r) : RJ G l M_X11_street (some (vI r.1)) r.2 83 [(0, vR (some this))] [] h := by
  unfold f_X11_street_83 at hf
  refine r_aload_n 0 dX11_street_83 rfl ?_
  obtain ⟨v84, e84, hf⟩ := ob hf
  refine r_get dX11_street_84 fl_11_12 kw_4_67 (Or.inl rfl) (gI_sp e84) ?_
  refine r_if_eq (tgt := 99) dX11_street_87 (by decide) (fun c87 => ?_) (fun c87 => ?_)
  · replace hf := (if_pos c87).symm.trans hf
    refine r_aload_n 0 dX11_street_99 rfl ?_
    refine r_aload_n 0 dX11_street_100 rfl ?_
    obtain ⟨v101, e101, hf⟩ := ob hf
    refine r_get dX11_street_101 fl_11_18 kw_4_73 (Or.inl rfl) (gR_sp e101) ?_
    refine r_iconst (x := (1 : Int32)) dX11_street_104 (by decide) ?_
    obtain ⟨a105, ea105, hf⟩ := ob hf
    obtain ⟨h105, e105, hf⟩ := ob hf
    refine r_callV (y := yX11_carryAll) (ci := 11) (avs := [vR v101, vI (1 : Int32)]) dX11_street_105 rfl kw_4_196 kw_4_198 kw_0_19 kw_1_5 kw_4_199 oky_X11_carryAll ⟨Nat.le_of_ble_eq_true rfl, Nat.le_of_ble_eq_true rfl⟩ rfl (Nat.le_of_ble_eq_true rfl) ea105 (k_X11_carryAll G l e105) ?_
    refine r_iconst (x := (0 : Int32)) dX11_street_108 (by decide) ?_
    refine r_istore_n (lv' := [(3, vI (0 : Int32)), (0, vR (some this))]) dX11_street_109 (Nat.le_of_ble_eq_true rfl) rfl ?_
    exact r_sub [1, 0] rfl (t_X11_street_110 G l _ _ _ _ _ hf)
  · replace hf := (if_neg c87).symm.trans hf
    refine r_sipush (x := (-1000 : Int32)) dX11_street_90 (by decide) ?_
    refine r_aload_n 0 dX11_street_93 rfl ?_
    obtain ⟨v94, e94, hf⟩ := ob hf
    refine r_get dX11_street_94 fl_11_11 kw_4_66 (Or.inl rfl) (gI_sp e94) ?_
    refine r_isub dX11_street_97 ?_
    have hf := Option.some.inj hf
    subst hf
    exact r_iret rfl dX11_street_98
def f_X11_street_51 (this : Nat) : Nat → Hp → Option (Int32 × Hp)
  | 0, _ => none
  | n + 1, h =>
    (gI h (some this) [11] 12).bind fun v52 =>
    if v52 = 0 then
      (gI h (some this) [11] 13).bind fun v59 =>
      if v59 = 0 then
        f_X11_street_76 this (f_X11_street_51 this n) h
      else
        (gI h (some this) [11] 11).bind fun v66 =>
        (gI h (some this) [11] 10).bind fun v70 =>
        if v70 ≤ v66 then
          f_X11_street_83 this h
        else
          f_X11_street_76 this (f_X11_street_51 this n) h
    else
      f_X11_street_83 this h
set_option maxRecDepth 100000 in
set_option maxHeartbeats 4000000 in
theorem t_X11_street_51 (G : Gx) (l : Launch) (this : Nat)  : ∀ (n : Nat) (h : Hp) (r : (Int32 × Hp)), f_X11_street_51 this n h = some r → RJ G l M_X11_street (some (vI r.1)) r.2 51 [(0, vR (some this))] [] h := by
  intro n
  induction n with
  | zero =>
    intro h r hf
    rw [f_X11_street_51] at hf
    cases hf
  | succ n ih =>
    intro h r hf
    rw [f_X11_street_51] at hf
    refine r_aload_n 0 dX11_street_51 rfl ?_
    obtain ⟨v52, e52, hf⟩ := ob hf
    refine r_get dX11_street_52 fl_11_12 kw_4_67 (Or.inl rfl) (gI_sp e52) ?_
    refine r_if_ne (tgt := 83) dX11_street_55 (by decide) (fun c55 => ?_) (fun c55 => ?_)
    · replace hf := (if_pos c55).symm.trans hf
      refine r_aload_n 0 dX11_street_58 rfl ?_
      obtain ⟨v59, e59, hf⟩ := ob hf
      refine r_get dX11_street_59 fl_11_13 kw_4_68 (Or.inl rfl) (gI_sp e59) ?_
      refine r_if_eq (tgt := 76) dX11_street_62 (by decide) (fun c62 => ?_) (fun c62 => ?_)
      · replace hf := (if_pos c62).symm.trans hf
        exact r_sub [0] rfl (t_X11_street_76 G l _ (f_X11_street_51 this n) ih _ _ hf)
      · replace hf := (if_neg c62).symm.trans hf
        refine r_aload_n 0 dX11_street_65 rfl ?_
        obtain ⟨v66, e66, hf⟩ := ob hf
        refine r_get dX11_street_66 fl_11_11 kw_4_66 (Or.inl rfl) (gI_sp e66) ?_
        refine r_aload_n 0 dX11_street_69 rfl ?_
        obtain ⟨v70, e70, hf⟩ := ob hf
        refine r_get dX11_street_70 fl_11_10 kw_4_65 (Or.inl rfl) (gI_sp e70) ?_
        refine r_icmp_ge (tgt := 83) dX11_street_73 (by decide) (fun c73 => ?_) (fun c73 => ?_)
        · replace hf := (if_pos c73).symm.trans hf
          exact r_sub [0] rfl (t_X11_street_83 G l _ _ _ hf)
        · replace hf := (if_neg c73).symm.trans hf
          exact r_sub [0] rfl (t_X11_street_76 G l _ (f_X11_street_51 this n) ih _ _ hf)
    · replace hf := (if_neg c55).symm.trans hf
      exact r_sub [0] rfl (t_X11_street_83 G l _ _ _ hf)
def f_X11_street (h : Hp) (this : Nat) (x1 : Int32) : Option (Int32 × Hp) :=
    (pF h (some this) [11] 6 (vI (0 : Int32))).bind fun h2 =>
    (rcv h2 (some this) 11).bind fun a8 =>
    (f_X11_wrongSort h2 a8 x1 (0 : Int32)).bind fun v8 =>
    if 0 ≤ v8 then
      (pF h2 (some this) [11] 9 (vI ((100 : Int32) * x1))).bind fun h23 =>
      (gR h23 (some this) [11] 32).bind fun v28 =>
      (aI h23 v28 x1).bind fun v32 =>
      (pF h23 (some this) [11] 10 (vI v32)).bind fun h33 =>
      (pF h33 (some this) [11] 11 (vI (0 : Int32))).bind fun h38 =>
      (okZ (0 : Int32)).bind fun z43 =>
      (pF h38 (some this) [11] 12 (vI (0 : Int32))).bind fun h43 =>
      (pF h43 (some this) [11] 13 (vI (0 : Int32))).bind fun h48 =>
      f_X11_street_51 this 10000 h48
    else
      some (v8, h2)
set_option maxRecDepth 100000 in
set_option maxHeartbeats 4000000 in
theorem k_X11_street (G : Gx) (l : Launch) {h : Hp} {this : Nat} {x1 : Int32} {r : (Int32 × Hp)} (hf : f_X11_street h this x1 = some r) : KM l yX11_street (.code yX11_street cX11_street 4 (some .int) :: wsK) 5 116 G [vR (some this), vI x1] h (some (vI r.1)) r.2 := by
  refine r_entry (ctor := false) (own := RX11) (by decide +kernel) rfl (fun q => by cases q) (Nat.le_of_ble_eq_true rfl) ?_
  show RJ G l M_X11_street (some (vI r.1)) r.2 0 [(0, vR (some this)), (1, vI x1)] [] h
  unfold f_X11_street at hf
  refine r_aload_n 0 dX11_street_0 rfl ?_
  refine r_iconst (x := (0 : Int32)) dX11_street_1 (by decide) ?_
  obtain ⟨h2, e2, hf⟩ := ob hf
  refine r_put dX11_street_2 fl_11_6 kw_4_61 (Or.inl rfl) (by decide +kernel) (fit_int _) e2 ?_
  refine r_aload_n 0 dX11_street_5 rfl ?_
  refine r_iload_n 1 dX11_street_6 rfl ?_
  refine r_iconst (x := (0 : Int32)) dX11_street_7 (by decide) ?_
  obtain ⟨a8, ea8, hf⟩ := ob hf
  obtain ⟨v8, e8, hf⟩ := ob hf
  refine r_callV (y := yX11_wrongSort) (ci := 11) (avs := [vI x1, vI (0 : Int32)]) dX11_street_8 rfl kw_4_170 kw_4_172 kw_0_14 kw_1_5 kw_4_173 oky_X11_wrongSort ⟨Nat.le_of_ble_eq_true rfl, Nat.le_of_ble_eq_true rfl⟩ rfl (Nat.le_of_ble_eq_true rfl) ea8 (k_X11_wrongSort G l e8) ?_
  refine r_istore_n (lv' := [(2, vI v8), (0, vR (some this)), (1, vI x1)]) dX11_street_11 (Nat.le_of_ble_eq_true rfl) rfl ?_
  refine r_iload_n 0 dX11_street_12 rfl ?_
  refine r_if_ge (tgt := 18) dX11_street_13 (by decide) (fun c13 => ?_) (fun c13 => ?_)
  · replace hf := (if_pos c13).symm.trans hf
    refine r_aload_n 1 dX11_street_18 rfl ?_
    refine r_bipush (x := (100 : Int32)) dX11_street_19 (by decide) ?_
    refine r_iload_n 2 dX11_street_21 rfl ?_
    refine r_imul dX11_street_22 ?_
    obtain ⟨h23, e23, hf⟩ := ob hf
    refine r_put dX11_street_23 fl_11_9 kw_4_64 (Or.inl rfl) (by decide +kernel) (fit_int _) e23 ?_
    refine r_aload_n 1 dX11_street_26 rfl ?_
    refine r_aload_n 1 dX11_street_27 rfl ?_
    obtain ⟨v28, e28, hf⟩ := ob hf
    refine r_get dX11_street_28 fl_11_32 kw_4_87 (Or.inl rfl) (gR_sp e28) ?_
    refine r_iload_n 2 dX11_street_31 rfl ?_
    obtain ⟨v32, e32, hf⟩ := ob hf
    refine r_iaload dX11_street_32 e32 ?_
    obtain ⟨h33, e33, hf⟩ := ob hf
    refine r_put dX11_street_33 fl_11_10 kw_4_65 (Or.inl rfl) (by decide +kernel) (fit_int _) e33 ?_
    refine r_aload_n 1 dX11_street_36 rfl ?_
    refine r_iconst (x := (0 : Int32)) dX11_street_37 (by decide) ?_
    refine r_pc (pc' := 38) rfl ?_
    obtain ⟨h38, e38, hf⟩ := ob hf
    refine r_put dX11_street_38 fl_11_11 kw_4_66 (Or.inl rfl) (by decide +kernel) (fit_int _) e38 ?_
    refine r_aload_n 1 dX11_street_41 rfl ?_
    refine r_iconst (x := (0 : Int32)) dX11_street_42 (by decide) ?_
    obtain ⟨z43, ez43, hf⟩ := ob hf
    obtain ⟨-, ew43⟩ := okZ_sp ez43
    obtain ⟨h43, e43, hf⟩ := ob hf
    refine r_put dX11_street_43 fl_11_12 kw_4_67 (Or.inl rfl) (by decide +kernel) (fit_bool ew43) e43 ?_
    refine r_aload_n 1 dX11_street_46 rfl ?_
    refine r_iconst (x := (0 : Int32)) dX11_street_47 (by decide) ?_
    obtain ⟨h48, e48, hf⟩ := ob hf
    refine r_put dX11_street_48 fl_11_13 kw_4_68 (Or.inl rfl) (by decide +kernel) (fit_int _) e48 ?_
    exact r_sub [1] rfl (t_X11_street_51 G l _ _ _ _ hf)
  · replace hf := (if_neg c13).symm.trans hf
    refine r_iload_n 0 dX11_street_16 rfl ?_
    have hf := Option.some.inj hf
    subst hf
    exact r_iret rfl dX11_street_17
/-! ===== NumberedByAgeModel.taxOf(II)I ===== -/
abbrev M_X11_taxOf : Mx := (cX11_taxOf, 2, RX11, (false, []), (some .int), 0, 0)
def f_X11_taxOf (h : Hp) (x0 : Int32) (x1 : Int32) : Option Int32 :=
    if x0 = (1 : Int32) then
      some ((3 : Int32) + x1)
    else
    if x0 = (2 : Int32) then
      some (2 : Int32)
    else
    if x0 = (3 : Int32) then
      some (6 : Int32)
    else
    if x0 = (4 : Int32) then
      some (3 : Int32)
    else
    if x0 = (5 : Int32) then
      some (7 : Int32)
    else
    if x0 = (6 : Int32) then
      some ((6 : Int32) + ((2 : Int32) * x1))
    else
    if x0 = (7 : Int32) then
      some ((2 : Int32) - x1)
    else
      some (3 : Int32)
set_option maxRecDepth 100000 in
set_option maxHeartbeats 4000000 in
theorem k_X11_taxOf (G : Gx) (l : Launch) {h : Hp} {x0 : Int32} {x1 : Int32} {r : Int32} (hf : f_X11_taxOf h x0 x1 = some r) : KM l yX11_taxOf (.code yX11_taxOf cX11_taxOf 2 (some .int) :: wsK) 0 0 G [vI x0, vI x1] h (some (vI r)) h := by
  refine r_entry (ctor := false) (own := RX11) (by decide +kernel) rfl (fun q => by cases q) (Nat.le_of_ble_eq_true rfl) ?_
  show RJ G l M_X11_taxOf (some (vI r)) h 0 [(0, vI x0), (1, vI x1)] [] h
  unfold f_X11_taxOf at hf
  refine r_iload_n 0 dX11_taxOf_0 rfl ?_
  by_cases c1_0 : x0 = (1 : Int32)
  · replace hf := (if_pos c1_0).symm.trans hf
    refine r_tabIn (off := 43) (tgt := 44) dX11_taxOf_1 (by rw [c1_0]; decide +kernel) (by rw [c1_0]; decide +kernel) (by rw [c1_0]; decide +kernel) (by decide) ?_
    refine r_iconst (x := (3 : Int32)) dX11_taxOf_44 (by decide) ?_
    refine r_iload_n 1 dX11_taxOf_45 rfl ?_
    refine r_iadd dX11_taxOf_46 ?_
    have hf := Option.some.inj hf
    subst hf
    exact r_iret rfl dX11_taxOf_47
  · replace hf := (if_neg c1_0).symm.trans hf
    by_cases c1_1 : x0 = (2 : Int32)
    · replace hf := (if_pos c1_1).symm.trans hf
      refine r_tabIn (off := 47) (tgt := 48) dX11_taxOf_1 (by rw [c1_1]; decide +kernel) (by rw [c1_1]; decide +kernel) (by rw [c1_1]; decide +kernel) (by decide) ?_
      refine r_iconst (x := (2 : Int32)) dX11_taxOf_48 (by decide) ?_
      have hf := Option.some.inj hf
      subst hf
      exact r_iret rfl dX11_taxOf_49
    · replace hf := (if_neg c1_1).symm.trans hf
      by_cases c1_2 : x0 = (3 : Int32)
      · replace hf := (if_pos c1_2).symm.trans hf
        refine r_tabIn (off := 49) (tgt := 50) dX11_taxOf_1 (by rw [c1_2]; decide +kernel) (by rw [c1_2]; decide +kernel) (by rw [c1_2]; decide +kernel) (by decide) ?_
        refine r_bipush (x := (6 : Int32)) dX11_taxOf_50 (by decide) ?_
        have hf := Option.some.inj hf
        subst hf
        exact r_iret rfl dX11_taxOf_52
      · replace hf := (if_neg c1_2).symm.trans hf
        by_cases c1_3 : x0 = (4 : Int32)
        · replace hf := (if_pos c1_3).symm.trans hf
          refine r_tabIn (off := 66) (tgt := 67) dX11_taxOf_1 (by rw [c1_3]; decide +kernel) (by rw [c1_3]; decide +kernel) (by rw [c1_3]; decide +kernel) (by decide) ?_
          refine r_iconst (x := (3 : Int32)) dX11_taxOf_67 (by decide) ?_
          have hf := Option.some.inj hf
          subst hf
          exact r_iret rfl dX11_taxOf_68
        · replace hf := (if_neg c1_3).symm.trans hf
          by_cases c1_4 : x0 = (5 : Int32)
          · replace hf := (if_pos c1_4).symm.trans hf
            refine r_tabIn (off := 52) (tgt := 53) dX11_taxOf_1 (by rw [c1_4]; decide +kernel) (by rw [c1_4]; decide +kernel) (by rw [c1_4]; decide +kernel) (by decide) ?_
            refine r_bipush (x := (7 : Int32)) dX11_taxOf_53 (by decide) ?_
            have hf := Option.some.inj hf
            subst hf
            exact r_iret rfl dX11_taxOf_55
          · replace hf := (if_neg c1_4).symm.trans hf
            by_cases c1_5 : x0 = (6 : Int32)
            · replace hf := (if_pos c1_5).symm.trans hf
              refine r_tabIn (off := 55) (tgt := 56) dX11_taxOf_1 (by rw [c1_5]; decide +kernel) (by rw [c1_5]; decide +kernel) (by rw [c1_5]; decide +kernel) (by decide) ?_
              refine r_bipush (x := (6 : Int32)) dX11_taxOf_56 (by decide) ?_
              refine r_iconst (x := (2 : Int32)) dX11_taxOf_58 (by decide) ?_
              refine r_iload_n 1 dX11_taxOf_59 rfl ?_
              refine r_imul dX11_taxOf_60 ?_
              refine r_iadd dX11_taxOf_61 ?_
              have hf := Option.some.inj hf
              subst hf
              exact r_iret rfl dX11_taxOf_62
            · replace hf := (if_neg c1_5).symm.trans hf
              by_cases c1_6 : x0 = (7 : Int32)
              · replace hf := (if_pos c1_6).symm.trans hf
                refine r_tabIn (off := 62) (tgt := 63) dX11_taxOf_1 (by rw [c1_6]; decide +kernel) (by rw [c1_6]; decide +kernel) (by rw [c1_6]; decide +kernel) (by decide) ?_
                refine r_iconst (x := (2 : Int32)) dX11_taxOf_63 (by decide) ?_
                refine r_iload_n 1 dX11_taxOf_64 rfl ?_
                refine r_isub dX11_taxOf_65 ?_
                have hf := Option.some.inj hf
                subst hf
                exact r_iret rfl dX11_taxOf_66
              · replace hf := (if_neg c1_6).symm.trans hf
                refine r_tabOut (tgt := 67) dX11_taxOf_1 (by have g0 := lv_neT (k := (1 : Int32)) c1_0 (by decide : ((1 : Int32)).toInt = 1); have g1 := lv_neT (k := (2 : Int32)) c1_1 (by decide : ((2 : Int32)).toInt = 2); have g2 := lv_neT (k := (3 : Int32)) c1_2 (by decide : ((3 : Int32)).toInt = 3); have g3 := lv_neT (k := (4 : Int32)) c1_3 (by decide : ((4 : Int32)).toInt = 4); have g4 := lv_neT (k := (5 : Int32)) c1_4 (by decide : ((5 : Int32)).toInt = 5); have g5 := lv_neT (k := (6 : Int32)) c1_5 (by decide : ((6 : Int32)).toInt = 6); have g6 := lv_neT (k := (7 : Int32)) c1_6 (by decide : ((7 : Int32)).toInt = 7); omega) (by decide) ?_
                refine r_iconst (x := (3 : Int32)) dX11_taxOf_67 (by decide) ?_
                have hf := Option.some.inj hf
                subst hf
                exact r_iret rfl dX11_taxOf_68
/-! ===== NumberedByAgeModel.tax(I)I ===== -/
abbrev M_X11_tax : Mx := (cX11_tax, 2, RX11, (false, []), (some .int), 2, 46)
def f_X11_tax (h : Hp) (this : Nat) (x1 : Int32) : Option (Int32 × Hp) :=
    (pF h (some this) [11] 6 (vI (0 : Int32))).bind fun h2 =>
    (rcv h2 (some this) 11).bind fun a7 =>
    (f_X11_wrongLaw h2 a7 x1).bind fun v7 =>
    if 0 ≤ v7 then
      (gR h2 (some this) [11] 29).bind fun v22 =>
      (aI h2 v22 x1).bind fun v26 =>
      (gR h2 (some this) [11] 30).bind fun v28 =>
      (aI h2 v28 x1).bind fun v32 =>
      (f_X11_taxOf h2 v26 v32).bind fun v33 =>
      some (v33, h2)
    else
      (rcv h2 (some this) 11).bind fun a15 =>
      (f_X11_wrongLaw h2 a15 x1).bind fun v15 =>
      some (v15, h2)
set_option maxRecDepth 100000 in
set_option maxHeartbeats 4000000 in
theorem k_X11_tax (G : Gx) (l : Launch) {h : Hp} {this : Nat} {x1 : Int32} {r : (Int32 × Hp)} (hf : f_X11_tax h this x1 = some r) : KM l yX11_tax (.code yX11_tax cX11_tax 2 (some .int) :: wsK) 2 46 G [vR (some this), vI x1] h (some (vI r.1)) r.2 := by
  refine r_entry (ctor := false) (own := RX11) (by decide +kernel) rfl (fun q => by cases q) (Nat.le_of_ble_eq_true rfl) ?_
  show RJ G l M_X11_tax (some (vI r.1)) r.2 0 [(0, vR (some this)), (1, vI x1)] [] h
  unfold f_X11_tax at hf
  refine r_aload_n 0 dX11_tax_0 rfl ?_
  refine r_iconst (x := (0 : Int32)) dX11_tax_1 (by decide) ?_
  obtain ⟨h2, e2, hf⟩ := ob hf
  refine r_put dX11_tax_2 fl_11_6 kw_4_61 (Or.inl rfl) (by decide +kernel) (fit_int _) e2 ?_
  refine r_aload_n 0 dX11_tax_5 rfl ?_
  refine r_iload_n 1 dX11_tax_6 rfl ?_
  obtain ⟨a7, ea7, hf⟩ := ob hf
  obtain ⟨v7, e7, hf⟩ := ob hf
  refine r_callV (y := yX11_wrongLaw) (ci := 11) (avs := [vI x1]) dX11_tax_7 rfl kw_5_28 kw_5_30 kw_0_30 kw_1_5 kw_5_31 oky_X11_wrongLaw ⟨Nat.le_of_ble_eq_true rfl, Nat.le_of_ble_eq_true rfl⟩ rfl (Nat.le_of_ble_eq_true rfl) ea7 (k_X11_wrongLaw G l e7) ?_
  refine r_if_ge (tgt := 21) dX11_tax_10 (by decide) (fun c10 => ?_) (fun c10 => ?_)
  · replace hf := (if_pos c10).symm.trans hf
    refine r_aload_n 0 dX11_tax_21 rfl ?_
    obtain ⟨v22, e22, hf⟩ := ob hf
    refine r_get dX11_tax_22 fl_11_29 kw_4_84 (Or.inl rfl) (gR_sp e22) ?_
    refine r_iload_n 1 dX11_tax_25 rfl ?_
    obtain ⟨v26, e26, hf⟩ := ob hf
    refine r_iaload dX11_tax_26 e26 ?_
    refine r_aload_n 0 dX11_tax_27 rfl ?_
    obtain ⟨v28, e28, hf⟩ := ob hf
    refine r_get dX11_tax_28 fl_11_30 kw_4_85 (Or.inl rfl) (gR_sp e28) ?_
    refine r_iload_n 1 dX11_tax_31 rfl ?_
    obtain ⟨v32, e32, hf⟩ := ob hf
    refine r_iaload dX11_tax_32 e32 ?_
    obtain ⟨v33, e33, hf⟩ := ob hf
    refine r_callS (y := yX11_taxOf) (avs := [vI v26, vI v32]) dX11_tax_33 kw_5_189 kw_5_190 kw_1_5 kw_5_191 oky_X11_taxOf ⟨Nat.le_of_ble_eq_true rfl, Nat.le_of_ble_eq_true rfl⟩ rfl (Nat.le_of_ble_eq_true rfl) (k_X11_taxOf G l e33) ?_
    have hf := Option.some.inj hf
    subst hf
    exact r_iret rfl dX11_tax_36
  · replace hf := (if_neg c10).symm.trans hf
    refine r_aload_n 0 dX11_tax_13 rfl ?_
    refine r_iload_n 1 dX11_tax_14 rfl ?_
    obtain ⟨a15, ea15, hf⟩ := ob hf
    obtain ⟨v15, e15, hf⟩ := ob hf
    refine r_callV (y := yX11_wrongLaw) (ci := 11) (avs := [vI x1]) dX11_tax_15 rfl kw_5_28 kw_5_30 kw_0_30 kw_1_5 kw_5_31 oky_X11_wrongLaw ⟨Nat.le_of_ble_eq_true rfl, Nat.le_of_ble_eq_true rfl⟩ rfl (Nat.le_of_ble_eq_true rfl) ea15 (k_X11_wrongLaw G l e15) ?_
    refine r_goto (tgt := 36) dX11_tax_18 (by decide) ?_
    have hf := Option.some.inj hf
    subst hf
    exact r_iret rfl dX11_tax_36
/-! ===== NumberedByAgeModel.thrown()I ===== -/
abbrev M_X11_thrown : Mx := (cX11_thrown, 1, RX11, (false, []), (some .int), 0, 0)
def f_X11_thrown (h : Hp) (this : Nat) : Option Int32 :=
    (gI h (some this) [11] 6).bind fun v1 =>
    some v1
set_option maxRecDepth 100000 in
set_option maxHeartbeats 4000000 in
theorem k_X11_thrown (G : Gx) (l : Launch) {h : Hp} {this : Nat} {r : Int32} (hf : f_X11_thrown h this = some r) : KM l yX11_thrown (.code yX11_thrown cX11_thrown 1 (some .int) :: wsK) 0 0 G [vR (some this)] h (some (vI r)) h := by
  refine r_entry (ctor := false) (own := RX11) (by decide +kernel) rfl (fun q => by cases q) (Nat.le_of_ble_eq_true rfl) ?_
  show RJ G l M_X11_thrown (some (vI r)) h 0 [(0, vR (some this))] [] h
  unfold f_X11_thrown at hf
  refine r_aload_n 0 dX11_thrown_0 rfl ?_
  obtain ⟨v1, e1, hf⟩ := ob hf
  refine r_get dX11_thrown_1 fl_11_6 kw_4_61 (Or.inl rfl) (gI_sp e1) ?_
  have hf := Option.some.inj hf
  subst hf
  exact r_iret rfl dX11_thrown_4
