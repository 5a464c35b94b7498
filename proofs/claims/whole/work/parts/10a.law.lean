def f_L_element (h : Hp) (x0 : Option Nat) (x1 x2 : Int32) (x3 : Option Nat) : Option (Int32 × Hp) :=
  (rcv h x0 10).bind fun a => match f_X10_element h a x1 x2 with
    | some v => (wL h x3 (0 : Int32) v).bind fun h2 => some ((0 : Int32), h2)
    | none => (f_X10_element_T h a x1 x2).bind fun t => if t.1 = xIAE then some ((1 : Int32), t.2) else if t.1 = xISE then some ((2 : Int32), t.2) else none
abbrev M_L_element : Mx := (cL_element, 5, RL, (false, [(0, 9, 12, 13), (0, 9, 16, 15)]), (some .int), 7, 123)
set_option maxRecDepth 100000 in
set_option maxHeartbeats 4000000 in
theorem k_L_element (G : Gx) (l : Launch) (hfl : l.stackTraces = false) {h : Hp} {x0 : Option Nat} {x1 x2 : Int32} {x3 : Option Nat} {r : Int32 × Hp} (hf : f_L_element h x0 x1 x2 x3 = some r) : KW l yL_element (.codeWith yL_element cL_element 5 (some .int) [(0, 9, 12, 13), (0, 9, 16, 15)] :: wsK) 7 123 G [vR x0, vI x1, vI x2, vR x3] h (some (vI r.1)) r.2 := by
  refine r_entryW (own := RL) (by decide +kernel) rfl (Nat.le_of_ble_eq_true rfl) ?_
  show RQ G l M_L_element (qW G (some (vI r.1)) r.2) r.2 0 [(0, vR x0), (1, vI x1), (2, vI x2), (3, vR x3)] [] h
  unfold f_L_element at hf
  obtain ⟨a, ea, hf⟩ := ob hf
  refine r_aload_n 3 dL_element_0 rfl ?_
  refine r_iconst (x := (0 : Int32)) dL_element_1 (by decide) ?_
  refine r_aload_n 0 dL_element_2 rfl ?_
  refine r_iload_n 1 dL_element_3 rfl ?_
  refine r_iload_n 2 dL_element_4 rfl ?_
  split at hf
  · rename_i v hv
    obtain ⟨h2, e2, hf⟩ := ob hf
    refine r_callV (y := yX10_element) (ci := 10) (avs := [vI x1, vI x2]) dL_element_5 rfl kw_4_41 kw_4_42 kw_4_43 kw_1_1 kw_4_44 oky_X10_element ⟨Nat.le_of_ble_eq_true rfl, Nat.le_of_ble_eq_true rfl⟩ rfl (Nat.le_of_ble_eq_true rfl) ea (k_X10_element G l hv) ?_
    refine r_lastore dL_element_8 e2 ?_
    refine r_goto (tgt := 20) dL_element_9 (by decide) ?_
    refine r_iconst (x := (0 : Int32)) dL_element_20 (by decide) ?_
    have hf := Option.some.inj hf
    subst hf
    exact (r_iret rfl dL_element_21).vx
  · obtain ⟨⟨E, h2⟩, et, hf⟩ := ob hf
    dsimp only at hf
    by_cases c1 : E = xIAE
    · replace hf := (if_pos c1).symm.trans hf
      subst c1
      have hf := Option.some.inj hf
      subst hf
      refine r_callVX (E := xIAE) (preT := []) (xT := (0, 9, 12, 13)) (sufT := [(0, 9, 16, 15)]) (y := yX10_element) (ci := 10) (avs := [vI x1, vI x2]) dL_element_5 rfl kw_4_41 kw_4_42 kw_4_43 kw_1_1 kw_4_44 oky_X10_element ⟨Nat.le_of_ble_eq_true rfl, Nat.le_of_ble_eq_true rfl⟩ rfl (Nat.le_of_ble_eq_true rfl) ea (k_X10_element_T G l hfl et) rfl (by decide +kernel) (fun z hz => nomatch hz) rfl (by decide) kw_4_39 Le.rf (fun q => ?_)
      refine r_astoreX (lv' := [(4, vX q), (0, vR x0), (1, vI x1), (2, vI x2), (3, vR x3)]) dL_element_12 (Nat.le_of_ble_eq_true rfl) rfl ?_
      refine r_iconst (x := (1 : Int32)) dL_element_14 (by decide) ?_
      exact (r_iret rfl dL_element_15).vx
    · replace hf := (if_neg c1).symm.trans hf
      by_cases c2 : E = xISE
      · replace hf := (if_pos c2).symm.trans hf
        subst c2
        have hf := Option.some.inj hf
        subst hf
        refine r_callVX (E := xISE) (preT := [(0, 9, 12, 13)]) (xT := (0, 9, 16, 15)) (sufT := []) (y := yX10_element) (ci := 10) (avs := [vI x1, vI x2]) dL_element_5 rfl kw_4_41 kw_4_42 kw_4_43 kw_1_1 kw_4_44 oky_X10_element ⟨Nat.le_of_ble_eq_true rfl, Nat.le_of_ble_eq_true rfl⟩ rfl (Nat.le_of_ble_eq_true rfl) ea (k_X10_element_T G l hfl et) rfl (by decide +kernel) (fun z hz => by rw [List.mem_singleton.mp hz]; exact ⟨by decide, xIAE, kw_4_39, by decide +kernel⟩) rfl (by decide) kw_4_40 Le.rf (fun q => ?_)
        refine r_astoreX (lv' := [(4, vX q), (0, vR x0), (1, vI x1), (2, vI x2), (3, vR x3)]) dL_element_16 (Nat.le_of_ble_eq_true rfl) rfl ?_
        refine r_iconst (x := (2 : Int32)) dL_element_18 (by decide) ?_
        exact (r_iret rfl dL_element_19).vx
      · replace hf := (if_neg c2).symm.trans hf
        cases hf

