/-! element, row. -/
section OPS7
variable {A V A' V' : Nat → Nat → Int32} {R R' : Nat → Nat → Option Nat} {B B' : Nat → Nat → Int64} {J : List En}
theorem op_26 (x1 x2 : Int32) : OkE (fun h => f_L_element h (some 0) x1 x2 (some 67)) (fun h => f_X11_element h 45 x1 x2) := by
  intro A V R B J h
  have fin : ∀ J1 y, Inv A (upV V 45 6 y) R B (J ++ J1) := fun J1 y => h.frm J1 (Frm.v (Or.inr ⟨rfl, by decide⟩))
  have eJ1 : ([eJ 6] : List En).length ≤ 32 ∧ sl [eJ 6] ≤ 64 := ⟨by decide, by decide⟩
  have p20 : ((2 : Int32) ≤ 0) = False := by decide
  have p10 : ((1 : Int32) ≤ 0) = False := by decide
  have xx : ¬ xISE = xIAE := by decide
  rcases c_shelf x1 with ⟨d, hd, rfl, hc⟩ | ⟨hc, hn⟩
  · have ht := isSh_d hd
    have cd : (Int32.ofNat d).toNatClampNeg = d := cn (by omega)
    have id8 : inB (Int32.ofNat d) 8 = true := ib hd (by decide)
    have two : ∀ J1 : List En, (A 60 d = 0 ∨ A 60 d = 1) → f_X11_element (mk A V R B (J ++ J1)) 45 (nN d) x2 = some (0, mk A (upV V 45 6 2) R B (J ++ J1)) := by
      intro J1 q
      rcases q with q | q
      · have e : f_X11_wrongRow (mk A V R B (J ++ J1)) 45 (nN d) = some (-11) := by rw [m_wrongRow hd, q]; rfl
        have a1 : ((-11 : Int32) = -1) = False := by decide
        have a2 : ((-11 : Int32) < 0) = True := by decide
        simp only [f_X11_element, f_X11_element_38, f_X11_element_43, rm, Option.bind_some, e, a1, a2, if_true, if_false, pm_6, gm_6, uV_eq, p20]
      · have e : f_X11_wrongRow (mk A V R B (J ++ J1)) 45 (nN d) = some (-12) := by rw [m_wrongRow hd, q]; rfl
        have a1 : ((-12 : Int32) = -1) = False := by decide
        have a2 : ((-12 : Int32) < 0) = True := by decide
        simp only [f_X11_element, f_X11_element_38, f_X11_element_43, rm, Option.bind_some, e, a1, a2, if_true, if_false, pm_6, gm_6, uV_eq, p20]
    have cls : V (29 + 2 * d) 1 = -1 → f_L_element (mk A V R B J) (some 0) (nN d) x2 (some 67) = some (2, mk A V R B (J ++ [eJ 6])) := by
      intro q
      have r : f_X5_holdsRow (mk A V R B J) (29 + 2 * d) = some 0 := by
        simp only [f_X5_holdsRow, gh_1 ht, Option.bind_some, q, if_true, okZ0]
      have e1 : f_X10_element (mk A V R B J) 0 (nN d) x2 = none := by
        simp only [f_X10_element, f_X10_element_35, ro, Option.bind_some, hc, reduceCtorEq, if_false, rh ht, r, if_true]
      have e2 : f_X10_element_T (mk A V R B J) 0 (nN d) x2 = some (xISE, mk A V R B (J ++ [eJ 6])) := by
        simp only [f_X10_element_T, f_X10_element_T_35, ro, Option.bind_some, hc, reduceCtorEq, if_false, rh ht, r, if_true, mk_push]
      simp only [f_L_element, ro, Option.bind_some, e1, e2, if_neg xx, if_true]
    rcases h.2.2 d hd with ⟨s1, s2, s3⟩ | ⟨k, f, s1, s2, s3, s4, s5⟩ | ⟨s, n, s0, s1, s2, s3, s4, s5, s6, s7, s8⟩
    · exact ⟨2, 0, A, V, R, B, [eJ 6], A, upV V 45 6 2, R, B, cls s2, two _ (Or.inl s3), fin _ _, eJ1, uV_eq, fun q => absurd q (by decide)⟩
    · exact ⟨2, 0, A, V, R, B, [eJ 6], A, upV V 45 6 2, R, B, cls s2, two _ (Or.inr s3), fin _ _, eJ1, uV_eq, fun q => absurd q (by decide)⟩
    · have r : f_X5_holdsRow (mk A V R B J) (29 + 2 * d) = some 1 := by
        simp only [f_X5_holdsRow, gh_1 ht, Option.bind_some, s3, sort_ne s0, if_false, okZ1]
      have hm1 : ∀ (B : Nat → Nat → Int64) (J1 : List En), f_X11_wrongRow (mk A V R B (J ++ J1)) 45 (nN d) = some 0 := by
        intro B J1
        rw [m_wrongRow hd, s5]
        rfl
      have a1 : ((0 : Int32) = -1) = False := by decide
      have a2 : ((0 : Int32) < 0) = False := by decide
      rcases c_place (A := A) (R := R) (B := B) (J := J) (x := x2) ht s1 s4 with ⟨i, hi, rfl, ⟨p1, p2⟩, p3⟩ | ⟨p1, p2⟩
      · have ib2 : inB (nN (100 * d + i)) 800 = true := ib (show 100 * d + i < 800 by omega) (by decide)
        have e30 : 30 + 2 * d = 29 + 2 * d + 1 := by omega
        have s8' := (s8 i hi).2
        rw [e30] at s8'
        refine ⟨0, (A (29 + 2 * d + 1) i).toInt64, A, V, R, upB B 67 (vp_updL (B 67) 0 (A (29 + 2 * d + 1) i).toInt64), [], A, upV V 45 6 0, R, upB B 67 (vp_updL (B 67) 0 (A (29 + 2 * d + 1) i).toInt64), ?_, ?_, ?_, ⟨Nat.zero_le _, Nat.zero_le _⟩, uV_eq, fun _ => ?_⟩
        · rw [List.append_nil]
          have e1 : f_X10_element (mk A V R B J) 0 (nN d) (nN i) = some (A (29 + 2 * d + 1) i).toInt64 := by
            simp only [f_X10_element, ro, Option.bind_some, hc, reduceCtorEq, if_false, rh ht, r, one_ne, p2, c_at ht s1 s4 (show i < 2147483648 by omega), if_pos hi]
          simp only [f_L_element, ro, Option.bind_some, e1, wm_67, ib1, if_true, z0]
        · simp only [f_X11_element, f_X11_element_43, rm, Option.bind_some, hm1, a1, a2, if_false, gm_32, am_64, id8, if_true, cd, s7, m_sz, if_pos p3, one_ne, pm_6, gm_6, uV_eq, Int32.le_refl, gm_33, idx, am_65, ib2, cn (show 100 * d + i < 2147483648 by omega)]
          rw [uB_ne (by decide), s8']
        · exact h.frm [] (Frm.tr (Frm.b (by decide)) (Frm.v (Or.inr ⟨rfl, by decide⟩)))
        · rw [uB_eq, updL_eq]
      · refine ⟨2, 0, A, V, R, B, [eJ 6], A, upV V 45 6 2, R, B, ?_, ?_, fin _ _, eJ1, uV_eq, fun q => absurd q (by decide)⟩
        · have e1 : f_X10_element (mk A V R B J) 0 (nN d) x2 = none := by
            simp only [f_X10_element, f_X10_element_35, ro, Option.bind_some, hc, reduceCtorEq, if_false, rh ht, r, one_ne, p1, if_true]
          have e2 : f_X10_element_T (mk A V R B J) 0 (nN d) x2 = some (xISE, mk A V R B (J ++ [eJ 6])) := by
            simp only [f_X10_element_T, f_X10_element_T_35, ro, Option.bind_some, hc, reduceCtorEq, if_false, rh ht, r, one_ne, p1, if_true, mk_push]
          simp only [f_L_element, ro, Option.bind_some, e1, e2, if_neg xx, if_true]
        · simp only [f_X11_element, f_X11_element_38, f_X11_element_43, rm, Option.bind_some, hm1, a1, a2, if_false, gm_32, am_64, id8, if_true, cd, s7, m_sz, if_neg p2, pm_6, gm_6, uV_eq, p20]
  · have e1 : f_X10_element (mk A V R B J) 0 x1 x2 = none := by
      simp only [f_X10_element, ro, Option.bind_some, hc, if_true]
    have e2 : f_X10_element_T (mk A V R B J) 0 x1 x2 = some (xIAE, mk A V R B (J ++ [eJ 6])) := by
      simp only [f_X10_element_T, ro, Option.bind_some, hc, if_true, mk_push]
    refine ⟨1, 0, A, V, R, B, [eJ 6], A, upV V 45 6 1, R, B, ?_, ?_, fin _ _, eJ1, uV_eq, fun q => absurd q (by decide)⟩
    · simp only [f_L_element, ro, Option.bind_some, e1, e2, if_true]
    · simp only [f_X11_element, f_X11_element_43, rm, Option.bind_some, m_wrongRowN hn, if_true, pm_6, gm_6, uV_eq, p10, if_false]
end OPS7
