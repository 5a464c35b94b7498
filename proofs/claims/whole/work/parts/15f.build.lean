/-! build, burn -/
section BUI
variable {A V : Nat → Nat → Int32} {R : Nat → Nat → Option Nat} {B : Nat → Nat → Int64} {J : List En}
theorem m_builds {p x : Nat} {T : Tn} (w : Wf T) (mo : MoRep A V T) (hp : p < 12) (hE : tE T < 30) : ∃ A2, f_X11_builds (mk A V R B J) 45 (nN p) (nN x) = some (mk A2 (upV V 45 2 (nN (tE T + 1))) R B J) ∧ ((∀ a, ¬ (46 ≤ a ∧ a ≤ 50) → A2 a = A a) ∧ MoRep A2 (upV V 45 2 (nN (tE T + 1))) (rsT T p x)) := by
  obtain ⟨A', e1, hA, lk⟩ := m_lookNow (R := R) (B := B) (J := J) w mo
  refine ⟨upA (upA (upA A' 48 (upd (A' 48) p (nN (numT T p x)))) 46 (upd (A' 46) (tE T) (nN p))) 47 (upd (A' 47) (tE T) (nN x)), ?_, fun a ha => ?_, ?_⟩
  · unfold f_X11_builds
    rw [rm, Option.bind_some, e1, Option.bind_some, gm_5, Option.bind_some, gm_0, Option.bind_some, gm_1, Option.bind_some, mo.1.1, mo.1.2.1, rm, Option.bind_some, m_numT hp w lk, Option.bind_some, wm_48, ib12 hp, if_pos rfl, Option.bind_some, c12 hp, gm_3, Option.bind_some, gm_2, Option.bind_some, mo.1.2.2, wm_46, ib30 hE, if_pos rfl, Option.bind_some, c30 hE, gm_4, Option.bind_some, gm_2, Option.bind_some, mo.1.2.2, wm_47, ib30 hE, if_pos rfl, Option.bind_some, c30 hE, gm_2, Option.bind_some, mo.1.2.2, pm_2, Option.bind_some, n_s, uA_ne (show 46 ≠ 48 by decide), uA_ne (show 47 ≠ 46 by decide), uA_ne (show 47 ≠ 48 by decide)]
  · rw [uA_ne (by omega), uA_ne (by omega), uA_ne (by omega)]
    exact hA a (by omega) (by omega)
  · have h46 : A' 46 = A 46 := hA 46 (by decide) (by decide)
    have h47 : A' 47 = A 47 := hA 47 (by decide) (by decide)
    have h48 : A' 48 = A 48 := hA 48 (by decide) (by decide)
    rw [h46, h47, h48]
    refine mo.ev ⟨uV_ne (by decide), uV_ne (by decide)⟩ uV_eq (fun q hq => ?_) (fun e he => ?_) ?_
    · rw [uA_ne (by decide), uA_ne (by decide), uA_eq]
      unfold upd
      rfl
    · rw [uA_eq, uA_ne (show 46 ≠ 47 by decide), uA_eq, upd_ne (by omega), upd_ne (by omega)]
      exact ⟨rfl, rfl⟩
    · rw [uA_eq, uA_ne (show 46 ≠ 47 by decide), uA_eq, upd_eq, upd_eq]
      exact ⟨rfl, rfl⟩
theorem m_burns {p : Nat} {T : Tn} (mo : MoRep A V T) (hp : p < 12) (hE : tE T < 30) : ∃ A2, f_X11_burns (mk A V R B J) 45 (nN p) = some (mk A2 (upV V 45 2 (nN (tE T + 1))) R B J) ∧ ((∀ a, ¬ (46 ≤ a ∧ a ≤ 50) → A2 a = A a) ∧ MoRep A2 (upV V 45 2 (nN (tE T + 1))) (rzT T p)) := by
  refine ⟨upA (upA (upA A 48 (upd (A 48) p 0)) 46 (upd (A 46) (tE T) (nN p))) 47 (upd (A 47) (tE T) 0), ?_, fun a ha => ?_, ?_⟩
  · unfold f_X11_burns
    rw [gm_5, Option.bind_some, wm_48, ib12 hp, if_pos rfl, Option.bind_some, c12 hp, gm_3, Option.bind_some, gm_2, Option.bind_some, mo.1.2.2, wm_46, ib30 hE, if_pos rfl, Option.bind_some, c30 hE, gm_4, Option.bind_some, gm_2, Option.bind_some, mo.1.2.2, wm_47, ib30 hE, if_pos rfl, Option.bind_some, c30 hE, gm_2, Option.bind_some, mo.1.2.2, pm_2, Option.bind_some, n_s, uA_ne (show 46 ≠ 48 by decide), uA_ne (show 47 ≠ 46 by decide), uA_ne (show 47 ≠ 48 by decide)]
  · rw [uA_ne (by omega), uA_ne (by omega), uA_ne (by omega)]
  · refine mo.ev ⟨uV_ne (by decide), uV_ne (by decide)⟩ uV_eq (fun q hq => ?_) (fun e he => ?_) ?_
    · rw [uA_ne (by decide), uA_ne (by decide), uA_eq]
      unfold upd
      rfl
    · rw [uA_eq, uA_ne (show 46 ≠ 47 by decide), uA_eq, upd_ne (by omega), upd_ne (by omega)]
      exact ⟨rfl, rfl⟩
    · rw [uA_eq, uA_ne (show 46 ≠ 47 by decide), uA_eq, upd_eq, upd_eq]
      exact ⟨rfl, rfl⟩
/-- both refuse -/
theorem no2 {fc fm : Hp → Option (Int32 × Hp)} {x : Int32} (h : Inv A V R B J) (hc : fc (mk A V R B J) = some (x, mk A V R B J)) (hm : fm (mk A V R B J) = some (x, mk A (upV V 45 6 0) R B J)) : ∃ x A1 V1 R1 B1 J1 A2 V2 R2 B2, fc (mk A V R B J) = some (x, mk A1 V1 R1 B1 (J ++ J1)) ∧ (fm (mk A1 V1 R1 B1 (J ++ J1)) = some (x, mk A2 V2 R2 B2 (J ++ J1)) ∧ (Inv A2 V2 R2 B2 (J ++ J1) ∧ (J1.length ≤ 32 ∧ sl J1 ≤ 64))) := by
  refine ⟨x, A, V, R, B, [], A, upV V 45 6 0, R, B, ?_, ?_, ?_, Nat.zero_le _, Nat.zero_le _⟩
  · rw [List.append_nil]; exact hc
  · rw [List.append_nil]; exact hm
  · rw [List.append_nil]; exact h.thr
theorem yes2 {fc fm : Hp → Option (Int32 × Hp)} {x : Int32} {A1 V1 A2 V2 : Nat → Nat → Int32} {R1 R2 : Nat → Nat → Option Nat} {B1 B2 : Nat → Nat → Int64} (hc : fc (mk A V R B J) = some (x, mk A1 V1 R1 B1 J)) (hm : fm (mk A1 V1 R1 B1 J) = some (x, mk A2 V2 R2 B2 J)) (hI : Inv A2 V2 R2 B2 (J ++ [])) : ∃ x A1 V1 R1 B1 J1 A2 V2 R2 B2, fc (mk A V R B J) = some (x, mk A1 V1 R1 B1 (J ++ J1)) ∧ (fm (mk A1 V1 R1 B1 (J ++ J1)) = some (x, mk A2 V2 R2 B2 (J ++ J1)) ∧ (Inv A2 V2 R2 B2 (J ++ J1) ∧ (J1.length ≤ 32 ∧ sl J1 ≤ 64))) := by
  refine ⟨x, A1, V1, R1, B1, [], A2, V2, R2, B2, ?_, ?_, hI, Nat.zero_le _, Nat.zero_le _⟩
  · rw [List.append_nil]; exact hc
  · rw [List.append_nil]; exact hm
theorem StRep.far {A' V' : Nat → Nat → Int32} {R' : Nat → Nat → Option Nat} {t : Nat} {T : Tn} (h : StRep A V R J t T) (ha : ∀ j, j < 6 → A' (t + 1 + j) = A (t + 1 + j)) (h7 : V' t 7 = V t 7) (h8 : V' t 8 = V t 8) (h9 : R' t 9 = R t 9) : StRep A' V' R' J t T := by
  have := h.cong (J' := []) ha h7 h8 h9
  rwa [List.append_nil] at this
theorem c_raise_3 {t p x : Nat} {T : Tn} (ht : isSt t) (w : Wf T) (st : StRep A V R J t T) (hp : p < 12) (hx : ∀ h, f_X10_isHeight h (nN x) = some 1) (h0 : tN T p ≠ 0) : f_X8_raise (mk A V R B J) t (nN p) (nN x) = some (-3, mk A V R B J) := by
  have hpl := (plot_p hp).1
  unfold f_X8_raise
  rw [hpl, Option.bind_some, if_neg (by decide), hx, Option.bind_some, if_neg (by decide), rs ht, Option.bind_some, c_hasHouse ht hp hpl, Option.bind_some, st.2.2.2.1 p hp, if_neg (n_ne0 h0 (by have := w.num p hp; omega)), if_neg (by decide)]
theorem c_raise_2 {t p x : Nat} {T : Tn} (ht : isSt t) (st : StRep A V R J t T) (hp : p < 12) (hx : ∀ h, f_X10_isHeight h (nN x) = some 1) (h0 : tN T p = 0) (hE : tE T = 30) : f_X8_raise (mk A V R B J) t (nN p) (nN x) = some (-2, mk A V R B J) := by
  have hpl := (plot_p hp).1
  unfold f_X8_raise
  rw [hpl, Option.bind_some, if_neg (by decide), hx, Option.bind_some, if_neg (by decide), rs ht, Option.bind_some, c_hasHouse ht hp hpl, Option.bind_some, st.2.2.2.1 p hp, h0, if_pos (show nN 0 = 0 from rfl), if_pos rfl, gs_7 ht, Option.bind_some, st.1.1, hE, if_neg (by decide)]
theorem op_1 (x1 x2 : Int32) : Ok2 (fun h => f_X10_build h 0 x1 x2) (fun h => f_X11_build h 45 x1 x2) := by
  intro A V R B J h
  have h0 := h
  obtain ⟨⟨T, w, st, mo⟩, -⟩ := h0
  have cl : ∀ {x1 x2 y : Int32} {h' : Hp}, f_X8_raise (mk A V R B J) 1 x1 x2 = some (y, h') → f_X10_build (mk A V R B J) 0 x1 x2 = some (y, h') := fun e => by
    unfold f_X10_build
    rw [go_0, Option.bind_some, rs isT, Option.bind_some, e, Option.bind_some]
  rcases c_plot x1 with ⟨p, hp, rfl, g1, g2⟩ | ⟨g1, g2, -⟩
  · rcases c_high x2 with ⟨n, hn1, hn2, rfl, k1, k2⟩ | ⟨k1, k2⟩
    · have a48 := mo.2.2 p hp
      have nb := w.num p hp
      have i12 := ib12 hp
      have cc := c12 hp
      by_cases d : tN T p = 0
      · by_cases hE : tE T = 30
        · refine no2 (fc := fun h => f_X10_build h 0 _ _) (fm := fun h => f_X11_build h 45 _ _) h (cl (c_raise_2 isT st hp k1 d hE)) ?_
          show f_X11_build (mk A V R B J) 45 (nN p) (nN n) = _
          unfold f_X11_build f_X11_build_44
          rw [pm_6, Option.bind_some, g2, Option.bind_some, if_neg (by decide), k2, Option.bind_some, if_neg (by decide), gm_5, Option.bind_some, am_48, i12, if_pos rfl, Option.bind_some, cc, a48, d, if_neg (by decide), gm_2, Option.bind_some, mo.thr.1.2.2, hE, if_pos (by decide), Option.bind_some, am_48, i12, if_pos rfl, Option.bind_some, cc, a48, d, if_pos (by decide)]
        · have hE' : tE T < 30 := by have := w.2.2.1.1; omega
          have e1 := c_raise (B := B) isT w st hp hn1 hn2 d hE'
          have s1 := StRep.rs w st hp hn1 hn2 d hE'
          have mo1 : MoRep (rsA A 1 p (tE T) (nN (numT T p n)) (nN n) (nN (tE T))) (upV (rsV V 1 (tE T) (bui (tP T) (tH T) (tE T))) 45 6 0) T := by
            refine mo.cong ⟨rsA_ne (by decide), rsA_ne (by decide), rsA_ne (by decide)⟩ ?_
            unfold rsV
            refine ⟨?_, ?_, ?_⟩ <;> rw [uV_ne (by decide), uV_ne (by decide), uV_ne (by decide)]
          obtain ⟨A2, e2, hA2, mo2⟩ := m_builds (R := R) (B := B) (J := J) (x := n) w mo1 hp hE'
          have hN2 : A2 48 p = nN (numT T p n) := (mo2.2.2 p hp).trans (congrArg nN upN_eq)
          refine yes2 (fc := fun h => f_X10_build h 0 (nN p) (nN n)) (fm := fun h => f_X11_build h 45 (nN p) (nN n)) (cl e1) (A2 := A2) (V2 := upV (upV (rsV V 1 (tE T) (bui (tP T) (tH T) (tE T))) 45 6 0) 45 2 (nN (tE T + 1))) (R2 := R) (B2 := B) ?_ ?_
          · show f_X11_build _ 45 (nN p) (nN n) = _
            unfold f_X11_build
            rw [pm_6, Option.bind_some, g2, Option.bind_some, if_neg (by decide), k2, Option.bind_some, if_neg (by decide), gm_5, Option.bind_some, am_48, i12, if_pos rfl, Option.bind_some, cc, mo1.2.2 p hp, d, if_neg (by decide), gm_2, Option.bind_some, mo1.1.2.2, if_neg (by rw [show (30 : Int32) = nN 30 from rfl, n_eq (by omega) (by decide)]; exact hE), rm, Option.bind_some, e2, Option.bind_some, gm_5, Option.bind_some, am_48, i12, if_pos rfl, Option.bind_some, cc, hN2]
          · refine h.town [] ⟨fun a b1 b2 b3 => ?_, fun a k b1 b2 b3 => ?_, fun _ _ _ _ => rfl, rfl⟩ (rsT T p n) (w.rs hp hn1 hn2 hE' d) ?_ mo2
            · have g9 : a ≠ 49 := fun q => b2 (by rw [q]; decide)
              have g0 : a ≠ 50 := fun q => b2 (by rw [q]; decide)
              rw [hA2 a (by omega), rsA_ne (by omega)]
            · unfold rsV
              rw [uV_ne (fun q => b3 ⟨q.1, by omega⟩), uV_ne (fun q => b1 (Or.inr ⟨q.1, by rw [q.2]; decide⟩)), uV_ne (fun q => b2 q.1), uV_ne (fun q => b2 q.1)]
            · rw [List.append_nil]
              exact s1.far (fun j hj => hA2 _ (by omega)) ((uV_ne (by decide)).trans (uV_ne (by decide))) ((uV_ne (by decide)).trans (uV_ne (by decide))) rfl
      · have z := n_ne0 d (by omega)
        have z2 : (0 : Int32) < nN (tN T p) := by
          rw [show (0 : Int32) = nN 0 from rfl, n_lt (by decide) (by omega)]
          omega
        refine no2 (fc := fun h => f_X10_build h 0 _ _) (fm := fun h => f_X11_build h 45 _ _) h (cl (c_raise_3 isT w st hp k1 d)) ?_
        show f_X11_build (mk A V R B J) 45 (nN p) (nN n) = _
        unfold f_X11_build f_X11_build_44
        rw [pm_6, Option.bind_some, g2, Option.bind_some, if_neg (by decide), k2, Option.bind_some, if_neg (by decide), gm_5, Option.bind_some, am_48, i12, if_pos rfl, Option.bind_some, cc, a48, if_pos z2, Option.bind_some, am_48, i12, if_pos rfl, Option.bind_some, cc, a48, if_neg (fun q => not_le_lt q z2)]
    · refine no2 (fc := fun h => f_X10_build h 0 _ _) (fm := fun h => f_X11_build h 45 _ _) h (x := -1) (cl (x1 := nN p) (x2 := x2) ?_) ?_
      · unfold f_X8_raise
        rw [g1, Option.bind_some, if_neg (by decide), k1, Option.bind_some, if_pos rfl]
      · show f_X11_build (mk A V R B J) 45 (nN p) x2 = _
        unfold f_X11_build
        rw [pm_6, Option.bind_some, g2, Option.bind_some, if_neg (by decide), k2, Option.bind_some, if_pos rfl]
  · refine no2 (fc := fun h => f_X10_build h 0 _ _) (fm := fun h => f_X11_build h 45 _ _) h (x := -1) (cl (x1 := x1) (x2 := x2) ?_) ?_
    · unfold f_X8_raise
      rw [g1, Option.bind_some, if_pos rfl]
    · show f_X11_build (mk A V R B J) 45 x1 x2 = _
      unfold f_X11_build
      rw [pm_6, Option.bind_some, g2, Option.bind_some, if_pos rfl]
theorem op_2 (x1 : Int32) : Ok2 (fun h => f_X10_burn h 0 x1) (fun h => f_X11_burn h 45 x1) := by
  intro A V R B J h
  have h0 := h
  obtain ⟨⟨T, w, st, mo⟩, -⟩ := h0
  have cl : ∀ {x1 y : Int32} {h' : Hp}, f_X8_raze (mk A V R B J) 1 x1 = some (y, h') → f_X10_burn (mk A V R B J) 0 x1 = some (y, h') := fun e => by
    unfold f_X10_burn
    rw [go_0, Option.bind_some, rs isT, Option.bind_some, e, Option.bind_some]
  rcases c_plot x1 with ⟨p, hp, rfl, g1, g2⟩ | ⟨g1, g2, -⟩
  · have a48 := mo.2.2 p hp
    have a2 := st.2.2.2.1 p hp
    have nb := w.num p hp
    have i12 := ib12 hp
    have cc := c12 hp
    by_cases d : tN T p = 0
    · refine no2 (fc := fun h => f_X10_burn h 0 _) (fm := fun h => f_X11_burn h 45 _) h (x := -3) (cl (x1 := nN p) ?_) ?_
      · unfold f_X8_raze
        rw [g1, Option.bind_some, if_neg (by decide), rs isT, Option.bind_some, c_hasHouse isT hp g1, Option.bind_some, a2, d, if_pos (show nN 0 = 0 from rfl), if_pos rfl]
      · show f_X11_burn (mk A V R B J) 45 (nN p) = _
        unfold f_X11_burn f_X11_burn_32
        rw [pm_6, Option.bind_some, g2, Option.bind_some, if_neg (by decide), gm_5, Option.bind_some, am_48, i12, if_pos rfl, Option.bind_some, cc, a48, d, if_pos (by decide), Option.bind_some, am_48, i12, if_pos rfl, Option.bind_some, cc, a48, d, if_pos (by decide)]
    · have z := n_ne0 d (by omega)
      by_cases hE : tE T = 30
      · refine no2 (fc := fun h => f_X10_burn h 0 _) (fm := fun h => f_X11_burn h 45 _) h (x := -2) (cl (x1 := nN p) ?_) ?_
        · unfold f_X8_raze
          rw [g1, Option.bind_some, if_neg (by decide), rs isT, Option.bind_some, c_hasHouse isT hp g1, Option.bind_some, a2, if_neg z, if_neg (by decide), gs_7 isT, Option.bind_some, st.1.1, hE, if_neg (by decide)]
        · show f_X11_burn (mk A V R B J) 45 (nN p) = _
          unfold f_X11_burn f_X11_burn_32
          rw [pm_6, Option.bind_some, g2, Option.bind_some, if_neg (by decide), gm_5, Option.bind_some, am_48, i12, if_pos rfl, Option.bind_some, cc, a48, if_neg z, gm_2, Option.bind_some, mo.thr.1.2.2, hE, if_pos (by decide), Option.bind_some, am_48, i12, if_pos rfl, Option.bind_some, cc, a48, if_neg z]
      · have hE' : tE T < 30 := by have := w.2.2.1.1; omega
        have e1 := c_raze (B := B) isT w st hp d hE'
        have s1 := StRep.rz w st hp hE'
        have mo1 : MoRep (rzA A 1 p (tE T)) (upV (upV V 1 7 (nN (tE T + 1))) 45 6 0) T := by
          refine mo.cong ⟨rzA_ne (by decide) (by decide) (by decide), rzA_ne (by decide) (by decide) (by decide), rzA_ne (by decide) (by decide) (by decide)⟩ ?_
          refine ⟨?_, ?_, ?_⟩ <;> rw [uV_ne (by decide), uV_ne (by decide)]
        obtain ⟨A2, e2, hA2, mo2⟩ := m_burns (R := R) (B := B) (J := J) mo1 hp hE'
        refine yes2 (fc := fun h => f_X10_burn h 0 (nN p)) (fm := fun h => f_X11_burn h 45 (nN p)) (cl e1) (A2 := A2) (V2 := upV (upV (upV V 1 7 (nN (tE T + 1))) 45 6 0) 45 2 (nN (tE T + 1))) (R2 := R) (B2 := B) ?_ ?_
        · show f_X11_burn _ 45 (nN p) = _
          unfold f_X11_burn
          rw [pm_6, Option.bind_some, g2, Option.bind_some, if_neg (by decide), gm_5, Option.bind_some, am_48, i12, if_pos rfl, Option.bind_some, cc, mo1.2.2 p hp, if_neg z, gm_2, Option.bind_some, mo1.1.2.2, if_neg (by rw [show (30 : Int32) = nN 30 from rfl, n_eq (by omega) (by decide)]; exact hE), Option.bind_some, am_48, i12, if_pos rfl, Option.bind_some, cc, mo1.2.2 p hp, rm, Option.bind_some, e2, Option.bind_some]
        · refine h.town [] ⟨fun a b1 b2 b3 => ?_, fun a k b1 b2 b3 => ?_, fun _ _ _ _ => rfl, rfl⟩ (rzT T p) (w.rz hp hE' d) ?_ mo2
          · have g9 : a ≠ 49 := fun q => b2 (by rw [q]; decide)
            have g0 : a ≠ 50 := fun q => b2 (by rw [q]; decide)
            rw [hA2 a (by omega), rzA_ne (by omega) (by omega) (by omega)]
          · rw [uV_ne (fun q => b3 ⟨q.1, by omega⟩), uV_ne (fun q => b1 (Or.inr ⟨q.1, by rw [q.2]; decide⟩)), uV_ne (fun q => b2 q.1)]
          · rw [List.append_nil]
            exact s1.far (fun j hj => hA2 _ (by omega)) ((uV_ne (by decide)).trans (uV_ne (by decide))) ((uV_ne (by decide)).trans (uV_ne (by decide))) rfl
  · refine no2 (fc := fun h => f_X10_burn h 0 _) (fm := fun h => f_X11_burn h 45 _) h (x := -1) (cl (x1 := x1) ?_) ?_
    · unfold f_X8_raze
      rw [g1, Option.bind_some, if_pos rfl]
    · show f_X11_burn (mk A V R B J) 45 x1 = _
      unfold f_X11_burn
      rw [pm_6, Option.bind_some, g2, Option.bind_some, if_pos rfl]
end BUI
