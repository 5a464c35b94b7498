/-! copy -/
section COP
variable {A V : Nat → Nat → Int32} {R : Nat → Nat → Option Nat} {B : Nat → Nat → Int64} {J : List En}
theorem op_27 (x1 x2 x3 x4 x5 : Int32) : Ok2 (fun h => f_X10_copy h 0 x1 x2 x3 x4 x5) (fun h => f_X11_copy h 45 x1 x2 x3 x4 x5) := by
  intro A V R B J h
  have h0 := h
  obtain ⟨-, -, shs⟩ := h0
  have nm : ∀ s, s ≤ 2 → ¬ nN s = -1 := by
    intro s h
    match s, h with
    | 0, _ | 1, _ | 2, _ => decide
  rcases c_shelf x1 with ⟨d, hd, rfl, hc⟩ | ⟨hc, hn⟩
  · have ht := isSh_d hd
    have id8 : inB (nN d) 8 = true := ib hd (by decide)
    have cd : (nN d).toNatClampNeg = d := cn (by omega)
    have kd : (0 : Int32) ≤ nN d ∧ nN d ≤ 7 := ⟨le_y (Nat.zero_le _) (by omega), le_y (show d ≤ 7 by omega) (by decide)⟩
    rcases c_shelf x3 with ⟨e, he, rfl, hce⟩ | ⟨hce, hne⟩
    · have hte := isSh_d he
      have ie8 : inB (nN e) 8 = true := ib he (by decide)
      have ce : (nN e).toNatClampNeg = e := cn (by omega)
      have ke : (0 : Int32) ≤ nN e ∧ nN e ≤ 7 := ⟨le_y (Nat.zero_le _) (by omega), le_y (show e ≤ 7 by omega) (by decide)⟩
      rcases sh_any hd (shs d hd) with ⟨a1, a2⟩ | ⟨a1, a2, a3, a4⟩ | ⟨s, n, a1, a2, a3, a4, a5, a6, a7, a8, a9, a10, a11⟩
      · refine no2 (fc := fun h => f_X10_copy h 0 (nN d) x2 (nN e) x4 x5) (fm := fun h => f_X11_copy h 45 (nN d) x2 (nN e) x4 x5) (x := -11) h ?_ ?_
        · show f_X10_copy (mk A V R B J) 0 (nN d) x2 (nN e) x4 x5 = _
          unfold f_X10_copy
          rw [ro, Option.bind_some, hc, Option.bind_some, Option.bind_some, hce, Option.bind_some, if_neg (by simp), if_neg (by simp), rh ht, Option.bind_some, a1, Option.bind_some, if_neg (by decide)]
        · show f_X11_copy (mk A V R B J) 45 (nN d) x2 (nN e) x4 x5 = _
          unfold f_X11_copy
          rw [pm_6, Option.bind_some, m_in07, Option.bind_some, if_pos kd, if_neg (by decide), m_in07, Option.bind_some, if_pos ke, if_neg (by decide), gm_28, Option.bind_some, am_60, id8, if_pos rfl, Option.bind_some, cd, a2, if_pos rfl]
      · rcases sh_any he (shs e he) with ⟨b1, b2⟩ | ⟨b1, b2, b3, b4⟩ | ⟨s', n', b1, b2, b3, b4, b5, b6, b7, b8, b9, b10, b11⟩
        · refine no2 (fc := fun h => f_X10_copy h 0 (nN d) x2 (nN e) x4 x5) (fm := fun h => f_X11_copy h 45 (nN d) x2 (nN e) x4 x5) (x := -11) h ?_ ?_
          · show f_X10_copy (mk A V R B J) 0 (nN d) x2 (nN e) x4 x5 = _
            unfold f_X10_copy
            rw [ro, Option.bind_some, hc, Option.bind_some, Option.bind_some, hce, Option.bind_some, if_neg (by simp), if_neg (by simp), rh ht, Option.bind_some, a1, Option.bind_some, if_pos rfl, rh hte, Option.bind_some, b1, Option.bind_some, if_neg (by decide)]
          · show f_X11_copy (mk A V R B J) 45 (nN d) x2 (nN e) x4 x5 = _
            unfold f_X11_copy
            rw [pm_6, Option.bind_some, m_in07, Option.bind_some, if_pos kd, if_neg (by decide), m_in07, Option.bind_some, if_pos ke, if_neg (by decide), gm_28, Option.bind_some, am_60, id8, if_pos rfl, Option.bind_some, cd, a4, if_neg (by decide), Option.bind_some, am_60, ie8, if_pos rfl, Option.bind_some, ce, b2, if_pos rfl]
        all_goals
          have hb1 : ∀ J', f_X5_holdsNothing (mk A V R B J') (29 + 2 * e) = some 0 := by first | exact b1 | exact b3
          have hb2 : ¬ A 60 e = 0 := by
            first
            | rw [b4]; decide
            | rw [b8]; decide
          refine no2 (fc := fun h => f_X10_copy h 0 (nN d) x2 (nN e) x4 x5) (fm := fun h => f_X11_copy h 45 (nN d) x2 (nN e) x4 x5) (x := -12) h ?_ ?_
          · show f_X10_copy (mk A V R B J) 0 (nN d) x2 (nN e) x4 x5 = _
            unfold f_X10_copy
            rw [ro, Option.bind_some, hc, Option.bind_some, Option.bind_some, hce, Option.bind_some, if_neg (by simp), if_neg (by simp), rh ht, Option.bind_some, a1, Option.bind_some, if_pos rfl, rh hte, Option.bind_some, hb1, Option.bind_some, if_pos rfl, Option.bind_some, a2, Option.bind_some, if_pos rfl]
          · show f_X11_copy (mk A V R B J) 45 (nN d) x2 (nN e) x4 x5 = _
            unfold f_X11_copy
            rw [pm_6, Option.bind_some, m_in07, Option.bind_some, if_pos kd, if_neg (by decide), m_in07, Option.bind_some, if_pos ke, if_neg (by decide), gm_28, Option.bind_some, am_60, id8, if_pos rfl, Option.bind_some, cd, a4, if_neg (by decide), Option.bind_some, am_60, ie8, if_pos rfl, Option.bind_some, ce, if_neg hb2, Option.bind_some, am_60, id8, if_pos rfl, Option.bind_some, cd, a4, if_neg (by decide)]
      · rcases sh_any he (shs e he) with ⟨b1, b2⟩ | ⟨b1, b2, b3, b4⟩ | ⟨s', n', b1, b2, b3, b4, b5, b6, b7, b8, b9, b10, b11⟩
        · refine no2 (fc := fun h => f_X10_copy h 0 (nN d) x2 (nN e) x4 x5) (fm := fun h => f_X11_copy h 45 (nN d) x2 (nN e) x4 x5) (x := -11) h ?_ ?_
          · show f_X10_copy (mk A V R B J) 0 (nN d) x2 (nN e) x4 x5 = _
            unfold f_X10_copy
            rw [ro, Option.bind_some, hc, Option.bind_some, Option.bind_some, hce, Option.bind_some, if_neg (by simp), if_neg (by simp), rh ht, Option.bind_some, a3, Option.bind_some, if_pos rfl, rh hte, Option.bind_some, b1, Option.bind_some, if_neg (by decide)]
          · show f_X11_copy (mk A V R B J) 45 (nN d) x2 (nN e) x4 x5 = _
            unfold f_X11_copy
            rw [pm_6, Option.bind_some, m_in07, Option.bind_some, if_pos kd, if_neg (by decide), m_in07, Option.bind_some, if_pos ke, if_neg (by decide), gm_28, Option.bind_some, am_60, id8, if_pos rfl, Option.bind_some, cd, a8, if_neg (by decide), Option.bind_some, am_60, ie8, if_pos rfl, Option.bind_some, ce, b2, if_pos rfl]
        · refine no2 (fc := fun h => f_X10_copy h 0 (nN d) x2 (nN e) x4 x5) (fm := fun h => f_X11_copy h 45 (nN d) x2 (nN e) x4 x5) (x := -12) h ?_ ?_
          · show f_X10_copy (mk A V R B J) 0 (nN d) x2 (nN e) x4 x5 = _
            unfold f_X10_copy
            rw [ro, Option.bind_some, hc, Option.bind_some, Option.bind_some, hce, Option.bind_some, if_neg (by simp), if_neg (by simp), rh ht, Option.bind_some, a3, Option.bind_some, if_pos rfl, rh hte, Option.bind_some, b1, Option.bind_some, if_pos rfl, Option.bind_some, a4, Option.bind_some, if_neg (by decide), gh_1 ht, Option.bind_some, gh_1 hte, Option.bind_some, a6, b3, if_neg (nm s a1)]
          · show f_X11_copy (mk A V R B J) 45 (nN d) x2 (nN e) x4 x5 = _
            unfold f_X11_copy
            rw [pm_6, Option.bind_some, m_in07, Option.bind_some, if_pos kd, if_neg (by decide), m_in07, Option.bind_some, if_pos ke, if_neg (by decide), gm_28, Option.bind_some, am_60, id8, if_pos rfl, Option.bind_some, cd, a8, if_neg (by decide), Option.bind_some, am_60, ie8, if_pos rfl, Option.bind_some, ce, b4, if_neg (by decide), Option.bind_some, am_60, id8, if_pos rfl, Option.bind_some, cd, a8, if_pos rfl, Option.bind_some, am_60, ie8, if_pos rfl, Option.bind_some, ce, b4, if_neg (by decide)]
        · have cc : ∀ {y : Int32 × Hp}, ((gI (mk A V R B J) (some (29 + 2 * d)) [5] 1).bind fun v55 => (gI (mk A V R B J) (some (29 + 2 * e)) [5] 1).bind fun v60 => if v55 = v60 then (rcv (mk A V R B J) (some (29 + 2 * d)) 5).bind fun a74 => (f_X5_hasPlaces (mk A V R B J) a74 x2 x5).bind fun v74 => if v74 = 0 then some (-13, mk A V R B J) else (rcv (mk A V R B J) (some (29 + 2 * e)) 5).bind fun a86 => (f_X5_hasPlaces (mk A V R B J) a86 x4 x5).bind fun v86 => if v86 = 0 then some (-13, mk A V R B J) else (gR (mk A V R B J) (some (29 + 2 * d)) [5] 3).bind fun v97 => (gR (mk A V R B J) (some (29 + 2 * e)) [5] 3).bind fun v103 => (cpI (mk A V R B J) v97 x2 v103 x4 x5).bind fun h110 => some (x5, h110) else some (-12, mk A V R B J)) = some y → f_X10_copy (mk A V R B J) 0 (nN d) x2 (nN e) x4 x5 = some y := fun q => by
            unfold f_X10_copy
            rw [ro, Option.bind_some, hc, Option.bind_some, Option.bind_some, hce, Option.bind_some, if_neg (by simp), if_neg (by simp), rh ht, Option.bind_some, a3, Option.bind_some, if_pos rfl, rh hte, Option.bind_some, b3, Option.bind_some, if_pos rfl, Option.bind_some, a4, Option.bind_some, if_neg (by decide)]
            rw [rh ht, rh hte] at q
            exact q
          have cm : ∀ (A1 : Nat → Nat → Int32) {y : Int32 × Hp}, (∀ a, 60 ≤ a → a ≤ 64 → A1 a = A a) → (if nN s = nN s' then if x5 < 0 then some (-13, mk A1 (upV V 45 6 0) R B J) else if x2 < 0 then some (-13, mk A1 (upV V 45 6 0) R B J) else if x4 < 0 then some (-13, mk A1 (upV V 45 6 0) R B J) else if nN n - x5 < x2 then some (-13, mk A1 (upV V 45 6 0) R B J) else if x4 ≤ nN n' - x5 then f_X11_copy_137 45 10000 (mk A1 (upV V 45 6 0) R B J) (nN d) x2 (nN e) x4 x5 0 else some (-13, mk A1 (upV V 45 6 0) R B J) else some (-12, mk A1 (upV V 45 6 0) R B J)) = some y → f_X11_copy (mk A1 V R B J) 45 (nN d) x2 (nN e) x4 x5 = some y := fun A1 y hA q => by
            have q60 := hA 60 (by decide) (by decide)
            have q63 := hA 63 (by decide) (by decide)
            have q64 := hA 64 (by decide) (by decide)
            unfold f_X11_copy
            rw [pm_6, Option.bind_some, m_in07, Option.bind_some, if_pos kd, if_neg (by decide), m_in07, Option.bind_some, if_pos ke, if_neg (by decide), gm_28, Option.bind_some, am_60, id8, if_pos rfl, Option.bind_some, cd, q60, a8, if_neg (by decide), Option.bind_some, am_60, ie8, if_pos rfl, Option.bind_some, ce, q60, b8, if_neg (by decide), Option.bind_some, am_60, id8, if_pos rfl, Option.bind_some, cd, q60, a8, if_pos rfl, Option.bind_some, am_60, ie8, if_pos rfl, Option.bind_some, ce, q60, b8, if_pos rfl, gm_31, Option.bind_some, am_63, id8, if_pos rfl, Option.bind_some, cd, q63, a9, Option.bind_some, am_63, ie8, if_pos rfl, Option.bind_some, ce, q63, b9, gm_32]
            have g1 : aI (mk A1 (upV V 45 6 0) R B J) (some 64) (nN d) = some (nN n) := by rw [am_64, id8, if_pos rfl, cd, q64, a10]
            have g2 : aI (mk A1 (upV V 45 6 0) R B J) (some 64) (nN e) = some (nN n') := by rw [am_64, ie8, if_pos rfl, ce, q64, b10]
            rw [Option.bind_some, g1, Option.bind_some, Option.bind_some, g2, Option.bind_some]
            exact q
          by_cases cs : s = s'
          · subst cs
            have p1 := OKp_iff (x := x2) (y := x5) a2
            have p2 := OKp_iff (x := x4) (y := x5) b2
            by_cases cp : OKp x2 x5 n ∧ OKp x4 x5 n'
            · obtain ⟨⟨i, m, rfl, rfl, hi⟩, ⟨j, m', rfl, e5, hj⟩⟩ := cp
              have em : m = m' := by rwa [n_eq (by omega) (by omega)] at e5
              subst em
              obtain ⟨B2, e1, e2⟩ := m_copy (A := upA A (29 + 2 * e + 1) (va_cpy (A (29 + 2 * d + 1)) (A (29 + 2 * e + 1)) i j m)) (V := upV V 45 6 0) (R := R) (B := B) (J := J) (i := i) (j := j) (n := m) hd he (by omega) (by omega)
              have y1 : OKp (nN i) (nN m) n := ⟨i, m, rfl, rfl, hi⟩
              have y2 : OKp (nN j) (nN m) n' := ⟨j, m, rfl, rfl, hj⟩
              refine yes2 (fc := fun h => f_X10_copy h 0 (nN d) (nN i) (nN e) (nN j) (nN m)) (fm := fun h => f_X11_copy h 45 (nN d) (nN i) (nN e) (nN j) (nN m)) (x := nN m) (A1 := upA A (29 + 2 * e + 1) (va_cpy (A (29 + 2 * d + 1)) (A (29 + 2 * e + 1)) i j m)) (V1 := V) (R1 := R) (B1 := B) (A2 := upA A (29 + 2 * e + 1) (va_cpy (A (29 + 2 * d + 1)) (A (29 + 2 * e + 1)) i j m)) (V2 := upV V 45 6 0) (R2 := R) (B2 := B2) (cc ?_) (cm _ (fun a q1 q2 => uA_ne (by omega)) ?_) ?_
              · rw [gh_1 ht, Option.bind_some, gh_1 hte, Option.bind_some, a6, b6, if_pos rfl, rh ht, Option.bind_some, c_places ht a2 a7, Option.bind_some, bz_y y1, if_neg (by decide), rh hte, Option.bind_some, c_places hte b2 b7, Option.bind_some, bz_y y2, if_neg (by decide), gh_3 ht, Option.bind_some, gh_3 hte, Option.bind_some, c_cpy (lh ht) (lh hte) (by decide) (by decide) (by omega) (by omega) (by decide) (by decide), Option.bind_some]
              · have q1 := p1.mp y1
                have q2 := p2.mp y2
                rw [if_pos rfl, if_neg q1.1, if_neg q1.2.1, if_neg q2.2.1, if_neg q1.2.2, if_pos (not_lt' q2.2.2)]
                exact e1
              · have e30 : 30 + 2 * e = 29 + 2 * e + 1 := by omega
                refine Inv.shelf [] h he ⟨fun a g1 g2 g3 => uA_ne (by omega), fun a k g1 g2 => uV_ne (fun q => g1 (Or.inr ⟨q.1, by rw [q.2]; decide⟩)), fun _ _ _ _ => rfl, fun a f g1 g2 _ _ => by rw [uA_ne (by omega)], fun k hk => ?_⟩ (Or.inr (Or.inr ⟨s, n', b1, b2, b5, ?_, ?_, ?_, ?_, ?_, fun k hk => ?_⟩))
                · rw [e2, if_neg (by omega)]
                · exact (uV_ne (by omega)).trans b6
                · exact (uV_ne (by omega)).trans b7
                · rw [uA_ne (by omega)]; exact b8
                · rw [uA_ne (by omega)]; exact b9
                · rw [uA_ne (by omega)]; exact b10
                · rw [e30, uA_eq, e2]
                  unfold va_cpy
                  by_cases c : j ≤ k ∧ k < j + m
                  · rw [if_pos c, if_pos (by omega)]
                    have g := a11 (i + (k - j)) (by omega)
                    rw [show 30 + 2 * d = 29 + 2 * d + 1 by omega] at g
                    refine ⟨g.1, ?_⟩
                    rw [← g.2]
                    congr 1
                    omega
                  · rw [if_neg c, if_neg (by omega)]
                    have g := b11 k hk
                    rw [e30] at g
                    exact g
            · refine no2 (fc := fun h => f_X10_copy h 0 (nN d) x2 (nN e) x4 x5) (fm := fun h => f_X11_copy h 45 (nN d) x2 (nN e) x4 x5) (x := -13) h (cc ?_) (cm A (fun _ _ _ => rfl) ?_)
              · rw [gh_1 ht, Option.bind_some, gh_1 hte, Option.bind_some, a6, b6, if_pos rfl, rh ht, Option.bind_some, c_places ht a2 a7, Option.bind_some]
                by_cases y1 : OKp x2 x5 n
                · rw [bz_y y1, if_neg (by decide), rh hte, Option.bind_some, c_places hte b2 b7, Option.bind_some, bz_n (fun z => cp ⟨y1, z⟩), if_pos rfl]
                · rw [bz_n y1, if_pos rfl]
              · rw [if_pos rfl]
                by_cases q1 : x5 < 0
                · rw [if_pos q1]
                · rw [if_neg q1]
                  by_cases q2 : x2 < 0
                  · rw [if_pos q2]
                  · rw [if_neg q2]
                    by_cases q3 : x4 < 0
                    · rw [if_pos q3]
                    · rw [if_neg q3]
                      by_cases q4 : nN n - x5 < x2
                      · rw [if_pos q4]
                      · rw [if_neg q4]
                        by_cases q5 : x4 ≤ nN n' - x5
                        · exact absurd ⟨p1.mpr ⟨q1, q2, q4⟩, p2.mpr ⟨q1, q3, not_le_lt q5⟩⟩ cp
                        · rw [if_neg q5]
          · refine no2 (fc := fun h => f_X10_copy h 0 (nN d) x2 (nN e) x4 x5) (fm := fun h => f_X11_copy h 45 (nN d) x2 (nN e) x4 x5) (x := -12) h (cc ?_) (cm A (fun _ _ _ => rfl) ?_)
            · rw [gh_1 ht, Option.bind_some, gh_1 hte, Option.bind_some, a6, b6, if_neg (eq_n' cs (by omega) (by omega))]
            · rw [if_neg (eq_n' cs (by omega) (by omega))]
    · refine no2 (fc := fun h => f_X10_copy h 0 (nN d) x2 x3 x4 x5) (fm := fun h => f_X11_copy h 45 (nN d) x2 x3 x4 x5) (x := -1) h ?_ ?_
      · show f_X10_copy (mk A V R B J) 0 (nN d) x2 x3 x4 x5 = _
        unfold f_X10_copy
        rw [ro, Option.bind_some, hc, Option.bind_some, Option.bind_some, hce, Option.bind_some, if_neg (by simp), if_pos rfl]
      · show f_X11_copy (mk A V R B J) 45 (nN d) x2 x3 x4 x5 = _
        unfold f_X11_copy
        rw [pm_6, Option.bind_some, m_in07, Option.bind_some, if_pos kd, if_neg (by decide), m_in07, Option.bind_some, if_neg hne, if_pos rfl]
  · refine no2 (fc := fun h => f_X10_copy h 0 x1 x2 x3 x4 x5) (fm := fun h => f_X11_copy h 45 x1 x2 x3 x4 x5) (x := -1) h ?_ ?_
    · show f_X10_copy (mk A V R B J) 0 x1 x2 x3 x4 x5 = _
      unfold f_X10_copy
      rcases c_shelf x3 with ⟨e, he, rfl, hce⟩ | ⟨hce, hne⟩
      · rw [ro, Option.bind_some, hc, Option.bind_some, Option.bind_some, hce, Option.bind_some, if_pos rfl]
      · rw [ro, Option.bind_some, hc, Option.bind_some, Option.bind_some, hce, Option.bind_some, if_pos rfl]
    · show f_X11_copy (mk A V R B J) 45 x1 x2 x3 x4 x5 = _
      unfold f_X11_copy
      rw [pm_6, Option.bind_some, m_in07, Option.bind_some, if_neg hn, if_pos rfl]
end COP
