section RES
variable {A V A' V' : Nat → Nat → Int32} {R R' : Nat → Nat → Option Nat} {B B' : Nat → Nat → Int64} {J : List En}
theorem m_give {r : Nat} (hr : LA r = 75) (h46 : r ≠ 46) (h47 : r ≠ 47) (h48 : r ≠ 48) : ∃ s t u V', f_X11_carryAll (mk A V R B J) 45 (some r) 0 = some (mk (upA (upA (upA A 46 s) 47 t) 48 u) V' (upR R 45 23 (some r)) B J) ∧ ((V' 45 0 = A r 0 ∧ (V' 45 1 = A r 1 ∧ V' 45 2 = A r 2)) ∧ ((∀ a k, ¬ (a = 45 ∧ (k < 3 ∨ (k = 21 ∨ k = 22))) → V' a k = V a k) ∧ ((∀ e, e < 30 → s e = A r (3 + 2 * e) ∧ t e = A r (4 + 2 * e)) ∧ ∀ p, p < 12 → u p = A r (63 + p)))) := by
  have hR : upR R 45 23 (some r) 45 23 = some r := uR_eq
  obtain ⟨V1, hV1⟩ : ∃ X, X = upV (upV V 45 22 0) 45 21 (nN 0) := ⟨_, rfl⟩
  obtain ⟨V2, hV2⟩ : ∃ X, X = upV (upV V1 45 21 (nN (0 + 1))) 45 0 (A r 0) := ⟨_, rfl⟩
  obtain ⟨V3, hV3⟩ : ∃ X, X = upV (upV V2 45 21 (nN (0 + 1 + 1))) 45 1 (A r (0 + 1)) := ⟨_, rfl⟩
  obtain ⟨V4, hV4⟩ : ∃ X, X = upV (upV V3 45 21 (nN (0 + 1 + 1 + 1))) 45 2 (A r (0 + 1 + 1)) := ⟨_, rfl⟩
  have a1 : V1 45 21 = nN 0 := by rw [hV1, uV_eq]
  have b1 : V1 45 22 = 0 := by rw [hV1, uV_ne (by decide), uV_eq]
  have a2 : V2 45 21 = nN (0 + 1) := by rw [hV2, uV_ne (by decide), uV_eq]
  have b2 : V2 45 22 = 0 := by rw [hV2, uV_ne (by decide), uV_ne (by decide), b1]
  have a3 : V3 45 21 = nN (0 + 1 + 1) := by rw [hV3, uV_ne (by decide), uV_eq]
  have b3 : V3 45 22 = 0 := by rw [hV3, uV_ne (by decide), uV_ne (by decide), b2]
  have a4 : V4 45 21 = nN 3 := by rw [hV4, uV_ne (by decide), uV_eq]
  have b4 : V4 45 22 = 0 := by rw [hV4, uV_ne (by decide), uV_ne (by decide), b3]
  obtain ⟨s, t, u, k1, k2, k3⟩ := car_g53 (A := A) (V := V4) (R := upR R 45 23 (some r)) (B := B) (J := J) hr h46 h47 h48 hR b4 a4
  refine ⟨s, t, u, upV V4 45 21 (nN 75), ?_, ⟨?_, ?_, ?_⟩, fun a k g => ?_, k2, k3⟩
  · unfold f_X11_carryAll
    rw [pm_23, Option.bind_some, okZ0, Option.bind_some, pm_22, Option.bind_some, pm_21, Option.bind_some, show upV (upV V 45 22 0) 45 21 (0 : Int32) = V1 from hV1.symm, gm_0, Option.bind_some, rm, Option.bind_some, car_give (q := 0) hr hR (by decide) a1 b1, Option.bind_some]
    dsimp only
    rw [pm_0, ← hV2, Option.bind_some, gm_1, Option.bind_some, rm, Option.bind_some, car_give (q := 0 + 1) hr hR (by decide) a2 b2, Option.bind_some]
    dsimp only
    rw [pm_1, ← hV3, Option.bind_some, gm_2, Option.bind_some, rm, Option.bind_some, car_give (q := 0 + 1 + 1) hr hR (by decide) a3 b3, Option.bind_some]
    dsimp only
    rw [pm_2, ← hV4, Option.bind_some]
    exact k1
  · rw [uV_ne (by decide), hV4, uV_ne (by decide), uV_ne (by decide), hV3, uV_ne (by decide), uV_ne (by decide), hV2, uV_eq]
  · rw [uV_ne (by decide), hV4, uV_ne (by decide), uV_ne (by decide), hV3, uV_eq]
  · rw [uV_ne (by decide), hV4, uV_eq]
  · rw [uV_ne (by omega), hV4, uV_ne (by omega), uV_ne (by omega), hV3, uV_ne (by omega), uV_ne (by omega), hV2, uV_ne (by omega), uV_ne (by omega), hV1, uV_ne (by omega), uV_ne (by omega)]
theorem op_21 : Ok2 (fun h => f_X10_restore h 0) (fun h => f_X11_restore h 45) := by
  intro A V R B J h
  have h0 := h
  have fin : Inv A (upV V 45 6 0) R B (J ++ []) := h.frm [] (Frm.v (Or.inr ⟨rfl, by decide⟩))
  obtain ⟨-, i, -⟩ := h
  rcases i with ⟨i1, i2⟩ | ⟨i1, i2, T, w, st, im⟩
  · refine ⟨-3, A, V, R, B, [], A, upV V 45 6 0, R, B, ?_, ?_, fin, Nat.zero_le _, Nat.zero_le _⟩
    · rw [List.append_nil]
      show f_X10_restore (mk A V R B J) 0 = _
      unfold f_X10_restore
      rw [go_3, Option.bind_some, if_pos i1]
    · rw [List.append_nil]
      show f_X11_restore (mk A V R B J) 45 = _
      unfold f_X11_restore
      rw [pm_6, Option.bind_some, gm_20, Option.bind_some, uV_ne (by decide), if_pos i2]
  · have hE30 := w.2.2.1.1
    obtain ⟨s, t, u, V', k1, ⟨v0, v1, v2⟩, k2, k3, k4⟩ := m_give (A := bcA A 1 19) (V := upV (upV (upV V 1 7 (V 19 7)) 1 8 (V 19 8)) 45 6 0) (R := upR R 1 9 (R 19 9)) (B := B) (J := J) (r := 56) rfl (by decide) (by decide) (by decide)
    have r56 : bcA A 1 19 56 = A 56 := bcA_ne (by decide)
    rw [r56] at v0 v1 v2 k3 k4
    refine ⟨V 19 7, bcA A 1 19, upV (upV V 1 7 (V 19 7)) 1 8 (V 19 8), upR R 1 9 (R 19 9), B, [], upA (upA (upA (bcA A 1 19) 46 s) 47 t) 48 u, V', upR (upR R 1 9 (R 19 9)) 45 23 (some 56), B, ?_, ?_, Inv.town [] h0 ⟨fun a g1 g2 g3 => ?_, fun a k g1 g2 g3 => ?_, fun a k g1 g2 => ?_, rfl⟩ T w ?_ ?_, Nat.zero_le _, Nat.zero_le _⟩
    · rw [List.append_nil]
      show f_X10_restore (mk A V R B J) 0 = _
      unfold f_X10_restore
      rw [go_3, Option.bind_some, if_neg (by rw [i1]; decide), go_0, Option.bind_some, go_2, Option.bind_some, rs isT, Option.bind_some, c_become isT isI (by decide), Option.bind_some, go_0, Option.bind_some, gs_7 isT, Option.bind_some, uV_ne (by decide), uV_eq]
    · rw [List.append_nil]
      show f_X11_restore (mk (bcA A 1 19) (upV (upV V 1 7 (V 19 7)) 1 8 (V 19 8)) (upR R 1 9 (R 19 9)) B J) 45 = _
      unfold f_X11_restore
      rw [pm_6, Option.bind_some, gm_20, Option.bind_some, uV_ne (by decide), uV_ne (by decide), uV_ne (by decide), if_neg (by rw [i2]; decide), gm_19, Option.bind_some, rm, Option.bind_some, k1, Option.bind_some, gm_2, Option.bind_some, v2, st.1.1, im.1.2.2]
    · rw [uA_ne (by omega), uA_ne (by omega), uA_ne (by omega), bcA_ne (by omega)]
    · rw [k2 a k (fun q => q.2.elim (fun q2 => g3 ⟨q.1, q2⟩) (fun q2 => g1 (Or.inr ⟨q.1, by rcases q2 with rfl | rfl <;> decide⟩))), uV_ne (fun q => g1 (Or.inr ⟨q.1, by rw [q.2]; decide⟩)), uV_ne (by omega), uV_ne (by omega)]
    · rw [uR_ne (fun q => g1 (Or.inr q.1)), uR_ne (by omega)]
    · refine (StRep.bec (t := 1) hE30 st).cong (fun j hj => ?_) ?_ ?_ ?_
      · rw [uA_ne (by omega), uA_ne (by omega), uA_ne (by omega)]
      · rw [k2 1 7 (by decide), uV_ne (by decide)]
      · rw [k2 1 8 (by decide), uV_ne (by decide)]
      · exact uR_ne (by decide)
    · refine ⟨⟨v0.trans im.1.1, v1.trans im.1.2.1, v2.trans im.1.2.2⟩, fun e he => ⟨?_, ?_⟩, fun p hp => ?_⟩
      · rw [uA_ne (by decide), uA_ne (by decide), uA_eq, (k3 e (by omega)).1]
        exact (im.2.1 e he).1
      · rw [uA_ne (by decide), uA_eq, (k3 e (by omega)).2]
        exact (im.2.1 e he).2
      · rw [uA_eq, k4 p hp]
        exact im.2.2 p hp
end RES
