/-! image -/
section IMG
theorem op_20 : Ok2 (fun h => f_X10_image h 0) (fun h => f_X11_image h 45) := by
  intro A V R B J h
  obtain ⟨⟨T, w, st, mo⟩, -, sh⟩ := h
  have hE30 := w.2.2.1.1
  obtain ⟨s, k1, ⟨s0, s1, s2⟩, k3, k4⟩ := m_take (A := bcA A 19 1) (V := upV (upV (upV (upV (upV V 19 7 (V 1 7)) 19 8 (V 1 8)) 0 3 1) 45 6 0) 45 20 1) (R := upR R 19 9 (R 1 9)) (B := B) (J := J) (r := 56) rfl (by decide) (by decide) (by decide)
  have vv : ∀ a k, (a = 1 ∨ (29 ≤ a ∧ a < 45) ∨ (a = 45 ∧ k < 3)) → upV (upV (upV (upV (upV (upV (upV V 19 7 (V 1 7)) 19 8 (V 1 8)) 0 3 1) 45 6 0) 45 20 1) 45 22 1) 45 21 (nN 75) a k = V a k := by
    intro a k g
    rw [uV_ne (by omega), uV_ne (by omega), uV_ne (by omega), uV_ne (by omega), uV_ne (by omega), uV_ne (by omega), uV_ne (by omega)]
  have av : ∀ a, a ≠ 56 → ¬ (20 ≤ a ∧ a ≤ 25) → upA (bcA A 19 1) 56 s a = A a := by
    intro a g1 g2
    rw [uA_ne g1, bcA_ne (by omega)]
  have rv : ∀ a, a ≠ 19 → a ≠ 45 → ∀ k, upR (upR R 19 9 (R 1 9)) 45 23 (some 56) a k = R a k := by
    intro a g1 g2 k
    rw [uR_ne (by omega), uR_ne (by omega)]
  refine ⟨V 1 7, bcA A 19 1, upV (upV (upV V 19 7 (V 1 7)) 19 8 (V 1 8)) 0 3 1, upR R 19 9 (R 1 9), B, [], upA (bcA A 19 1) 56 s, upV (upV (upV (upV (upV (upV (upV V 19 7 (V 1 7)) 19 8 (V 1 8)) 0 3 1) 45 6 0) 45 20 1) 45 22 1) 45 21 (nN 75), upR (upR R 19 9 (R 1 9)) 45 23 (some 56), B, ?_, ?_, ⟨⟨T, w, st.cong ?_ ?_ ?_ ?_, mo.cong ⟨av _ (by decide) (by decide), av _ (by decide) (by decide), av _ (by decide) (by decide)⟩ ⟨vv _ _ (by decide), vv _ _ (by decide), vv _ _ (by decide)⟩⟩, Or.inr ⟨?_, ?_, T, w, ?_, ?_⟩, fun d hd => (sh d hd).cong ?_ ?_ ?_ rfl⟩, Nat.zero_le _, Nat.zero_le _⟩
  · rw [List.append_nil]
    show f_X10_image (mk A V R B J) 0 = _
    unfold f_X10_image
    rw [go_2, Option.bind_some, go_0, Option.bind_some, rs isI, Option.bind_some, c_become isI isT (by decide), Option.bind_some, okZ1, Option.bind_some, po_3, Option.bind_some, go_0, Option.bind_some, gs_7 isT, Option.bind_some, uV_ne (by decide), uV_ne (by decide), uV_ne (by decide)]
  · rw [List.append_nil]
    show f_X11_image (mk (bcA A 19 1) (upV (upV (upV V 19 7 (V 1 7)) 19 8 (V 1 8)) 0 3 1) (upR R 19 9 (R 1 9)) B J) 45 = _
    unfold f_X11_image
    rw [pm_6, Option.bind_some, okZ1, Option.bind_some, pm_20, Option.bind_some, gm_19, Option.bind_some, rm, Option.bind_some, k1, Option.bind_some, gm_2, Option.bind_some, vv _ _ (by decide), st.1.1, mo.1.2.2]
  · intro j hj
    exact av _ (by omega) (by omega)
  · exact vv _ _ (by decide)
  · exact vv _ _ (by decide)
  · exact rv _ (by decide) (by decide) _
  · rw [uV_ne (by decide), uV_ne (by decide), uV_ne (by decide), uV_ne (by decide), uV_eq]
  · rw [uV_ne (by decide), uV_ne (by decide), uV_eq]
  · refine (StRep.bec (t := 19) hE30 st).cong (fun j hj => ?_) ?_ ?_ ?_
    · exact uA_ne (by omega)
    · rw [uV_ne (by decide), uV_ne (by decide), uV_ne (by decide), uV_ne (by decide), uV_ne (by decide)]
    · rw [uV_ne (by decide), uV_ne (by decide), uV_ne (by decide), uV_ne (by decide), uV_ne (by decide)]
    · exact uR_ne (by decide)
  · refine ⟨⟨?_, ?_, ?_⟩, fun e he => ⟨?_, ?_⟩, fun p hp => ?_⟩
    · rw [uA_eq, s0, uV_ne (by decide), uV_ne (by decide), uV_ne (by decide), uV_ne (by decide), uV_ne (by decide)]
      exact mo.1.1
    · rw [uA_eq, s1, uV_ne (by decide), uV_ne (by decide), uV_ne (by decide), uV_ne (by decide), uV_ne (by decide)]
      exact mo.1.2.1
    · rw [uA_eq, s2, uV_ne (by decide), uV_ne (by decide), uV_ne (by decide), uV_ne (by decide), uV_ne (by decide)]
      exact mo.1.2.2
    · rw [uA_eq, (k3 e (by omega)).1, bcA_ne (by decide)]
      exact (mo.2.1 e he).1
    · rw [uA_eq, (k3 e (by omega)).2, bcA_ne (by decide)]
      exact (mo.2.1 e he).2
    · rw [uA_eq, k4 p hp, bcA_ne (by decide)]
      exact mo.2.2 p hp
  · intro a q
    exact av _ (by omega) (by omega)
  · intro k
    exact vv _ _ (by omega)
  · exact rv _ (by omega) (by omega) _
end IMG
