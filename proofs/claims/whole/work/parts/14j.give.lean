/-! The model's rows of 75: given back. -/
section GIV
variable {A V A' V' : Nat → Nat → Int32} {R R' : Nat → Nat → Option Nat} {B B' : Nat → Nat → Int64} {J : List En}
theorem car_g99 {r : Nat} (hr : LA r = 75) (h48 : r ≠ 48) (hR : R 45 23 = some r) (ht : V 45 22 = 0) (hv : V 45 21 = nN 63) : ∃ s, f_X11_carryAll_99 45 10000 (mk A V R B J) (0 : Int32) = some (mk (upA A 48 s) (upV V 45 21 (nN 75)) R B J) ∧ ∀ p, p < 12 → s p = A r (63 + p) := by
  have hl := (loop (fun m (s : (Nat → Int32) × Nat) i => f_X11_carryAll_99 45 m (mk (upA A 48 s.1) (upV V 45 21 (nN s.2)) R B J) i) (fun i s => s.2 = 63 + i ∧ ∀ p, p < i → s.1 p = A r (63 + p)) (fun i s => (upd s.1 i (A r (63 + i)), 63 + i + 1)) 12 (fun m i s hi hp => by
    obtain ⟨s1, s2⟩ := s
    obtain ⟨h1, h3⟩ := hp
    have h1 : s2 = 63 + i := h1
    subst h1
    have g12 : ¬ (12 : Int32) ≤ Int32.ofNat i := fun q => by rw [ge12 hi] at q; exact q
    have ar : ∀ s : Nat → Int32, upA A 48 s r = A r := fun s => uA_ne h48
    refine ⟨?_, rfl, fun p hp => ?_⟩
    · show f_X11_carryAll_99 45 (m + 1) (mk (upA A 48 s1) (upV V 45 21 (nN (63 + i))) R B J) (Int32.ofNat i) = f_X11_carryAll_99 45 m (mk (upA A 48 (upd s1 i (A r (63 + i)))) (upV V 45 21 (nN (63 + i + 1))) R B J) (Int32.ofNat i + 1)
      rw [f_X11_carryAll_99, if_neg g12, gm_5, Option.bind_some, Option.bind_some, am_48, ib12 hi, if_pos rfl, Option.bind_some, rm, Option.bind_some, car_give (q := 63 + i) hr hR (by omega) uV_eq ((uV_ne (by decide)).trans ht), Option.bind_some]
      dsimp only
      rw [wm_48, ib12 hi, if_pos rfl, Option.bind_some, c12 hi, uA_uA, uV_uV, uA_eq, ar]
    · show upd s1 i (A r (63 + i)) p = A r (63 + p)
      by_cases e : p = i
      · subst e
        exact upd_eq
      · rw [upd_ne e]
        exact h3 p (by omega))) 12 0 9988 (A 48, 63) rfl ⟨rfl, fun p hp => absurd hp (Nat.not_lt_zero p)⟩
  have e0 : f_X11_carryAll_99 45 10000 (mk A V R B J) (0 : Int32) = f_X11_carryAll_99 45 (9988 + 12) (mk (upA A 48 (A 48)) (upV V 45 21 (nN 63)) R B J) (Int32.ofNat 0) := by
    rw [uA_id, uV_put hv, show Int32.ofNat 0 = (0 : Int32) from rfl]
  have e1 : ∀ (s : (Nat → Int32) × Nat), f_X11_carryAll_99 45 9988 (mk (upA A 48 s.1) (upV V 45 21 (nN s.2)) R B J) (Int32.ofNat 12) = some (mk (upA A 48 s.1) (upV V 45 21 (nN s.2)) R B J) := by
    intro s
    show f_X11_carryAll_99 45 (9987 + 1) _ _ = _
    rw [f_X11_carryAll_99, if_pos (show (12 : Int32) ≤ Int32.ofNat 12 from Int32.le_refl _)]
  obtain ⟨g1, g2, g4⟩ := hl
  refine ⟨_, e0.trans (g1.trans ((e1 _).trans ?_)), g4⟩
  rw [g2]
theorem car_g53 {r : Nat} (hr : LA r = 75) (h46 : r ≠ 46) (h47 : r ≠ 47) (h48 : r ≠ 48) (hR : R 45 23 = some r) (ht : V 45 22 = 0) (hv : V 45 21 = nN 3) : ∃ s t u, f_X11_carryAll_53 45 10000 (mk A V R B J) (0 : Int32) = some (mk (upA (upA (upA A 46 s) 47 t) 48 u) (upV V 45 21 (nN 75)) R B J) ∧ ((∀ e, e < 30 → s e = A r (3 + 2 * e) ∧ t e = A r (4 + 2 * e)) ∧ ∀ p, p < 12 → u p = A r (63 + p)) := by
  have hl := (loop (fun m (s : ((Nat → Int32) × (Nat → Int32)) × Nat) i => f_X11_carryAll_53 45 m (mk (upA (upA A 46 s.1.1) 47 s.1.2) (upV V 45 21 (nN s.2)) R B J) i) (fun i s => s.2 = 3 + 2 * i ∧ ∀ e, e < i → s.1.1 e = A r (3 + 2 * e) ∧ s.1.2 e = A r (3 + 2 * e + 1)) (fun i s => ((upd s.1.1 i (A r (3 + 2 * i)), upd s.1.2 i (A r (3 + 2 * i + 1))), 3 + 2 * i + 1 + 1)) 30 (fun m i s hi hp => by
    obtain ⟨⟨s1, t1⟩, s2⟩ := s
    obtain ⟨h1, h3⟩ := hp
    have h1 : s2 = 3 + 2 * i := h1
    subst h1
    have g30 : ¬ (30 : Int32) ≤ Int32.ofNat i := fun q => by
      rw [show (30 : Int32) = Int32.ofNat 30 from rfl, n_le (by decide) (by omega)] at q
      omega
    have i30 : inB (Int32.ofNat i) 30 = true := ib hi (by decide)
    have ci : (Int32.ofNat i).toNatClampNeg = i := cn (by omega)
    have ar : ∀ s t : Nat → Int32, upA (upA A 46 s) 47 t r = A r := fun s t => (uA_ne h47).trans (uA_ne h46)
    have sw : ∀ s s' t : Nat → Int32, upA (upA (upA A 46 s) 47 t) 46 s' = upA (upA A 46 s') 47 t := fun s s' t => by
      funext b
      unfold upA
      by_cases c : b = 46
      · rw [if_pos c, if_neg (by omega), if_pos c]
      · rw [if_neg c, if_neg c, if_neg c]
    refine ⟨?_, by show 3 + 2 * i + 1 + 1 = 3 + 2 * (i + 1); omega, fun e he => ?_⟩
    · show f_X11_carryAll_53 45 (m + 1) (mk (upA (upA A 46 s1) 47 t1) (upV V 45 21 (nN (3 + 2 * i))) R B J) (Int32.ofNat i) = f_X11_carryAll_53 45 m (mk (upA (upA A 46 (upd s1 i (A r (3 + 2 * i)))) 47 (upd t1 i (A r (3 + 2 * i + 1)))) (upV V 45 21 (nN (3 + 2 * i + 1 + 1))) R B J) (Int32.ofNat i + 1)
      have e46 : ∀ s t : Nat → Int32, upA (upA A 46 s) 47 t 46 = s := fun s t => (uA_ne (by decide)).trans uA_eq
      rw [f_X11_carryAll_53, if_neg g30, gm_3, Option.bind_some, Option.bind_some, am_46, i30, if_pos rfl, Option.bind_some, rm, Option.bind_some, car_give (q := 3 + 2 * i) hr hR (by omega) uV_eq ((uV_ne (by decide)).trans ht), Option.bind_some]
      dsimp only
      rw [wm_46, i30, if_pos rfl, Option.bind_some, ci, uV_uV, e46, ar, sw, gm_4, Option.bind_some, Option.bind_some, am_47, i30, if_pos rfl, Option.bind_some, rm, Option.bind_some, car_give (q := 3 + 2 * i + 1) hr hR (by omega) uV_eq ((uV_ne (by decide)).trans ht), Option.bind_some]
      dsimp only
      rw [wm_47, i30, if_pos rfl, Option.bind_some, ci, uA_uA, uV_uV, uA_eq, ar]
    · show upd s1 i (A r (3 + 2 * i)) e = A r (3 + 2 * e) ∧ upd t1 i (A r (3 + 2 * i + 1)) e = A r (3 + 2 * e + 1)
      by_cases c : e = i
      · subst c
        exact ⟨upd_eq, upd_eq⟩
      · rw [upd_ne c, upd_ne c]
        exact h3 e (by omega))) 30 0 9970 ((A 46, A 47), 3) rfl ⟨rfl, fun p hp => absurd hp (Nat.not_lt_zero p)⟩
  have e0 : f_X11_carryAll_53 45 10000 (mk A V R B J) (0 : Int32) = f_X11_carryAll_53 45 (9970 + 30) (mk (upA (upA A 46 (A 46)) 47 (A 47)) (upV V 45 21 (nN 3)) R B J) (Int32.ofNat 0) := by
    rw [uA_id, uA_id, uV_put hv, show Int32.ofNat 0 = (0 : Int32) from rfl]
  have e1 : ∀ (s : ((Nat → Int32) × (Nat → Int32)) × Nat), f_X11_carryAll_53 45 9970 (mk (upA (upA A 46 s.1.1) 47 s.1.2) (upV V 45 21 (nN s.2)) R B J) (Int32.ofNat 30) = f_X11_carryAll_99 45 10000 (mk (upA (upA A 46 s.1.1) 47 s.1.2) (upV V 45 21 (nN s.2)) R B J) (0 : Int32) := by
    intro s
    show f_X11_carryAll_53 45 (9969 + 1) _ _ = _
    rw [f_X11_carryAll_53, if_pos (show (30 : Int32) ≤ Int32.ofNat 30 from Int32.le_refl _)]
  obtain ⟨g1, g2, g4⟩ := hl
  have g1' := e0.trans (g1.trans (e1 _))
  rw [g2] at g1'
  generalize (itr (fun i (s : ((Nat → Int32) × (Nat → Int32)) × Nat) => ((upd s.1.1 i (A r (3 + 2 * i)), upd s.1.2 i (A r (3 + 2 * i + 1))), 3 + 2 * i + 1 + 1)) 0 30 ((A 46, A 47), 3)).1 = s9 at g1' g4
  obtain ⟨u, k1, k2⟩ := car_g99 (A := upA (upA A 46 s9.1) 47 s9.2) (V := upV V 45 21 (nN (3 + 2 * 30))) (R := R) (B := B) (J := J) hr h48 hR ((uV_ne (by decide)).trans ht) uV_eq
  refine ⟨s9.1, s9.2, u, g1'.trans (k1.trans ?_), fun e he => ⟨(g4 e he).1, ?_⟩, fun p hp => ?_⟩
  · rw [uV_uV]
  · rw [(g4 e he).2]
    congr 1
    omega
  · rw [k2 p hp, uA_ne h47, uA_ne h46]
end GIV
