section CAR2
variable {A V A' V' : Nat → Nat → Int32} {R R' : Nat → Nat → Option Nat} {B B' : Nat → Nat → Int64} {J : List En}
/-- taking: the events, then the last 12 -/
theorem car_t53 {r : Nat} (hr : LA r = 75) (h46 : r ≠ 46) (h47 : r ≠ 47) (h48 : r ≠ 48) (hR : R 45 23 = some r) (ht : V 45 22 = 1) (hv : V 45 21 = nN 3) : ∃ s, f_X11_carryAll_53 45 10000 (mk A V R B J) (0 : Int32) = some (mk (upA A r s) (upV V 45 21 (nN 75)) R B J) ∧ ((∀ q, q < 3 → s q = A r q) ∧ ((∀ e, e < 30 → s (3 + 2 * e) = A 46 e ∧ s (4 + 2 * e) = A 47 e) ∧ ∀ p, p < 12 → s (63 + p) = A 48 p)) := by
  have hl := (loop (fun m (s : (Nat → Int32) × Nat) i => f_X11_carryAll_53 45 m (mk (upA A r s.1) (upV V 45 21 (nN s.2)) R B J) i) (fun i s => s.2 = 3 + 2 * i ∧ ((∀ q, q < 3 → s.1 q = A r q) ∧ ∀ e, e < i → s.1 (3 + 2 * e) = A 46 e ∧ s.1 (4 + 2 * e) = A 47 e)) (fun i s => (upd (upd s.1 (3 + 2 * i) (A 46 i)) (3 + 2 * i + 1) (A 47 i), 3 + 2 * i + 1 + 1)) 30 (fun m i s hi hp => by
    obtain ⟨s1, s2⟩ := s
    obtain ⟨h1, h2, h3⟩ := hp
    have h1 : s2 = 3 + 2 * i := h1
    subst h1
    have g30 : ¬ (30 : Int32) ≤ Int32.ofNat i := fun q => by
      rw [show (30 : Int32) = Int32.ofNat 30 from rfl, n_le (by decide) (by omega)] at q
      omega
    have i30 : inB (Int32.ofNat i) 30 = true := ib hi (by decide)
    have ci : (Int32.ofNat i).toNatClampNeg = i := cn (by omega)
    have a46 : ∀ s : Nat → Int32, upA A r s 46 = A 46 := fun s => uA_ne h46.symm
    have a47 : ∀ s : Nat → Int32, upA A r s 47 = A 47 := fun s => uA_ne h47.symm
    refine ⟨?_, by show 3 + 2 * i + 1 + 1 = 3 + 2 * (i + 1); omega, fun q hq => ?_, fun e he => ?_⟩
    · show f_X11_carryAll_53 45 (m + 1) (mk (upA A r s1) (upV V 45 21 (nN (3 + 2 * i))) R B J) (Int32.ofNat i) = f_X11_carryAll_53 45 m (mk (upA A r (upd (upd s1 (3 + 2 * i) (A 46 i)) (3 + 2 * i + 1) (A 47 i))) (upV V 45 21 (nN (3 + 2 * i + 1 + 1))) R B J) (Int32.ofNat i + 1)
      rw [f_X11_carryAll_53, if_neg g30, gm_3, Option.bind_some, Option.bind_some, am_46, i30, if_pos rfl, Option.bind_some, ci, a46, rm, Option.bind_some, car_take (q := 3 + 2 * i) hr hR (by omega) uV_eq ((uV_ne (by decide)).trans ht), Option.bind_some]
      dsimp only
      rw [wm_46, i30, if_pos rfl, Option.bind_some, ci, uA_uA, uV_uV, uA_eq, a46, upd_self, uA_put (a46 _), gm_4, Option.bind_some, Option.bind_some, am_47, i30, if_pos rfl, Option.bind_some, ci, a47, rm, Option.bind_some, car_take (q := 3 + 2 * i + 1) hr hR (by omega) uV_eq ((uV_ne (by decide)).trans ht), Option.bind_some]
      dsimp only
      rw [wm_47, i30, if_pos rfl, Option.bind_some, ci, uA_uA, uV_uV, uA_eq, a47, upd_self, uA_put (a47 _)]
    · show upd (upd s1 (3 + 2 * i) (A 46 i)) (3 + 2 * i + 1) (A 47 i) q = A r q
      rw [upd_ne (by omega), upd_ne (by omega)]
      exact h2 q hq
    · show upd (upd s1 (3 + 2 * i) (A 46 i)) (3 + 2 * i + 1) (A 47 i) (3 + 2 * e) = A 46 e ∧ upd (upd s1 (3 + 2 * i) (A 46 i)) (3 + 2 * i + 1) (A 47 i) (4 + 2 * e) = A 47 e
      by_cases c : e = i
      · subst c
        refine ⟨?_, ?_⟩
        · rw [upd_ne (by omega), upd_eq]
        · rw [show 4 + 2 * e = 3 + 2 * e + 1 by omega, upd_eq]
      · have h3' := h3 e (by omega)
        refine ⟨?_, ?_⟩
        · rw [upd_ne (by omega), upd_ne (by omega)]
          exact h3'.1
        · rw [upd_ne (by omega), upd_ne (by omega)]
          exact h3'.2)) 30 0 9970 (A r, 3) rfl ⟨rfl, fun q _ => rfl, fun p hp => absurd hp (Nat.not_lt_zero p)⟩
  have e0 : f_X11_carryAll_53 45 10000 (mk A V R B J) (0 : Int32) = f_X11_carryAll_53 45 (9970 + 30) (mk (upA A r (A r)) (upV V 45 21 (nN 3)) R B J) (Int32.ofNat 0) := by
    have ev : upV V 45 21 (nN 3) = V := by
      funext b j
      unfold upV
      split
      · rename_i h; rw [h.1, h.2, hv]
      · rfl
    rw [uA_id, ev, show Int32.ofNat 0 = (0 : Int32) from rfl]
  have e1 : ∀ (s : (Nat → Int32) × Nat), f_X11_carryAll_53 45 9970 (mk (upA A r s.1) (upV V 45 21 (nN s.2)) R B J) (Int32.ofNat 30) = f_X11_carryAll_99 45 10000 (mk (upA A r s.1) (upV V 45 21 (nN s.2)) R B J) (0 : Int32) := by
    intro s
    show f_X11_carryAll_53 45 (9969 + 1) _ _ = _
    rw [f_X11_carryAll_53, if_pos (show (30 : Int32) ≤ Int32.ofNat 30 from Int32.le_refl _)]
  obtain ⟨g1, g2, g3, g4⟩ := hl
  have g1' := e0.trans (g1.trans (e1 _))
  rw [g2] at g1'
  generalize (itr (fun i (s : (Nat → Int32) × Nat) => (upd (upd s.1 (3 + 2 * i) (A 46 i)) (3 + 2 * i + 1) (A 47 i), 3 + 2 * i + 1 + 1)) 0 30 (A r, 3)).1 = s9 at g1' g3 g4
  obtain ⟨s, k1, k2, k3⟩ := car_t99 (A := upA A r s9) (V := upV V 45 21 (nN (3 + 2 * 30))) (R := R) (B := B) (J := J) hr h48 hR ((uV_ne (by decide)).trans ht) uV_eq
  refine ⟨s, g1'.trans (k1.trans ?_), fun q hq => ?_, fun e he => ⟨?_, ?_⟩, fun p hp => ?_⟩
  · rw [uA_uA, uV_uV]
  · rw [k2 q (by omega), uA_eq]
    exact g3 q hq
  · rw [k2 _ (by omega), uA_eq]
    exact (g4 e he).1
  · rw [k2 _ (by omega), uA_eq]
    exact (g4 e he).2
  · rw [k3 p hp, uA_ne h48.symm]
end CAR2
