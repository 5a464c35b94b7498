/-! The model's rows of 75: carried there. -/
section CAR
variable {A V A' V' : Nat → Nat → Int32} {R R' : Nat → Nat → Option Nat} {B B' : Nat → Nat → Int64} {J : List En}
theorem uV_uV {a k : Nat} {x y : Int32} : upV (upV V a k x) a k y = upV V a k y := by
  funext b j
  unfold upV
  split <;> rfl
theorem as1 (a : Int32) : a + 1 - 1 = a := by
  rw [Int32.sub_eq_add_neg, Int32.add_assoc]
  have : (1 : Int32) + -1 = 0 := by decide
  rw [this, Int32.add_zero]
theorem car_end {r q : Nat} (hr : LA r = 75) (hR : R 45 23 = some r) (hq : q < 75) (hv : V 45 21 = nN q) : f_X11_carry_17 45 (mk A V R B J) = some (A r q, mk A (upV V 45 21 (nN (q + 1))) R B J) := by
  have iq : inB (Int32.ofNat q) 75 = true := ib hq (by decide)
  have cq : (Int32.ofNat q).toNatClampNeg = q := cn (by omega)
  unfold f_X11_carry_17
  rw [gm_21, Option.bind_some, hv, pm_21, Option.bind_some, gm_23, Option.bind_some, gm_21, Option.bind_some, uV_eq, hR, as1, aI_mk hr (by decide), iq, if_pos rfl, Option.bind_some, cq, n_s]
theorem car_take {r q : Nat} {x : Int32} (hr : LA r = 75) (hR : R 45 23 = some r) (hq : q < 75) (hv : V 45 21 = nN q) (ht : V 45 22 = 1) : f_X11_carry (mk A V R B J) 45 x = some (x, mk (upA A r (upd (A r) q x)) (upV V 45 21 (nN (q + 1))) R B J) := by
  have iq : inB (Int32.ofNat q) 75 = true := ib hq (by decide)
  have cq : (Int32.ofNat q).toNatClampNeg = q := cn (by omega)
  unfold f_X11_carry
  rw [gm_22, Option.bind_some, ht, if_neg (by decide), gm_23, Option.bind_some, gm_21, Option.bind_some, hR, hv, wI_mk hr (by decide), iq, if_pos rfl, Option.bind_some, cq, car_end hr hR hq hv, uA_eq, upd_eq]
theorem car_give {r q : Nat} {x : Int32} (hr : LA r = 75) (hR : R 45 23 = some r) (hq : q < 75) (hv : V 45 21 = nN q) (ht : V 45 22 = 0) : f_X11_carry (mk A V R B J) 45 x = some (A r q, mk A (upV V 45 21 (nN (q + 1))) R B J) := by
  unfold f_X11_carry
  rw [gm_22, Option.bind_some, ht, if_pos rfl, car_end hr hR hq hv]
theorem uA_put {a : Nat} {f : Nat → Int32} (h : A a = f) : upA A a f = A := by
  subst h
  exact uA_id
theorem upd_id' {f : Nat → Int32} {i : Nat} {x : Int32} (h : f i = x) : upd f i x = f := by
  subst h
  exact upd_self
/-- taking: the last 12 -/
theorem car_t99 {r : Nat} (hr : LA r = 75) (h48 : r ≠ 48) (hR : R 45 23 = some r) (ht : V 45 22 = 1) (hv : V 45 21 = nN 63) : ∃ s, f_X11_carryAll_99 45 10000 (mk A V R B J) (0 : Int32) = some (mk (upA A r s) (upV V 45 21 (nN 75)) R B J) ∧ ((∀ q, q < 63 → s q = A r q) ∧ ∀ p, p < 12 → s (63 + p) = A 48 p) := by
  have hl := (loop (fun m (s : (Nat → Int32) × Nat) i => f_X11_carryAll_99 45 m (mk (upA A r s.1) (upV V 45 21 (nN s.2)) R B J) i) (fun i s => s.2 = 63 + i ∧ ((∀ q, q < 63 → s.1 q = A r q) ∧ ∀ p, p < i → s.1 (63 + p) = A 48 p)) (fun i s => (upd s.1 (63 + i) (A 48 i), 63 + i + 1)) 12 (fun m i s hi hp => by
    obtain ⟨s1, s2⟩ := s
    obtain ⟨h1, h2, h3⟩ := hp
    have h1 : s2 = 63 + i := h1
    subst h1
    have g12 : ¬ (12 : Int32) ≤ Int32.ofNat i := fun q => by rw [ge12 hi] at q; exact q
    have a48 : ∀ s : Nat → Int32, upA A r s 48 = A 48 := fun s => uA_ne h48.symm
    refine ⟨?_, rfl, fun q hq => ?_, fun p hp => ?_⟩
    · show f_X11_carryAll_99 45 (m + 1) (mk (upA A r s1) (upV V 45 21 (nN (63 + i))) R B J) (Int32.ofNat i) = f_X11_carryAll_99 45 m (mk (upA A r (upd s1 (63 + i) (A 48 i))) (upV V 45 21 (nN (63 + i + 1))) R B J) (Int32.ofNat i + 1)
      rw [f_X11_carryAll_99, if_neg g12, gm_5, Option.bind_some, Option.bind_some, am_48, ib12 hi, if_pos rfl, Option.bind_some, c12 hi, a48, rm, Option.bind_some, car_take (q := 63 + i) hr hR (by omega) uV_eq ((uV_ne (by decide)).trans ht), Option.bind_some]
      dsimp only
      rw [wm_48, ib12 hi, if_pos rfl, Option.bind_some, c12 hi, uA_uA, uV_uV, uA_eq, a48, upd_self, uA_put (a48 _)]
    · show upd s1 (63 + i) (A 48 i) q = A r q
      rw [upd_ne (by omega)]
      exact h2 q hq
    · show upd s1 (63 + i) (A 48 i) (63 + p) = A 48 p
      by_cases e : p = i
      · subst e
        exact upd_eq
      · rw [upd_ne (by omega)]
        exact h3 p (by omega))) 12 0 9988 (A r, 63) rfl ⟨rfl, fun q _ => rfl, fun p hp => absurd hp (Nat.not_lt_zero p)⟩
  have e0 : f_X11_carryAll_99 45 10000 (mk A V R B J) (0 : Int32) = f_X11_carryAll_99 45 (9988 + 12) (mk (upA A r (A r)) (upV V 45 21 (nN 63)) R B J) (Int32.ofNat 0) := by
    have ev : upV V 45 21 (nN 63) = V := by
      funext b j
      unfold upV
      split
      · rename_i h; rw [h.1, h.2, hv]
      · rfl
    rw [uA_id, ev, show Int32.ofNat 0 = (0 : Int32) from rfl]
  have e1 : ∀ (s : (Nat → Int32) × Nat), f_X11_carryAll_99 45 9988 (mk (upA A r s.1) (upV V 45 21 (nN s.2)) R B J) (Int32.ofNat 12) = some (mk (upA A r s.1) (upV V 45 21 (nN s.2)) R B J) := by
    intro s
    show f_X11_carryAll_99 45 (9987 + 1) _ _ = _
    rw [f_X11_carryAll_99, if_pos (show (12 : Int32) ≤ Int32.ofNat 12 from Int32.le_refl _)]
  obtain ⟨g1, g2, g3, g4⟩ := hl
  refine ⟨_, e0.trans (g1.trans ((e1 _).trans ?_)), g3, g4⟩
  rw [g2]
end CAR
