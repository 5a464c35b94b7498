section CAR3
variable {A V A' V' : Nat → Nat → Int32} {R R' : Nat → Nat → Option Nat} {B B' : Nat → Nat → Int64} {J : List En}
theorem uV_put {a k : Nat} {x : Int32} (h : V a k = x) : upV V a k x = V := by
  funext b j
  unfold upV
  split
  · rename_i g; rw [g.1, g.2, h]
  · rfl
theorem m_take {r : Nat} (hr : LA r = 75) (h46 : r ≠ 46) (h47 : r ≠ 47) (h48 : r ≠ 48) : ∃ s, f_X11_carryAll (mk A V R B J) 45 (some r) 1 = some (mk (upA A r s) (upV (upV V 45 22 1) 45 21 (nN 75)) (upR R 45 23 (some r)) B J) ∧ ((s 0 = V 45 0 ∧ (s 1 = V 45 1 ∧ s 2 = V 45 2)) ∧ ((∀ e, e < 30 → s (3 + 2 * e) = A 46 e ∧ s (4 + 2 * e) = A 47 e) ∧ ∀ p, p < 12 → s (63 + p) = A 48 p)) := by
  have hR : upR R 45 23 (some r) 45 23 = some r := uR_eq
  have v21 : ∀ q, upV (upV V 45 22 1) 45 21 (nN q) 45 21 = nN q := fun q => uV_eq
  have v22 : ∀ q, upV (upV V 45 22 1) 45 21 (nN q) 45 22 = 1 := fun q => (uV_ne (by decide)).trans uV_eq
  have v0 : ∀ q, upV (upV V 45 22 1) 45 21 (nN q) 45 0 = V 45 0 := fun q => (uV_ne (by decide)).trans (uV_ne (by decide))
  have v1 : ∀ q, upV (upV V 45 22 1) 45 21 (nN q) 45 1 = V 45 1 := fun q => (uV_ne (by decide)).trans (uV_ne (by decide))
  have v2 : ∀ q, upV (upV V 45 22 1) 45 21 (nN q) 45 2 = V 45 2 := fun q => (uV_ne (by decide)).trans (uV_ne (by decide))
  obtain ⟨s, k1, k2, k3, k4⟩ := car_t53 (A := upA A r (upd (upd (upd (A r) 0 (V 45 0)) (0 + 1) (V 45 1)) (0 + 1 + 1) (V 45 2))) (V := upV (upV V 45 22 1) 45 21 (nN 3)) (R := upR R 45 23 (some r)) (B := B) (J := J) hr h46 h47 h48 hR (v22 3) (v21 3)
  refine ⟨s, ?_, ⟨?_, ?_, ?_⟩, ?_, ?_⟩
  · unfold f_X11_carryAll
    rw [pm_23, Option.bind_some, okZ1, Option.bind_some, pm_22, Option.bind_some, pm_21, Option.bind_some, show (0 : Int32) = nN 0 from rfl, gm_0, Option.bind_some, v0, rm, Option.bind_some, car_take (q := 0) hr hR (by decide) (v21 0) (v22 0), Option.bind_some]
    dsimp only
    rw [uV_uV, pm_0, uV_put (v0 _), Option.bind_some, gm_1, Option.bind_some, v1, rm, Option.bind_some, car_take (q := 0 + 1) hr hR (by decide) (v21 _) (v22 _), Option.bind_some]
    dsimp only
    rw [uV_uV, uA_uA, uA_eq, pm_1, uV_put (v1 _), Option.bind_some, gm_2, Option.bind_some, v2, rm, Option.bind_some, car_take (q := 0 + 1 + 1) hr hR (by decide) (v21 _) (v22 _), Option.bind_some]
    dsimp only
    rw [uV_uV, uA_uA, uA_eq, pm_2, uV_put (v2 _), Option.bind_some]
    refine Eq.trans k1 ?_
    rw [uA_uA, uV_uV]
  · rw [k2 0 (by decide), uA_eq, upd_ne (by decide), upd_ne (by decide), upd_eq]
  · rw [k2 1 (by decide), uA_eq, upd_ne (by decide), upd_eq]
  · rw [k2 2 (by decide), uA_eq, upd_eq]
  · intro e he
    have := k3 e he
    rw [uA_ne h46.symm, uA_ne h47.symm] at this
    exact this
  · intro p hp
    have := k4 p hp
    rw [uA_ne h48.symm] at this
    exact this
end CAR3
