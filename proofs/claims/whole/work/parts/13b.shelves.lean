/-! Shelves. -/
section OPS2
variable {A V : Nat → Nat → Int32} {R : Nat → Nat → Option Nat} {B : Nat → Nat → Int64} {J : List En}
theorem isSh_d {d : Nat} (h : d < 8) : isSh (29 + 2 * d) := by
  unfold isSh
  omega
theorem c_shelf (x : Int32) : (∃ d, d < 8 ∧ (x = nN d ∧ ∀ A V R B J, f_X10_shelfAt (mk A V R B J) 0 x = some (some (29 + 2 * d)))) ∨ ((∀ A V R B J, f_X10_shelfAt (mk A V R B J) 0 x = some none) ∧ ¬ ((0 : Int32) ≤ x ∧ x ≤ 7)) := by
  by_cases c : x < 0
  · refine Or.inr ⟨fun A V R B J => ?_, fun q => ?_⟩
    · simp only [f_X10_shelfAt, f_X10_shelfAt_22, if_pos c]
    · have h1 := Int32.lt_iff_toInt_lt.mp c
      have h2 := Int32.le_iff_toInt_le.mp q.1
      omega
  · obtain ⟨i, rfl, hi⟩ := nat_of (not_lt' c)
    by_cases h : i < 8
    · refine Or.inl ⟨i, h, rfl, fun A V R B J => ?_⟩
      have e : ((8 : Int32) ≤ Int32.ofNat i) = False := ge_no (m := 8) h (by decide)
      simp only [f_X10_shelfAt, if_neg c, go_4, lenR_mk, Option.bind_some, e, if_false, aR_mk, ib h (show 8 ≤ 5000 by decide), cn hi, if_true, shA_at i h]
    · refine Or.inr ⟨fun A V R B J => ?_, fun q => ?_⟩
      · have e : ((8 : Int32) ≤ Int32.ofNat i) = True := eq_true ((Int32.ofNat_le_ofNat (k := 8) (by decide) hi).mpr (by omega))
        simp only [f_X10_shelfAt, f_X10_shelfAt_22, if_neg c, go_4, lenR_mk, Option.bind_some, e, if_true]
      · have h2 := (Int32.ofNat_le_ofNat (n := 7) hi (by decide)).mp q.2
        omega
theorem cmp_lt {x y : Int32} : (lg_cmp x.toInt64 y.toInt64 < 0) = (x < y) := by
  have h1 : (y.toInt64 < x.toInt64) = (y < x) := propext (by rw [Int64.lt_iff_toInt_lt, Int32.toInt_toInt64, Int32.toInt_toInt64, Int32.lt_iff_toInt_lt])
  have h2 : (x.toInt64 = y.toInt64) = (x = y) := propext (by rw [← Int64.toInt_inj, Int32.toInt_toInt64, Int32.toInt_toInt64, Int32.toInt_inj])
  unfold lg_cmp
  simp only [gt_iff_lt, h1, h2]
  split
  · rename_i h
    have := Int32.lt_iff_toInt_lt.mp h
    refine propext ⟨fun q => absurd q (by decide), fun q => ?_⟩
    have := Int32.lt_iff_toInt_lt.mp q
    omega
  · rename_i h
    split
    · rename_i e
      refine propext ⟨fun q => absurd q (by decide), fun q => ?_⟩
      rw [e] at q
      have := Int32.lt_iff_toInt_lt.mp q
      omega
    · rename_i e
      refine propext ⟨fun _ => ?_, fun _ => by decide⟩
      have a := Int32.le_iff_toInt_le.mp (not_lt' h)
      have b : x.toInt ≠ y.toInt := fun q => e (Int32.toInt_inj.mp q)
      exact Int32.lt_iff_toInt_lt.mpr (by omega)
theorem cmp_gt {x y : Int32} : (0 < lg_cmp x.toInt64 y.toInt64) = (y < x) := by
  have h1 : (y.toInt64 < x.toInt64) = (y < x) := propext (by rw [Int64.lt_iff_toInt_lt, Int32.toInt_toInt64, Int32.toInt_toInt64, Int32.lt_iff_toInt_lt])
  unfold lg_cmp
  simp only [gt_iff_lt, h1]
  split
  · rename_i h
    exact propext ⟨fun _ => h, fun _ => by decide⟩
  · rename_i h
    refine propext ⟨fun q => ?_, fun q => absurd q h⟩
    split at q
    · exact absurd q (by decide)
    · exact absurd q (by decide)
theorem m_in {h : Hp} {x a b : Int32} : f_X11_in h x.toInt64 a.toInt64 b.toInt64 = some (if a ≤ x ∧ x ≤ b then 1 else 0) := by
  unfold f_X11_in f_X11_in_17
  simp only [cmp_lt, cmp_gt]
  by_cases c1 : x < a
  · have : ¬ a ≤ x := fun q => by
      have h1 := Int32.lt_iff_toInt_lt.mp c1
      have h2 := Int32.le_iff_toInt_le.mp q
      omega
    simp only [if_pos c1, this, false_and, if_false]
    rfl
  · have c1' := not_lt' c1
    by_cases c2 : b < x
    · have : ¬ x ≤ b := fun q => by
        have h1 := Int32.lt_iff_toInt_lt.mp c2
        have h2 := Int32.le_iff_toInt_le.mp q
        omega
      simp only [if_neg c1, if_pos c2, this, and_false, if_false]
      rfl
    · simp only [if_neg c1, if_neg c2, c1', not_lt' c2, and_self, if_true]
      rfl
theorem m_in7 {h : Hp} {d : Nat} (hd : d < 8) : f_X11_in h (nN d).toInt64 (0 : Int64) (7 : Int64) = some 1 := by
  have e := m_in (h := h) (x := nN d) (a := 0) (b := 7)
  rw [if_pos ⟨(Int32.ofNat_le_ofNat (k := 0) (by decide) (by omega)).mpr (by omega), (Int32.ofNat_le_ofNat (n := 7) (by omega) (by decide)).mpr (by omega)⟩] at e
  exact e
theorem m_in7n {h : Hp} {x : Int32} (hx : ¬ ((0 : Int32) ≤ x ∧ x ≤ 7)) : f_X11_in h x.toInt64 (0 : Int64) (7 : Int64) = some 0 := by
  have e := m_in (h := h) (x := x) (a := 0) (b := 7)
  rw [if_neg hx] at e
  exact e
theorem one_ne : ((1 : Int32) = 0) = False := by decide
theorem m_wrongLaw {d : Nat} (hd : d < 8) : f_X11_wrongLaw (mk A V R B J) 45 (nN d) = some (if A 60 d = 0 then -11 else if A 60 d = 1 then 0 else -12) := by
  simp only [f_X11_wrongLaw, m_in7 hd, Option.bind_some, one_ne, if_false, gm_28, am_60, ib hd (show 8 ≤ 5000 by decide), if_true, cn (show d < 2147483648 by omega)]
  split
  · rfl
  · split <;> rfl
theorem m_wrongLawN {x : Int32} (hx : ¬ ((0 : Int32) ≤ x ∧ x ≤ 7)) : f_X11_wrongLaw (mk A V R B J) 45 x = some (-1) := by
  simp only [f_X11_wrongLaw, m_in7n hx, Option.bind_some, if_true]
theorem m_wrongRow {d : Nat} (hd : d < 8) : f_X11_wrongRow (mk A V R B J) 45 (nN d) = some (if A 60 d = 0 then -11 else if A 60 d = 2 then 0 else -12) := by
  simp only [f_X11_wrongRow, m_in7 hd, Option.bind_some, one_ne, if_false, gm_28, am_60, ib hd (show 8 ≤ 5000 by decide), if_true, cn (show d < 2147483648 by omega)]
  split
  · rfl
  · split <;> rfl
theorem m_wrongRowN {x : Int32} (hx : ¬ ((0 : Int32) ≤ x ∧ x ≤ 7)) : f_X11_wrongRow (mk A V R B J) 45 x = some (-1) := by
  simp only [f_X11_wrongRow, m_in7n hx, Option.bind_some, if_true]
theorem okZ1 : okZ (1 : Int32) = some 1 := rfl
theorem okZ0 : okZ (0 : Int32) = some 0 := rfl
theorem c_nothing {t : Nat} (ht : isSh t) : f_X5_holdsNothing (mk A V R B J) t = some (if R t 0 = none ∧ V t 1 = -1 then 1 else 0) := by
  simp only [f_X5_holdsNothing, f_X5_holdsNothing_19, gh_0 ht, gh_1 ht, Option.bind_some, okZ1, okZ0]
  by_cases c1 : R t 0 = none
  · by_cases c2 : V t 1 = -1
    · simp only [c1, c2, if_true, and_self]
    · simp only [c1, c2, if_true, if_false, and_false]
  · simp only [c1, if_false, false_and]
theorem c_refLaw {t : Nat} (ht : isSh t) : f_X5_refusalAsLaw (mk A V R B J) t = some (if R t 0 = none ∧ V t 1 = -1 then -11 else -12) := by
  simp only [f_X5_refusalAsLaw, rh ht, Option.bind_some, c_nothing ht]
  by_cases c : R t 0 = none ∧ V t 1 = -1
  · simp only [if_pos c, one_ne, if_false]
  · simp only [if_neg c, if_true]
theorem c_refRow {t : Nat} (ht : isSh t) : f_X5_refusalAsRow (mk A V R B J) t = some (if R t 0 = none ∧ V t 1 = -1 then -11 else if V t 1 = -1 then -12 else 0) := by
  simp only [f_X5_refusalAsRow, f_X5_holdsRow, rh ht, Option.bind_some, c_nothing ht, gh_1 ht, okZ1, okZ0]
  by_cases c : R t 0 = none ∧ V t 1 = -1
  · simp only [if_pos c, one_ne, if_false]
  · by_cases c2 : V t 1 = -1
    · simp only [if_neg c, if_true, if_pos c2, Option.bind_some]
    · simp only [if_neg c, if_true, if_neg c2, Option.bind_some, one_ne, if_false]
/-! laws -/
theorem law_at {r : Option Nat} {k f : Nat} (h : LawAt J r k f) : ∃ a, r = some a ∧ (rcl (mk A V R B J) r = some (a, lcl k) ∧ (gI (mk A V R B J) r lws 0 = some (nN k) ∧ gI (mk A V R B J) r lws 1 = some (nN f))) := by
  obtain ⟨hk, hf, ⟨rfl, rfl, rfl | rfl | rfl⟩ | ⟨j, rfl, hj⟩⟩ := h
  · exact ⟨9, rfl, rfl, rfl, rfl⟩
  · exact ⟨18, rfl, rfl, rfl, rfl⟩
  · exact ⟨27, rfl, rfl, rfl, rfl⟩
  · have e : hO (mk A V R B J) (some (68 + j)) = some (68 + j, lcl k, [vI (nN k), vI (nN f)]) := by
      unfold hO
      dsimp only
      rw [mk_get (by omega), show 68 + j - 68 = j by omega, hj]
    have hin : lcl k ∈ lws := by
      match k, hk with
      | 0, _ | 1, _ | 2, _ | 3, _ | 4, _ | 5, _ | 6, _ | 7, _ => decide
    refine ⟨68 + j, rfl, ?_, ?_, ?_⟩
    · unfold rcl
      rw [e]
    · unfold gI gF
      rw [e]
      simp only [if_pos hin]
      rfl
    · unfold gI gF
      rw [e]
      simp only [if_pos hin]
      rfl
def taxS (k f : Nat) : Int32 := match k with
  | 1 => 3 + nN f
  | 2 => 2
  | 3 => 6
  | 5 => 7
  | 6 => 6 + 2 * nN f
  | 7 => 2 - nN f
  | _ => 3
theorem c_levy {r : Option Nat} {k f : Nat} (h : LawAt J r k f) : f_V_levy (mk A V R B J) r = some (taxS k f) := by
  obtain ⟨a, rfl, h1, h2, h3⟩ := law_at (A := A) (V := V) (R := R) (B := B) h
  have hk := h.1
  have hf := h.2.1
  unfold f_V_levy
  rw [h1, Option.bind_some]
  match k, hk with
  | 0, _ => rfl
  | 1, _ => simp only [lcl, if_true, f_X0_levy, h1, Option.bind_some, f_X3_levy, h3]; rfl
  | 2, _ => simp only [lcl, f_X4_levy, h1, Option.bind_some, f_X3_levy]; rfl
  | 3, _ => simp only [lcl, f_X1_levy, h1, Option.bind_some, f_X3_levy]; rfl
  | 4, _ => rfl
  | 5, _ => simp only [lcl, f_X7_levy, h1, Option.bind_some, f_X3_levy]; rfl
  | 6, _ =>
    have e : ∀ f, f < 10 → (2 : Int32) * (3 + nN f) = 6 + 2 * nN f := by decide +kernel
    simp only [lcl, f_X2_levy, f_X0_levy, h1, Option.bind_some, f_X3_levy, h3]
    show some ((2 : Int32) * (3 + nN f)) = some (6 + 2 * nN f)
    rw [e f (by omega)]
  | 7, _ => simp only [lcl, f_X6_levy, f_X4_levy, h1, Option.bind_some, f_X3_levy, h3]; rfl
theorem m_taxOf {h : Hp} {k f : Nat} (hk : k ≤ 7) : f_X11_taxOf h (nN k) (nN f) = some (taxS k f) := by
  match k, hk with
  | 0, _ | 1, _ | 2, _ | 3, _ | 4, _ | 5, _ | 6, _ | 7, _ => rfl
theorem op_28 (x : Int32) : Ok1 (fun h => f_X10_tax h 0 x) (fun h => f_X11_tax h 45 x) := by
  intro A V R B J h
  rcases c_shelf x with ⟨d, hd, rfl, hc⟩ | ⟨hc, hn⟩
  · have ht := isSh_d hd
    have cd : (Int32.ofNat d).toNatClampNeg = d := cn (by omega)
    have id8 : inB (Int32.ofNat d) 8 = true := ib hd (by decide)
    rcases h.2.2 d hd with ⟨s1, s2, s3⟩ | ⟨k, f, s1, s2, s3, s4, s5⟩ | ⟨s, n, s0, s1, s2, s3, s4, s5, -⟩
    · refine ⟨-11, A, upV V 45 6 0, R, B, ?_, ?_, h.thr⟩
      · simp only [f_X10_tax, ro, Option.bind_some, hc, reduceCtorEq, if_false, gh_0 ht, s1, if_true, rh ht, c_refLaw ht, s2, and_self]
      · simp only [f_X11_tax, pm_6, Option.bind_some, rm, m_wrongLaw hd, s3, if_true]
        rfl
    · refine ⟨taxS k f, A, upV V 45 6 0, R, B, ?_, ?_, h.thr⟩
      · obtain ⟨a, ha, -⟩ := law_at (A := A) (V := V) (R := R) (B := B) s1
        simp only [f_X10_tax, ro, Option.bind_some, hc, reduceCtorEq, if_false, gh_0 ht, c_levy s1]
        rw [ha]
        simp only [reduceCtorEq, if_false]
      · simp only [f_X11_tax, pm_6, Option.bind_some, rm, m_wrongLaw hd, s3, one_ne, if_true, if_false, Int32.le_refl, gm_29, gm_30, am_61, am_62, id8, cd, s4, s5, m_taxOf s1.1]
    · refine ⟨-12, A, upV V 45 6 0, R, B, ?_, ?_, h.thr⟩
      · have e : ¬ V (29 + 2 * d) 1 = -1 := by
          rw [s3]
          match s, s0 with
          | 0, _ | 1, _ | 2, _ => decide
        simp only [f_X10_tax, ro, Option.bind_some, hc, reduceCtorEq, if_false, gh_0 ht, s2, if_true, rh ht, c_refLaw ht, e, and_false]
      · simp only [f_X11_tax, pm_6, Option.bind_some, rm, m_wrongLaw hd, s5]
        rfl
  · refine ⟨-1, A, upV V 45 6 0, R, B, ?_, ?_, h.thr⟩
    · simp only [f_X10_tax, ro, Option.bind_some, hc, if_true]
    · simp only [f_X11_tax, pm_6, Option.bind_some, rm, m_wrongLawN hn]
      rfl
end OPS2
