/-! keep -/
section OPS5
variable {A V A' V' : Nat → Nat → Int32} {R R' : Nat → Nat → Option Nat} {B B' : Nat → Nat → Int64} {J : List En}
theorem c_hold {t : Nat} {r : Option Nat} (ht : isSh t) : f_X5_hold (mk A V R B J) t r = some (mk A (upV (upV V t 1 (-1)) t 2 0) (upR R t 0 r) B J) := by
  simp only [f_X5_hold, ph_0 ht, Option.bind_some, ph_1 ht, ph_2 ht]
theorem upd_eq {f : Nat → Int32} {i : Nat} {x : Int32} : upd f i x i = x := by simp [upd]
theorem upd_ne {f : Nat → Int32} {i j : Nat} {x : Int32} (h : j ≠ i) : upd f i x j = f j := by simp [upd, h]
/-- what keep writes in the model -/
def kpA (A : Nat → Nat → Int32) (d : Nat) (x k f : Int32) : Nat → Nat → Int32 := upA (upA (upA A 60 (upd (A 60) d x)) 61 (upd (A 61) d k)) 62 (upd (A 62) d f)
theorem m_keep {d : Nat} {x k f : Int32} (hd : d < 8) : f_X11_keep_59 45 (mk A V R B J) (nN d) x k f = some (0, mk (kpA A d x (if x = 1 then k else 0) (if x = 1 then f else 0)) V R B J) := by
  have cd : (Int32.ofNat d).toNatClampNeg = d := cn (by omega)
  have id8 : inB (Int32.ofNat d) 8 = true := ib hd (by decide)
  have e1 : ∀ (A : Nat → Nat → Int32) (f : Nat → Int32), upA A 60 f 61 = A 61 := fun A f => rfl
  have e2 : ∀ (A : Nat → Nat → Int32) (f g : Nat → Int32), upA (upA A 60 f) 61 g 62 = A 62 := fun A f g => rfl
  by_cases c : x = 1
  · simp only [f_X11_keep_59, f_X11_keep_81, gm_28, Option.bind_some, wm_60, id8, if_true, cd, gm_29, wm_61, gm_30, wm_62, if_pos c, e1, e2, kpA]
  · simp only [f_X11_keep_59, f_X11_keep_81, gm_28, Option.bind_some, wm_60, id8, if_true, cd, gm_29, wm_61, gm_30, wm_62, if_neg c, e1, e2, kpA]
theorem kpA_frm {d : Nat} {x k f : Int32} {V2 : Nat → Nat → Int32} {R2 : Nat → Nat → Option Nat} (hv : ∀ a k, ¬ scV a k → a ≠ 29 + 2 * d → V2 a k = V a k) (hr : ∀ a k, ¬ scR a → a ≠ 29 + 2 * d → R2 a k = R a k) : FrmS d A V R B (kpA A d x k f) V2 R2 B := by
  refine ⟨fun a h1 h2 h3 => ?_, hv, hr, fun a e h1 h2 h3 h4 => ?_, fun i _ => rfl⟩
  · unfold kpA
    rw [uA_ne (by omega), uA_ne (by omega), uA_ne (by omega)]
  · unfold kpA
    by_cases q2 : a = 62
    · subst q2
      rw [uA_eq, upd_ne h4]
    · rw [uA_ne q2]
      by_cases q1 : a = 61
      · subst q1
        rw [uA_eq, upd_ne h4]
      · rw [uA_ne q1]
        by_cases q0 : a = 60
        · subst q0
          rw [uA_eq, upd_ne h4]
        · rw [uA_ne q0]
theorem kpA_at {d : Nat} {x k f : Int32} : kpA A d x k f 60 d = x ∧ (kpA A d x k f 61 d = k ∧ kpA A d x k f 62 d = f) := by
  refine ⟨?_, ?_, ?_⟩
  · show upd (A 60) d x d = x
    exact upd_eq
  · show upd (A 61) d k d = k
    exact upd_eq
  · show upd (A 62) d f d = f
    exact upd_eq
theorem m_in01 {h : Hp} {x : Int32} : f_X11_in h x.toInt64 (0 : Int64) (1 : Int64) = some (if (0 : Int32) ≤ x ∧ x ≤ 1 then 1 else 0) := m_in (a := 0) (b := 1)
theorem m_in09 {h : Hp} {x : Int32} : f_X11_in h x.toInt64 (0 : Int64) (9 : Int64) = some (if (0 : Int32) ≤ x ∧ x ≤ 9 then 1 else 0) := m_in (a := 0) (b := 9)
theorem m_in07 {h : Hp} {x : Int32} : f_X11_in h x.toInt64 (0 : Int64) (7 : Int64) = some (if (0 : Int32) ≤ x ∧ x ≤ 7 then 1 else 0) := m_in (a := 0) (b := 7)
theorem two_of {x : Int32} (h : (0 : Int32) ≤ x ∧ x ≤ 1) : x = 0 ∨ x = 1 := by
  obtain ⟨i, rfl, hi⟩ := nat_of h.1
  have := (Int32.ofNat_le_ofNat (n := 1) hi (by decide)).mp h.2
  match i, this with
  | 0, _ => exact Or.inl rfl
  | 1, _ => exact Or.inr rfl
theorem op_23 (x1 x2 x3 x4 : Int32) : Ok2 (fun h => f_X10_keep h 0 x1 x2 x3 x4) (fun h => f_X11_keep h 45 x1 x2 x3 x4) := by
  intro A V R B J h
  have fin : ∀ J1, Inv A (upV V 45 6 0) R B (J ++ J1) := fun J1 => h.frm J1 (Frm.v (Or.inr ⟨rfl, by decide⟩))
  have h1 : Inv A (upV V 45 6 0) R B J := h.thr
  have n0 : ((0 : Int32) = 1) = False := by decide
  rcases c_shelf x1 with ⟨d, hd, rfl, hc⟩ | ⟨hc, hn⟩
  · have ht := isSh_d hd
    by_cases cw : (0 : Int32) ≤ x2 ∧ x2 ≤ 1
    · have c0 : ¬ x2 < 0 := fun q => by
        have a := Int32.lt_iff_toInt_lt.mp q
        have b := Int32.le_iff_toInt_le.mp cw.1
        omega
      rcases two_of cw with rfl | rfl
      · refine ⟨0, A, upV (upV V (29 + 2 * d) 1 (-1)) (29 + 2 * d) 2 0, upR R (29 + 2 * d) 0 none, B, [], kpA A d 0 0 0, upV (upV (upV V (29 + 2 * d) 1 (-1)) (29 + 2 * d) 2 0) 45 6 0, upR R (29 + 2 * d) 0 none, B, ?_, ?_, ?_, Nat.zero_le _, Nat.zero_le _⟩
        · rw [List.append_nil]
          simp only [f_X10_keep, ro, Option.bind_some, hc, reduceCtorEq, if_false, if_neg c0, if_pos cw.2, if_true, rh ht, c_hold ht]
        · simp only [f_X11_keep, pm_6, Option.bind_some, m_in7 hd, one_ne, if_false, m_in01, if_pos cw, m_keep hd, n0]
        · refine Inv.shelf [] h hd (kpA_frm (fun a k g1 g2 => ?_) (fun a k g1 g2 => ?_)) (Or.inl ⟨uR_eq, ?_, kpA_at.1⟩)
          · rw [uV_ne (fun q => g1 (Or.inr ⟨q.1, by rw [q.2]; decide⟩)), uV_ne (by omega), uV_ne (by omega)]
          · rw [uR_ne (by omega)]
          · rw [uV_ne (by omega), uV_ne (by omega), uV_eq]
      · rcases c_lawOf x3 x4 with ⟨k, f, hk, hf, rfl, rfl, hl⟩ | ⟨hl, hn⟩
        · have ik : (0 : Int32) ≤ nN k ∧ nN k ≤ 7 := ⟨(Int32.ofNat_le_ofNat (k := 0) (by decide) (by omega)).mpr (by omega), (Int32.ofNat_le_ofNat (n := 7) (by omega) (by decide)).mpr (by omega)⟩
          have iF : (0 : Int32) ≤ nN f ∧ nN f ≤ 9 := ⟨(Int32.ofNat_le_ofNat (k := 0) (by decide) (by omega)).mpr (by omega), (Int32.ofNat_le_ofNat (n := 9) (by omega) (by decide)).mpr (by omega)⟩
          refine ⟨0, A, upV (upV V (29 + 2 * d) 1 (-1)) (29 + 2 * d) 2 0, upR R (29 + 2 * d) 0 (some (68 + J.length)), B, [eO (lcl k) [vI (nN k), vI (nN f)]], kpA A d 1 (nN k) (nN f), upV (upV (upV V (29 + 2 * d) 1 (-1)) (29 + 2 * d) 2 0) 45 6 0, upR R (29 + 2 * d) 0 (some (68 + J.length)), B, ?_, ?_, ?_, Nat.le_of_ble_eq_true rfl, Nat.le_of_ble_eq_true rfl⟩
          · simp only [f_X10_keep, ro, Option.bind_some, hc, reduceCtorEq, if_false, if_neg c0, if_pos cw.2, one_ne, rh ht, hl, c_hold ht]
          · simp only [f_X11_keep, pm_6, Option.bind_some, m_in7 hd, one_ne, if_false, m_in01, if_pos cw, m_keep hd, if_true, m_in07, if_pos ik, m_in09, if_pos iF]
          · refine Inv.shelf _ h hd (kpA_frm (fun a k g1 g2 => ?_) (fun a k g1 g2 => ?_)) (Or.inr (Or.inl ⟨k, f, ?_, ?_, kpA_at.1, kpA_at.2.1, kpA_at.2.2⟩))
            · rw [uV_ne (fun q => g1 (Or.inr ⟨q.1, by rw [q.2]; decide⟩)), uV_ne (by omega), uV_ne (by omega)]
            · rw [uR_ne (by omega)]
            · rw [uR_eq]
              exact law_new hk hf
            · rw [uV_ne (by omega), uV_ne (by omega), uV_eq]
        · refine ⟨-1, A, V, R, B, [], A, upV V 45 6 0, R, B, ?_, ?_, fin [], Nat.zero_le _, Nat.zero_le _⟩
          · rw [List.append_nil]
            simp only [f_X10_keep, ro, Option.bind_some, hc, reduceCtorEq, if_false, if_neg c0, if_pos cw.2, one_ne, hl, if_true]
          · simp only [f_X11_keep, pm_6, Option.bind_some, m_in7 hd, one_ne, if_false, m_in01, if_pos cw, if_true, m_in07, m_in09]
            by_cases ck : (0 : Int32) ≤ x3 ∧ x3 ≤ 7
            · have cf : ¬ ((0 : Int32) ≤ x4 ∧ x4 ≤ 9) := fun q => hn ⟨ck, q⟩
              simp only [if_pos ck, one_ne, if_false, if_neg cf, if_true]
            · simp only [if_neg ck, if_true]
    · refine ⟨-1, A, V, R, B, [], A, upV V 45 6 0, R, B, ?_, ?_, fin [], Nat.zero_le _, Nat.zero_le _⟩
      · rw [List.append_nil]
        simp only [f_X10_keep, ro, Option.bind_some, hc, reduceCtorEq, if_false]
        by_cases q : x2 < 0
        · simp only [if_pos q]
        · have : ¬ x2 ≤ 1 := fun z => cw ⟨not_lt' q, z⟩
          simp only [if_neg q, if_neg this]
      · simp only [f_X11_keep, pm_6, Option.bind_some, m_in7 hd, one_ne, if_false, m_in01, if_neg cw, if_true]
  · refine ⟨-1, A, V, R, B, [], A, upV V 45 6 0, R, B, ?_, ?_, fin [], Nat.zero_le _, Nat.zero_le _⟩
    · rw [List.append_nil]
      simp only [f_X10_keep, ro, Option.bind_some, hc, if_true]
    · simp only [f_X11_keep, pm_6, Option.bind_some, m_in7n hn, if_true]
end OPS5
