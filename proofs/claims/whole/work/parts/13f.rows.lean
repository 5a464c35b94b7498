/-! row, put, element. -/
section OPS6
variable {A V A' V' : Nat → Nat → Int32} {R R' : Nat → Nat → Option Nat} {B B' : Nat → Nat → Int64} {J : List En}
theorem idx {d i : Nat} : (100 : Int32) * nN d + nN i = nN (100 * d + i) := by
  show Int32.ofNat 100 * Int32.ofNat d + Int32.ofNat i = Int32.ofNat (100 * d + i)
  rw [Int32.ofNat_add, Int32.ofNat_mul]
/-- between 0 and a size -/
theorem in_size {x : Int32} {n : Nat} (hn : n ≤ 100) : (∃ i, i < n ∧ (x = nN i ∧ (x < 0) = False ∧ (nN n ≤ x) = False ∧ ((0 : Int32) ≤ x ∧ x ≤ nN n - 1))) ∨ ((x < 0 ∨ (¬ x < 0 ∧ nN n ≤ x)) ∧ ¬ ((0 : Int32) ≤ x ∧ x ≤ nN n - 1)) := by
  have e1 : (nN n - 1).toInt = (n : Int) - 1 := by
    rw [Int32.toInt_sub, Int32.toInt_ofNat_of_lt (by omega)]
    have : (1 : Int32).toInt = 1 := rfl
    rw [this, Int.bmod_eq_of_le (by omega) (by omega)]
  by_cases c : x < 0
  · refine Or.inr ⟨Or.inl c, fun q => ?_⟩
    have h1 := Int32.lt_iff_toInt_lt.mp c
    have h2 := Int32.le_iff_toInt_le.mp q.1
    omega
  · obtain ⟨i, rfl, hi⟩ := nat_of (not_lt' c)
    by_cases h : i < n
    · refine Or.inl ⟨i, h, rfl, eq_false c, eq_false (fun q => absurd ((Int32.ofNat_le_ofNat (by omega) hi).mp q) (by omega)), not_lt' c, ?_⟩
      rw [Int32.le_iff_toInt_le, e1, Int32.toInt_ofNat_of_lt hi]
      omega
    · refine Or.inr ⟨Or.inr ⟨c, (Int32.ofNat_le_ofNat (by omega) hi).mpr (by omega)⟩, fun q => ?_⟩
      have h2 := Int32.le_iff_toInt_le.mp q.2
      rw [e1, Int32.toInt_ofNat_of_lt hi] at h2
      omega
theorem c_place {t : Nat} {x : Int32} {n : Nat} (ht : isSh t) (hn : n ≤ 100) (hv : V t 2 = nN n) : (∃ i, i < n ∧ (x = nN i ∧ ((x < 0) = False ∧ f_X5_hasPlace (mk A V R B J) t x = some 1) ∧ ((0 : Int32) ≤ x ∧ x ≤ nN n - 1))) ∨ (f_X5_hasPlace (mk A V R B J) t x = some 0 ∧ ¬ ((0 : Int32) ≤ x ∧ x ≤ nN n - 1)) := by
  rcases in_size (x := x) hn with ⟨i, h1, h2, h3, h4, h5⟩ | ⟨h1 | ⟨h1, h2⟩, h3⟩
  · refine Or.inl ⟨i, h1, h2, ⟨h3, ?_⟩, h5⟩
    simp only [f_X5_hasPlace, h3, if_false, gh_2 ht, Option.bind_some, hv, h4]
    rfl
  · refine Or.inr ⟨?_, h3⟩
    simp only [f_X5_hasPlace, f_X5_hasPlace_16, if_pos h1]
    rfl
  · refine Or.inr ⟨?_, h3⟩
    simp only [f_X5_hasPlace, f_X5_hasPlace_16, if_neg h1, gh_2 ht, Option.bind_some, hv, if_pos h2]
    rfl
theorem c_at {t i n : Nat} (ht : isSh t) (hn : n ≤ 100) (hv : V t 2 = nN n) (hi : i < 2147483648) : f_X5_at (mk A V R B J) t (nN i) = some (if i < n then A (t + 1) i else 0) := by
  rcases c_place (A := A) (R := R) (B := B) (J := J) (x := nN i) ht hn hv with ⟨j, h1, h2, ⟨h3, h4⟩, -⟩ | ⟨h4, h5⟩
  · have e : i = j := by rwa [n_eq hi (by omega)] at h2
    subst e
    have g : ((100 : Int32) ≤ nN i) = False := ge_no (m := 100) (by omega) (by decide)
    rw [if_pos h1]
    simp only [f_X5_at, rh ht, Option.bind_some, h4, one_ne, if_false, g, gh_3 ht, ah ht, ib (show i < 100 by omega) (by decide), if_true, cn hi]
  · have g : ¬ i < n := fun q => h5 ⟨(Int32.ofNat_le_ofNat (k := 0) (by decide) hi).mpr (by omega), by
      rw [Int32.le_iff_toInt_le, Int32.toInt_sub, Int32.toInt_ofNat_of_lt (by omega), Int32.toInt_ofNat_of_lt (by omega)]
      have : (1 : Int32).toInt = 1 := rfl
      rw [this, Int.bmod_eq_of_le (by omega) (by omega)]
      omega⟩
    rw [if_neg g]
    simp only [f_X5_at, f_X5_at_23, rh ht, Option.bind_some, h4, if_true]
theorem m_sz {x : Int32} {n : Nat} {h : Hp} : f_X11_in h x.toInt64 (0 : Int64) (nN n - 1).toInt64 = some (if (0 : Int32) ≤ x ∧ x ≤ nN n - 1 then 1 else 0) := m_in (a := 0)
def keptS (s : Nat) (x : Int32) : Int32 := match s with
  | 0 => x.toInt8.toInt32
  | 1 => x.toInt16.toInt32
  | _ => x
theorem kept_in {s : Nat} {x : Int32} (hs : s ≤ 2) : inSort s (keptS s x) := by
  match s, hs with
  | 0, _ =>
    show (x.toInt8.toInt32).toInt8.toInt32 = x.toInt8.toInt32
    simp
  | 1, _ =>
    show (x.toInt16.toInt32).toInt16.toInt32 = x.toInt16.toInt32
    simp
  | 2, _ => trivial
theorem c_kept {t s : Nat} {x : Int32} (ht : isSh t) (hs : s ≤ 2) (hv : V t 1 = nN s) : f_X5_kept (mk A V R B J) t x = some (keptS s x) := by
  simp only [f_X5_kept, gh_1 ht, Option.bind_some, hv]
  match s, hs with
  | 0, _ | 1, _ | 2, _ => rfl
theorem m_narrowed {h : Hp} {s : Nat} {x : Int32} (hs : s ≤ 2) : f_X11_narrowed h x (nN s) = some (keptS s x).toInt64 := by
  match s, hs with
  | 0, _ | 1, _ | 2, _ => rfl
theorem updL_eq {f : Nat → Int64} {i : Nat} {x : Int64} : vp_updL f i x i = x := by simp [vp_updL]
theorem updL_ne {f : Nat → Int64} {i j : Nat} {x : Int64} (h : j ≠ i) : vp_updL f i x j = f j := by simp [vp_updL, h]
theorem sort_ne {s : Nat} (h : s ≤ 2) : (nN s = -1) = False := by
  match s, h with
  | 0, _ | 1, _ | 2, _ => decide
theorem op_25 (x1 x2 x3 : Int32) : Ok2 (fun h => f_X10_put h 0 x1 x2 x3) (fun h => f_X11_put h 45 x1 x2 x3) := by
  intro A V R B J h
  have fin : Inv A (upV V 45 6 0) R B (J ++ []) := h.frm [] (Frm.v (Or.inr ⟨rfl, by decide⟩))
  rcases c_shelf x1 with ⟨d, hd, rfl, hc⟩ | ⟨hc, hn⟩
  · have ht := isSh_d hd
    have cd : (Int32.ofNat d).toNatClampNeg = d := cn (by omega)
    have id8 : inB (Int32.ofNat d) 8 = true := ib hd (by decide)
    rcases h.2.2 d hd with ⟨s1, s2, s3⟩ | ⟨k, f, s1, s2, s3, s4, s5⟩ | ⟨s, n, s0, s1, s2, s3, s4, s5, s6, s7, s8⟩
    · refine ⟨-11, A, V, R, B, [], A, upV V 45 6 0, R, B, ?_, ?_, fin, Nat.zero_le _, Nat.zero_le _⟩
      · rw [List.append_nil]
        simp only [f_X10_put, ro, Option.bind_some, hc, reduceCtorEq, if_false, rh ht, c_refRow ht, s1, s2, and_self, if_true]
        rfl
      · simp only [f_X11_put, pm_6, Option.bind_some, rm, m_wrongRow hd, s3, if_true]
        rfl
    · have hne : ¬ R (29 + 2 * d) 0 = none := by
        obtain ⟨a, ha, -⟩ := law_at (A := A) (V := V) (R := R) (B := B) s1
        rw [ha]
        exact Option.some_ne_none a
      refine ⟨-12, A, V, R, B, [], A, upV V 45 6 0, R, B, ?_, ?_, fin, Nat.zero_le _, Nat.zero_le _⟩
      · rw [List.append_nil]
        simp only [f_X10_put, ro, Option.bind_some, hc, reduceCtorEq, if_false, rh ht, c_refRow ht, hne, s2, false_and, if_true]
        rfl
      · simp only [f_X11_put, pm_6, Option.bind_some, rm, m_wrongRow hd, s3]
        rfl
    · have hp := c_place (A := A) (R := R) (B := B) (J := J) (x := x2) ht s1 s4
      have hm1 : f_X11_wrongRow (mk A (upV V 45 6 0) R B J) 45 (nN d) = some 0 := by
        rw [m_wrongRow hd, s5]
        rfl
      rcases hp with ⟨i, hi, rfl, ⟨p1, p2⟩, p3⟩ | ⟨p1, p2⟩
      · have ib1 : inB (nN i) 100 = true := ib (show i < 100 by omega) (by decide)
        have ib2 : inB (nN (100 * d + i)) 800 = true := ib (show 100 * d + i < 800 by omega) (by decide)
        have g : ((100 : Int32) ≤ nN i) = False := ge_no (m := 100) (by omega) (by decide)
        refine ⟨0, upA A (29 + 2 * d + 1) (upd (A (29 + 2 * d + 1)) i (keptS s x3)), V, R, B, [], upA A (29 + 2 * d + 1) (upd (A (29 + 2 * d + 1)) i (keptS s x3)), upV V 45 6 0, R, upB B 65 (vp_updL (B 65) (100 * d + i) (keptS s x3).toInt64), ?_, ?_, ?_, Nat.zero_le _, Nat.zero_le _⟩
        · rw [List.append_nil]
          simp only [f_X10_put, f_X5_set, ro, Option.bind_some, hc, reduceCtorEq, if_false, rh ht, c_refRow ht, s2, s3, sort_ne s0, and_false, p2, one_ne, if_true, g, gh_3 ht, c_kept ht s0 s3, wh ht, ib1, cn (show i < 2147483648 by omega)]
        · rw [List.append_nil]
          have e1 : ∀ b, b ≠ 29 + 2 * d + 1 → upA A (29 + 2 * d + 1) (upd (A (29 + 2 * d + 1)) i (keptS s x3)) b = A b := fun b hb => uA_ne hb
          have hm2 : f_X11_wrongRow (mk (upA A (29 + 2 * d + 1) (upd (A (29 + 2 * d + 1)) i (keptS s x3))) (upV V 45 6 0) R B J) 45 (nN d) = some 0 := by
            rw [m_wrongRow hd, e1 60 (by omega), s5]
            rfl
          simp only [f_X11_put, pm_6, Option.bind_some, rm, hm2, Int32.le_refl, if_true, gm_32, am_64, id8, cd, e1 64 (by omega), s7, m_sz, if_pos p3, one_ne, if_false, gm_33, gm_31, am_63, e1 63 (by omega), s6, m_narrowed s0, idx, wm_65, ib2, cn (show 100 * d + i < 2147483648 by omega)]
        · refine Inv.shelf [] h hd ⟨fun a g1 g2 g3 => uA_ne (by omega), fun a k g1 g2 => uV_ne (fun q => g1 (Or.inr ⟨q.1, by rw [q.2]; decide⟩)), fun a k _ _ => rfl, fun a e g1 g2 g3 g4 => by rw [uA_ne (by omega)], fun j hj => ?_⟩ (Or.inr (Or.inr ⟨s, n, s0, s1, s2, ?_, ?_, ?_, ?_, ?_, fun j hj => ?_⟩))
          · rw [uB_eq, updL_ne (by omega)]
          · rw [uV_ne (by omega)]; exact s3
          · rw [uV_ne (by omega)]; exact s4
          · rw [uA_ne (by omega)]; exact s5
          · rw [uA_ne (by omega)]; exact s6
          · rw [uA_ne (by omega)]; exact s7
          · have e : 30 + 2 * d = 29 + 2 * d + 1 := by omega
            rw [e, uA_eq, uB_eq]
            by_cases q : j = i
            · subst q
              rw [upd_eq, updL_eq]
              exact ⟨kept_in s0, rfl⟩
            · rw [upd_ne q, updL_ne (by omega), ← e]
              exact s8 j hj
      · refine ⟨-13, A, V, R, B, [], A, upV V 45 6 0, R, B, ?_, ?_, fin, Nat.zero_le _, Nat.zero_le _⟩
        · rw [List.append_nil]
          simp only [f_X10_put, ro, Option.bind_some, hc, reduceCtorEq, if_false, rh ht, c_refRow ht, s2, s3, sort_ne s0, and_false, if_true, p1]
        · rw [List.append_nil]
          simp only [f_X11_put, pm_6, Option.bind_some, rm, hm1, Int32.le_refl, if_true, gm_32, am_64, id8, cd, s7, m_sz, if_neg p2]
  · refine ⟨-1, A, V, R, B, [], A, upV V 45 6 0, R, B, ?_, ?_, fin, Nat.zero_le _, Nat.zero_le _⟩
    · rw [List.append_nil]
      simp only [f_X10_put, ro, Option.bind_some, hc, if_true]
    · simp only [f_X11_put, pm_6, Option.bind_some, rm, m_wrongRowN hn]
      rfl
end OPS6
