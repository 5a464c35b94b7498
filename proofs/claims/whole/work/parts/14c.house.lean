/-! house -/
section HOU
variable {A V A' V' : Nat → Nat → Int32} {R R' : Nat → Nat → Option Nat} {B B' : Nat → Nat → Int64} {J : List En}
theorem c_plot (x : Int32) : (∃ p, p < 12 ∧ (x = nN p ∧ ((∀ h, f_X10_isPlot h x = some 1) ∧ ∀ h, f_X11_isPlot h x = some 1))) ∨ ((∀ h, f_X10_isPlot h x = some 0) ∧ ((∀ h, f_X11_isPlot h x = some 0) ∧ ∀ p, p < 12 → x ≠ nN p)) := by
  have hm : ∀ h, f_X11_isPlot h x = some (if (0 : Int32) ≤ x ∧ x ≤ 11 then 1 else 0) := by
    intro h
    have e := m_in (h := h) (x := x) (a := 0) (b := 11)
    have e' : f_X11_in h x.toInt64 (0 : Int64) (11 : Int64) = some (if (0 : Int32) ≤ x ∧ x ≤ 11 then 1 else 0) := e
    unfold f_X11_isPlot
    rw [e', Option.bind_some]
    split <;> rfl
  by_cases c : x < 0
  · refine Or.inr ⟨fun h => ?_, fun h => ?_, fun p hp q => ?_⟩
    · simp only [f_X10_isPlot, f_X10_isPlot_14, if_pos c]
      rfl
    · rw [hm, if_neg]
      intro q
      have h1 := Int32.lt_iff_toInt_lt.mp c
      have h2 := Int32.le_iff_toInt_le.mp q.1
      omega
    · rw [q] at c
      have h1 := Int32.lt_iff_toInt_lt.mp c
      rw [Int32.toInt_ofNat_of_lt (by omega)] at h1
      have : (0 : Int32).toInt = 0 := rfl
      omega
  · obtain ⟨i, rfl, hi⟩ := nat_of (not_lt' c)
    by_cases h : i < 12
    · refine Or.inl ⟨i, h, rfl, fun h' => ?_, fun h' => ?_⟩
      · simp only [f_X10_isPlot, if_neg c, ge12 h, if_false]
        rfl
      · rw [hm, if_pos ⟨not_lt' c, (Int32.ofNat_le_ofNat (n := 11) hi (by decide)).mpr (by omega)⟩]
    · refine Or.inr ⟨fun h' => ?_, fun h' => ?_, fun p hp q => ?_⟩
      · have e : (12 : Int32) ≤ Int32.ofNat i := (Int32.ofNat_le_ofNat (k := 12) (by decide) hi).mpr (by omega)
        simp only [f_X10_isPlot, f_X10_isPlot_14, if_neg c, if_pos e]
        rfl
      · rw [hm, if_neg]
        intro q
        have h2 := (Int32.ofNat_le_ofNat (n := 11) hi (by decide)).mp q.2
        omega
      · rw [n_eq hi (by omega)] at q
        omega
theorem c_numberAt {t p : Nat} (ht : isSt t) (hp : p < 12) (hx : ∀ h, f_X10_isPlot h (nN p) = some 1) : f_X8_numberAt (mk A V R B J) t (nN p) = some (A (t + 1) p) := by
  simp only [f_X8_numberAt, hx, Option.bind_some, one_ne, if_false, gs_0 ht, as_0 ht, ib12 hp, if_true, c12 hp]
theorem c_heightAt {t p : Nat} (ht : isSt t) (hp : p < 12) (hx : ∀ h, f_X10_isPlot h (nN p) = some 1) : f_X8_heightAt (mk A V R B J) t (nN p) = some (A (t + 2) p) := by
  simp only [f_X8_heightAt, hx, Option.bind_some, one_ne, if_false, gs_1 ht, as_1 ht, ib12 hp, if_true, c12 hp]
theorem c_ageAt {t p : Nat} (ht : isSt t) (hp : p < 12) (hx : ∀ h, f_X10_isPlot h (nN p) = some 1) : f_X8_ageAt (mk A V R B J) t (nN p) = some (V t 7 - 1 - A (t + 3) p) := by
  simp only [f_X8_ageAt, hx, Option.bind_some, one_ne, if_false, gs_7 ht, gs_2 ht, as_2 ht, ib12 hp, if_true, c12 hp]
theorem c_hasHouse {t p : Nat} (ht : isSt t) (hp : p < 12) (hx : ∀ h, f_X10_isPlot h (nN p) = some 1) : f_X8_hasHouse (mk A V R B J) t (nN p) = some (if A (t + 1) p = 0 then 0 else 1) := by
  simp only [f_X8_hasHouse, rs ht, Option.bind_some, c_numberAt ht hp hx]
  split <;> rfl
/-- the model's search of the event that built a house -/
def bAt (P : Nat → Nat) (p : Nat) : Nat → Int32
  | 0 => -1
  | e + 1 => if P e = p then nN e else bAt P p e
theorem bAt_lst {P H : Nat → Nat} {p : Nat} : ∀ E, occ P H p E = true → bAt P p E = nN (lst P p E)
  | 0, h => by cases h
  | E + 1, h => by
    show (if P E = p then nN E else bAt P p E) = nN (if P E = p then E else lst P p E)
    by_cases c : P E = p
    · rw [if_pos c, if_pos c]
    · rw [if_neg c, if_neg c]
      refine bAt_lst (H := H) E ?_
      have h' : (if P E = p then decide (H E ≠ 0) else occ P H p E) = true := h
      rwa [if_neg c] at h'
theorem lst_lt {P H : Nat → Nat} {p : Nat} : ∀ E, occ P H p E = true → lst P p E < E
  | 0, h => by cases h
  | E + 1, h => by
    show (if P E = p then E else lst P p E) < E + 1
    by_cases c : P E = p
    · rw [if_pos c]; omega
    · rw [if_neg c]
      have h' : (if P E = p then decide (H E ≠ 0) else occ P H p E) = true := h
      rw [if_neg c] at h'
      have := lst_lt (H := H) E h'
      omega
theorem m_builtAt {P : Nat → Nat} {E p : Nat} (hp : p < 12) (hE : E ≤ 30) (hv : V 45 2 = nN E) (he : ∀ e, e < E → P e < 12 ∧ A 46 e = nN (P e)) : f_X11_builtAt (mk A V R B J) 45 (nN p) = some (bAt P p E) := by
  have hl := (loop (fun m s i => f_X11_builtAt_4 (mk A V R B J) 45 m (nN p) s i) (fun i s => s = bAt P p i) (fun i s => bAt P p (i + 1)) E (fun m i s hi hs => by
    have h1 := he i hi
    have ne : ¬ (Int32.ofNat E ≤ Int32.ofNat i) := fun q => by
      rw [n_le (by omega) (by omega)] at q
      omega
    have i30 : inB (Int32.ofNat i) 30 = true := ib (show i < 30 by omega) (by decide)
    have ci : (Int32.ofNat i).toNatClampNeg = i := cn (by omega)
    refine ⟨?_, rfl⟩
    show f_X11_builtAt_4 (mk A V R B J) 45 (m + 1) (nN p) s (Int32.ofNat i) = f_X11_builtAt_4 (mk A V R B J) 45 m (nN p) (if P i = p then nN i else bAt P p i) (Int32.ofNat i + 1)
    rw [f_X11_builtAt_4, gm_2, Option.bind_some, hv, if_neg ne, gm_3, Option.bind_some, am_46, i30, if_pos rfl, Option.bind_some, ci, h1.2]
    by_cases c : P i = p
    · rw [if_pos (by rw [c]), if_pos c]
      rfl
    · rw [if_neg (by rw [n_eq (by omega) (by omega)]; exact c), if_neg c]
      unfold f_X11_builtAt_27
      rw [hs])) E 0 (10000 - E) (-1) (by omega) rfl
  have e0 : f_X11_builtAt (mk A V R B J) 45 (nN p) = f_X11_builtAt_4 (mk A V R B J) 45 (10000 - E + E) (nN p) (-1) (Int32.ofNat 0) := by
    rw [show Int32.ofNat 0 = (0 : Int32) from rfl, Nat.sub_add_cancel (by omega)]
    unfold f_X11_builtAt
    rfl
  have e1 : ∀ s, f_X11_builtAt_4 (mk A V R B J) 45 (10000 - E) (nN p) s (Int32.ofNat E) = some s := by
    intro s
    obtain ⟨m, hm⟩ : ∃ m, 10000 - E = m + 1 := ⟨9999 - E, by omega⟩
    rw [hm, f_X11_builtAt_4, gm_2, Option.bind_some, hv, if_pos (Int32.le_refl _)]
  refine e0.trans (hl.1.trans ((e1 _).trans ?_))
  rw [hl.2]
theorem sub3 (a b : Int32) : a - 1 - b = a - b - 1 := by
  rw [Int32.sub_eq_add_neg, Int32.sub_eq_add_neg, Int32.sub_eq_add_neg, Int32.sub_eq_add_neg, Int32.add_assoc, Int32.add_assoc, Int32.add_comm (-1) (-b)]
theorem op_4 (x1 x2 : Int32) : Ok1 (fun h => f_X10_house h 0 x1 x2) (fun h => f_X11_house h 45 x1 x2) := by
  intro A V R B J h
  have h0 := h
  obtain ⟨⟨T, w, st, mo⟩, -⟩ := h0
  rcases c_plot x1 with ⟨p, hp, rfl, g1, g2⟩ | ⟨g1, g2, -⟩
  · by_cases c2 : (0 : Int32) ≤ x2 ∧ x2 ≤ 2
    · have n1 : ¬ x2 < 0 := fun q => by
        have a := Int32.lt_iff_toInt_lt.mp q
        have b := Int32.le_iff_toInt_le.mp c2.1
        omega
      have hN := w.num p hp
      have a2 : A (1 + 1) p = nN (tN T p) := st.2.2.2.1 p hp
      have a48 := mo.2.2 p hp
      have z := nN_0 (show tN T p < 2147483648 by omega)
      by_cases c0 : tN T p = 0
      · refine ⟨-4, A, upV V 45 6 0, R, B, ?_, ?_, h.thr⟩
        · simp only [f_X10_house, g1, Option.bind_some, one_ne, if_false, if_neg n1, if_pos c2.2, go_0, rs isT, c_hasHouse isT hp g1, a2, c0, show (nN 0 = 0) = True from eq_true rfl, if_true]
        · simp only [f_X11_house, pm_6, Option.bind_some, g2, one_ne, if_false, m_in02, if_pos c2, gm_5, am_48, ib12 hp, if_true, c12 hp, a48, c0, show (nN 0 = 0) = True from eq_true rfl]
      · have ho : occ (tP T) (tH T) p (tE T) = true := (w.2.2.2 p hp).1.mp c0
        have hb := bAt_lst (H := tH T) (tE T) ho
        have hlt := lst_lt (H := tH T) (tE T) ho
        have hE30 := w.2.2.1.1
        have hbA := m_builtAt (A := A) (V := upV V 45 6 0) (R := R) (B := B) (J := J) (P := tP T) hp hE30 (by rw [uV_ne (by decide)]; exact mo.1.2.2) (fun e he => ⟨(w.2.2.1.2 e he).1, (mo.2.1 e he).1⟩)
        rw [hb] at hbA
        obtain ⟨a3, a4⟩ := st.2.2.2.2.1 p hp c0
        have il : inB (nN (lst (tP T) p (tE T))) 30 = true := ib (show lst (tP T) p (tE T) < 30 by omega) (by decide)
        have cl : (nN (lst (tP T) p (tE T))).toNatClampNeg = lst (tP T) p (tE T) := cn (by omega)
        have a47 := (mo.2.1 _ hlt).2
        have vE : upV V 45 6 0 45 2 = nN (tE T) := by rw [uV_ne (by decide)]; exact mo.1.2.2
        by_cases q0 : x2 = 0
        · refine ⟨nN (tN T p), A, upV V 45 6 0, R, B, ?_, ?_, h.thr⟩
          · simp only [f_X10_house, g1, Option.bind_some, one_ne, if_false, if_neg n1, if_pos c2.2, go_0, rs isT, c_hasHouse isT hp g1, a2, z, c0, if_pos q0, c_numberAt isT hp g1]
          · simp only [f_X11_house, pm_6, Option.bind_some, g2, one_ne, if_false, m_in02, if_pos c2, gm_5, am_48, ib12 hp, if_true, c12 hp, a48, z, c0, rm, hbA, if_pos q0]
        · by_cases q1 : x2 = 1
          · refine ⟨nN (tH T (lst (tP T) p (tE T))), A, upV V 45 6 0, R, B, ?_, ?_, h.thr⟩
            · simp only [f_X10_house, g1, Option.bind_some, one_ne, if_false, if_neg n1, if_pos c2.2, go_0, rs isT, c_hasHouse isT hp g1, a2, z, c0, if_neg q0, if_pos q1, c_heightAt isT hp g1, a3]
            · simp only [f_X11_house, pm_6, Option.bind_some, g2, one_ne, if_false, m_in02, if_pos c2, gm_5, am_48, ib12 hp, if_true, c12 hp, a48, z, c0, rm, hbA, if_neg q0, if_pos q1, gm_4, am_47, il, cl, a47]
          · refine ⟨nN (tE T) - 1 - nN (lst (tP T) p (tE T)), A, upV V 45 6 0, R, B, ?_, ?_, h.thr⟩
            · simp only [f_X10_house, g1, Option.bind_some, one_ne, if_false, if_neg n1, if_pos c2.2, go_0, rs isT, c_hasHouse isT hp g1, a2, z, c0, if_neg q0, if_neg q1, c_ageAt isT hp g1, st.1.1, a4]
            · simp only [f_X11_house, pm_6, Option.bind_some, g2, one_ne, if_false, m_in02, if_pos c2, gm_5, am_48, ib12 hp, if_true, c12 hp, a48, z, c0, rm, hbA, if_neg q0, if_neg q1, gm_2, vE, sub3]
    · refine ⟨-1, A, upV V 45 6 0, R, B, ?_, ?_, h.thr⟩
      · simp only [f_X10_house, g1, Option.bind_some, one_ne, if_false]
        by_cases q : x2 < 0
        · simp only [if_pos q]
        · have : ¬ x2 ≤ 2 := fun y => c2 ⟨not_lt' q, y⟩
          simp only [if_neg q, if_neg this]
      · simp only [f_X11_house, pm_6, Option.bind_some, g2, one_ne, if_false, m_in02, if_neg c2, if_true]
  · refine ⟨-1, A, upV V 45 6 0, R, B, ?_, ?_, h.thr⟩
    · simp only [f_X10_house, g1, Option.bind_some, if_true]
    · simp only [f_X11_house, pm_6, Option.bind_some, g2, if_true]
end HOU
