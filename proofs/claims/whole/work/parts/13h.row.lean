/-! row: filled with 0. -/
section OPS8
variable {A V A' V' : Nat → Nat → Int32} {R R' : Nat → Nat → Option Nat} {B B' : Nat → Nat → Int64} {J : List En}
theorem uA_id {a : Nat} : upA A a (A a) = A := by
  funext b
  unfold upA
  split
  · rename_i h; rw [h]
  · rfl
theorem uA_uA {a : Nat} {f g : Nat → Int32} : upA (upA A a f) a g = upA A a g := by
  funext b
  unfold upA
  split <;> rfl
theorem uB_id {a : Nat} : upB B a (B a) = B := by
  funext b
  unfold upB
  split
  · rename_i h; rw [h]
  · rfl
theorem uB_uB {a : Nat} {f g : Nat → Int64} : upB (upB B a f) a g = upB B a g := by
  funext b
  unfold upB
  split <;> rfl
theorem itr_fill {x : Int32} : ∀ (k i : Nat) (s : Nat → Int32) (p : Nat), itr (fun i s => upd s i x) i k s p = if i ≤ p ∧ p < i + k then x else s p := by
  intro k
  induction k with
  | zero => intro i s p; rw [if_neg (by omega)]; rfl
  | succ k ih =>
    intro i s p
    show itr (fun i s => upd s i x) (i + 1) k (upd s i x) p = _
    rw [ih]
    by_cases q : i + 1 ≤ p ∧ p < i + 1 + k
    · rw [if_pos q, if_pos (by omega)]
    · rw [if_neg q]
      by_cases e : p = i
      · subst e
        rw [upd_eq, if_pos (by omega)]
      · rw [upd_ne e, if_neg (by omega)]
theorem c_fill {a n : Nat} {x : Int32} (h : LA a = n) (hn : n ≠ 0) (hb : n ≤ 1000) : f_J7_fill_53178 (mk A V R B J) (some a) x = some (mk (upA A a (itr (fun i s => upd s i x) 0 n (A a))) V R B J) := by
  have hl := (loop (fun m s i => f_J7_fill_53178_5 m (mk (upA A a s) V R B J) (some a) x i (nN n)) (fun _ _ => True) (fun i s => upd s i x) n (fun m i s hi _ => by
    refine ⟨?_, trivial⟩
    have e : (nN n ≤ nN i) = False := ge_no hi hb
    simp only [f_J7_fill_53178_5, e, if_false, wI_mk h hn, ib hi (show n ≤ 5000 by omega), if_true, cn (show i < 2147483648 by omega), Option.bind_some, uA_eq, uA_uA])) n 0 (10000 - n) (A a) (by omega) trivial
  have e0 : f_J7_fill_53178 (mk A V R B J) (some a) x = f_J7_fill_53178_5 (10000 - n + n) (mk (upA A a (A a)) V R B J) (some a) x (Int32.ofNat 0) (nN n) := by
    rw [uA_id, Nat.sub_add_cancel (by omega), show Int32.ofNat 0 = (0 : Int32) from rfl]
    unfold f_J7_fill_53178
    rw [lenI_mk h hn, Option.bind_some]
  have e1 : ∀ s, f_J7_fill_53178_5 (10000 - n) (mk (upA A a s) V R B J) (some a) x (nN n) (nN n) = some (mk (upA A a s) V R B J) := by
    intro s
    obtain ⟨m, hm⟩ : ∃ m, 10000 - n = m + 1 := ⟨9999 - n, by omega⟩
    rw [hm, f_J7_fill_53178_5, if_pos (Int32.le_refl _)]
  exact e0.trans (hl.1.trans (e1 _))
theorem itr_fillL {o : Nat} {x : Int64} : ∀ (k i : Nat) (s : Nat → Int64) (p : Nat), itr (fun i s => vp_updL s (o + i) x) i k s p = if o + i ≤ p ∧ p < o + i + k then x else s p := by
  intro k
  induction k with
  | zero => intro i s p; rw [if_neg (by omega)]; rfl
  | succ k ih =>
    intro i s p
    show itr (fun i s => vp_updL s (o + i) x) (i + 1) k (vp_updL s (o + i) x) p = _
    rw [ih]
    by_cases q : o + (i + 1) ≤ p ∧ p < o + (i + 1) + k
    · rw [if_pos q, if_pos (by omega)]
    · rw [if_neg q]
      by_cases e : p = o + i
      · subst e
        rw [updL_eq, if_pos (by omega)]
      · rw [updL_ne e, if_neg (by omega)]
theorem m_row {d : Nat} (hd : d < 8) : f_X11_row_68 45 10000 (mk A V R B J) (nN d) (0 : Int32) = some (0, mk A V R (upB B 65 (itr (fun i s => vp_updL s (100 * d + i) 0) 0 100 (B 65))) J) := by
  have hl := (loop (fun m s i => f_X11_row_68 45 m (mk A V R (upB B 65 s) J) (nN d) i) (fun _ _ => True) (fun i s => vp_updL s (100 * d + i) 0) 100 (fun m i s hi _ => by
    refine ⟨?_, trivial⟩
    have e : ((100 : Int32) ≤ Int32.ofNat i) = False := ge_no (m := 100) hi (by decide)
    have e2 : (100 : Int32) * nN d + Int32.ofNat i = nN (100 * d + i) := idx
    have ib2 : inB (nN (100 * d + i)) 800 = true := ib (show 100 * d + i < 800 by omega) (by decide)
    simp only [f_X11_row_68, e, if_false, gm_33, Option.bind_some, e2, wm_65, ib2, if_true, cn (show 100 * d + i < 2147483648 by omega), uB_eq, uB_uB])) 100 0 9900 (B 65) rfl trivial
  have e0 : f_X11_row_68 45 10000 (mk A V R B J) (nN d) (0 : Int32) = f_X11_row_68 45 (9900 + 100) (mk A V R (upB B 65 (B 65)) J) (nN d) (Int32.ofNat 0) := by
    rw [uB_id, show Int32.ofNat 0 = (0 : Int32) from rfl]
  have e1 : ∀ s, f_X11_row_68 45 9900 (mk A V R (upB B 65 s) J) (nN d) (Int32.ofNat 100) = some (0, mk A V R (upB B 65 s) J) := by
    intro s
    show f_X11_row_68 45 (9899 + 1) _ _ _ = _
    rw [f_X11_row_68, if_pos (show (100 : Int32) ≤ Int32.ofNat 100 from Int32.le_refl _)]
  exact e0.trans (hl.1.trans (e1 _))
theorem c_holdRow {t : Nat} {x y : Int32} (ht : isSh t) : f_X5_holdRow (mk A V R B J) t x y = some (mk (upA A (t + 1) (itr (fun i s => upd s i 0) 0 100 (A (t + 1)))) (upV (upV V t 1 x) t 2 y) (upR R t 0 none) B J) := by
  unfold f_X5_holdRow
  rw [ph_0 ht, Option.bind_some, ph_1 ht, Option.bind_some, ph_2 ht, Option.bind_some, gh_3 ht, Option.bind_some, c_fill (lh ht) (Nat.succ_ne_zero 99) (Nat.le_of_ble_eq_true rfl), Option.bind_some]
/-- what row writes in the model -/
def roA (A : Nat → Nat → Int32) (d : Nat) (s n : Int32) : Nat → Nat → Int32 := upA (upA (upA A 60 (upd (A 60) d 2)) 63 (upd (A 63) d s)) 64 (upd (A 64) d n)
theorem m_in02 {h : Hp} {x : Int32} : f_X11_in h x.toInt64 (0 : Int64) (2 : Int64) = some (if (0 : Int32) ≤ x ∧ x ≤ 2 then 1 else 0) := m_in (a := 0) (b := 2)
theorem op_24 (x1 x2 x3 : Int32) : Ok2 (fun h => f_X10_row h 0 x1 x2 x3) (fun h => f_X11_row h 45 x1 x2 x3) := by
  intro A V R B J h
  have fin : Inv A (upV V 45 6 0) R B (J ++ []) := h.frm [] (Frm.v (Or.inr ⟨rfl, by decide⟩))
  rcases c_shelf x1 with ⟨d, hd, rfl, hc⟩ | ⟨hc, hn⟩
  · have ht := isSh_d hd
    have cd : (Int32.ofNat d).toNatClampNeg = d := cn (by omega)
    have id8 : inB (Int32.ofNat d) 8 = true := ib hd (by decide)
    by_cases cs : (0 : Int32) ≤ x2 ∧ x2 ≤ 2
    · have g1 : ¬ x2 < 0 := fun q => by
        have a := Int32.lt_iff_toInt_lt.mp q
        have b := Int32.le_iff_toInt_le.mp cs.1
        omega
      have g2 : ¬ (2 : Int32) < x2 := fun q => by
        have a := Int32.lt_iff_toInt_lt.mp q
        have b := Int32.le_iff_toInt_le.mp cs.2
        omega
      by_cases c3 : x3 ≤ 100
      · by_cases c4 : 0 ≤ x3
        · obtain ⟨s, rfl, hs⟩ := nat_of cs.1
          obtain ⟨n, rfl, hn⟩ := nat_of c4
          have hs2 := (Int32.ofNat_le_ofNat (n := 2) hs (by decide)).mp cs.2
          have hn2 := (Int32.ofNat_le_ofNat (n := 100) hn (by decide)).mp c3
          have e30 : 30 + 2 * d = 29 + 2 * d + 1 := by omega
          refine ⟨0, upA A (29 + 2 * d + 1) (itr (fun i s => upd s i 0) 0 100 (A (29 + 2 * d + 1))), upV (upV V (29 + 2 * d) 1 (nN s)) (29 + 2 * d) 2 (nN n), upR R (29 + 2 * d) 0 none, B, [], roA (upA A (29 + 2 * d + 1) (itr (fun i s => upd s i 0) 0 100 (A (29 + 2 * d + 1)))) d (nN s) (nN n), upV (upV (upV V (29 + 2 * d) 1 (nN s)) (29 + 2 * d) 2 (nN n)) 45 6 0, upR R (29 + 2 * d) 0 none, upB B 65 (itr (fun i s => vp_updL s (100 * d + i) 0) 0 100 (B 65)), ?_, ?_, ?_, Nat.zero_le _, Nat.zero_le _⟩
          · rw [List.append_nil]
            simp only [f_X10_row, ro, Option.bind_some, hc, reduceCtorEq, if_false, if_neg g1, if_neg g2, if_pos c3, if_pos c4, rh ht, c_holdRow ht]
          · have e1 : ∀ (A : Nat → Nat → Int32) (f : Nat → Int32), upA A 60 f 63 = A 63 := fun A f => rfl
            have e2 : ∀ (A : Nat → Nat → Int32) (f g : Nat → Int32), upA (upA A 60 f) 63 g 64 = A 64 := fun A f g => rfl
            rw [List.append_nil]
            simp only [f_X11_row, pm_6, Option.bind_some, m_in7 hd, one_ne, if_false, m_in02, if_pos cs, if_pos c3, if_pos c4, gm_28, wm_60, id8, if_true, cd, gm_31, wm_63, gm_32, wm_64, e1, e2, m_row hd, roA]
          · have r0 : ∀ (A : Nat → Nat → Int32), roA A d (nN s) (nN n) 60 d = 2 ∧ (roA A d (nN s) (nN n) 63 d = nN s ∧ roA A d (nN s) (nN n) 64 d = nN n) := by
              intro A
              refine ⟨?_, ?_, ?_⟩
              · show upd (A 60) d 2 d = 2
                exact upd_eq
              · show upd (A 63) d (nN s) d = nN s
                exact upd_eq
              · show upd (A 64) d (nN n) d = nN n
                exact upd_eq
            have r1 : ∀ (A : Nat → Nat → Int32) (a : Nat), ¬ (60 ≤ a ∧ a ≤ 64) → roA A d (nN s) (nN n) a = A a := by
              intro A a g
              unfold roA
              rw [uA_ne (by omega), uA_ne (by omega), uA_ne (by omega)]
            have r2 : ∀ (A : Nat → Nat → Int32) (a e : Nat), e ≠ d → roA A d (nN s) (nN n) a e = A a e := by
              intro A a e g
              unfold roA
              by_cases q2 : a = 64
              · subst q2
                rw [uA_eq, upd_ne g]
              · rw [uA_ne q2]
                by_cases q1 : a = 63
                · subst q1
                  rw [uA_eq, upd_ne g]
                · rw [uA_ne q1]
                  by_cases q0 : a = 60
                  · subst q0
                    rw [uA_eq, upd_ne g]
                  · rw [uA_ne q0]
            refine Inv.shelf [] h hd ⟨fun a g1 g2 g3 => ?_, fun a k g1 g2 => ?_, fun a k g1 g2 => ?_, fun a e g1 g2 g3 g4 => ?_, fun j hj => ?_⟩ (Or.inr (Or.inr ⟨s, n, hs2, hn2, uR_eq, ?_, ?_, (r0 _).1, (r0 _).2.1, (r0 _).2.2, fun j hj => ?_⟩))
            · rw [r1 _ _ g3, uA_ne (by omega)]
            · rw [uV_ne (fun q => g1 (Or.inr ⟨q.1, by rw [q.2]; decide⟩)), uV_ne (by omega), uV_ne (by omega)]
            · rw [uR_ne (by omega)]
            · rw [r2 _ _ _ g4, uA_ne (by omega)]
            · rw [uB_eq, itr_fillL, if_neg (by omega)]
            · rw [uV_ne (by omega), uV_ne (by omega), uV_eq]
            · rw [uV_ne (by omega), uV_eq]
            · rw [r1 _ _ (by omega), e30, uA_eq, uB_eq, itr_fill, itr_fillL, if_pos (by omega), if_pos (by omega)]
              refine ⟨?_, by decide⟩
              match s, hs2 with
              | 0, _ => exact (by decide : (0 : Int32).toInt8.toInt32 = 0)
              | 1, _ => exact (by decide : (0 : Int32).toInt16.toInt32 = 0)
              | 2, _ => trivial
        · refine ⟨-14, A, V, R, B, [], A, upV V 45 6 0, R, B, ?_, ?_, fin, Nat.zero_le _, Nat.zero_le _⟩
          · rw [List.append_nil]
            simp only [f_X10_row, ro, Option.bind_some, hc, reduceCtorEq, if_false, if_neg g1, if_neg g2, if_pos c3, if_neg c4]
          · simp only [f_X11_row, pm_6, Option.bind_some, m_in7 hd, one_ne, if_false, m_in02, if_pos cs, if_pos c3, if_neg c4]
      · refine ⟨-1, A, V, R, B, [], A, upV V 45 6 0, R, B, ?_, ?_, fin, Nat.zero_le _, Nat.zero_le _⟩
        · rw [List.append_nil]
          simp only [f_X10_row, ro, Option.bind_some, hc, reduceCtorEq, if_false, if_neg g1, if_neg g2, if_neg c3]
        · simp only [f_X11_row, pm_6, Option.bind_some, m_in7 hd, one_ne, if_false, m_in02, if_pos cs, if_neg c3]
    · refine ⟨-1, A, V, R, B, [], A, upV V 45 6 0, R, B, ?_, ?_, fin, Nat.zero_le _, Nat.zero_le _⟩
      · rw [List.append_nil]
        simp only [f_X10_row, ro, Option.bind_some, hc, reduceCtorEq, if_false]
        by_cases q : x2 < 0
        · simp only [if_pos q]
        · have : (2 : Int32) < x2 := not_le' (fun z => cs ⟨not_lt' q, z⟩)
          simp only [if_neg q, if_pos this]
      · simp only [f_X11_row, pm_6, Option.bind_some, m_in7 hd, one_ne, if_false, m_in02, if_neg cs, if_true]
  · refine ⟨-1, A, V, R, B, [], A, upV V 45 6 0, R, B, ?_, ?_, fin, Nat.zero_le _, Nat.zero_le _⟩
    · rw [List.append_nil]
      simp only [f_X10_row, ro, Option.bind_some, hc, if_true]
    · simp only [f_X11_row, pm_6, Option.bind_some, m_in7n hn, if_true]
end OPS8
