/-! street: both carry statements out -/
section CAO
variable {A V : Nat → Nat → Int32} {R : Nat → Nat → Option Nat} {B : Nat → Nat → Int64} {J : List En}
variable {d n : Nat} {v : Nat → Int32}
def apK (c : Nat → Int32) : Tn → List Nat → Option Nat
  | _, [] => none
  | T, a :: l => match apS T (c a) (sF c a) (sS c a) with
    | none => some a
    | some T' => apK c T' l
def apT (c : Nat → Int32) : Tn → List Nat → Tn
  | T, [] => T
  | T, a :: l => match apS T (c a) (sF c a) (sS c a) with
    | none => T
    | some T' => apT c T' l
theorem apK_n {c : Nat → Int32} {T : Tn} {a : Nat} {l : List Nat} (h : apS T (c a) (sF c a) (sS c a) = none) : apK c T (a :: l) = some a := by
  show (match apS T (c a) (sF c a) (sS c a) with | none => some a | some T' => apK c T' l) = some a
  rw [h]
theorem apK_s {c : Nat → Int32} {T T' : Tn} {a : Nat} {l : List Nat} (h : apS T (c a) (sF c a) (sS c a) = some T') : apK c T (a :: l) = apK c T' l := by
  show (match apS T (c a) (sF c a) (sS c a) with | none => some a | some T' => apK c T' l) = _
  rw [h]
theorem apT_s {c : Nat → Int32} {T T' : Tn} {a : Nat} {l : List Nat} (h : apS T (c a) (sF c a) (sS c a) = some T') : apT c T (a :: l) = apT c T' l := by
  show (match apS T (c a) (sF c a) (sS c a) with | none => T | some T' => apT c T' l) = _
  rw [h]
theorem psL_ok {c : Nat → Int32} : ∀ (q a : Nat), psK c n q a = none → n ≤ a + 4 * q → (∀ b, stk c b = none → 2 ≤ dg (c b)) → ∀ b, b ∈ psL c n q a → stk c b = none ∧ b < n
  | 0, a, _, _, _, b, hb => by cases hb
  | q + 1, a, h, h2, hd, b, hb => by
    by_cases z : n ≤ a
    · rw [psL_e z] at hb
      cases hb
    · rw [psL_n (by omega)] at hb
      cases hs : stk c a with
      | some j =>
        rw [psK_s (by omega) hs] at h
        cases h
      | none =>
        rw [psK_n (by omega) hs] at h
        have := hd a hs
        rcases List.mem_cons.mp hb with rfl | hb
        · exact ⟨hs, by omega⟩
        · exact psL_ok q _ h (by omega) hd b hb
/-- what a good statement says -/
theorem stm {a : Nat} (h : stk (ct n v) a = none) : sF (ct n v) a < 100 ∧ (sS (ct n v) a ≤ 9 ∧ ((ct n v a = 98 ∨ (ct n v a = 102 ∨ ct n v a = 108)) ∧ ((ct n v (a + 1) - 48 = nN (dv (ct n v (a + 1))) ∧ dv (ct n v (a + 1)) ≤ 9) ∧ ((ct n v (a + 2) - 48 = nN (dv (ct n v (a + 2))) ∧ dv (ct n v (a + 2)) ≤ 9) ∧ (ct n v a = 98 → ct n v (a + 3) - 48 = nN (dv (ct n v (a + 3))) ∧ dv (ct n v (a + 3)) ≤ 9))))) := by
  obtain ⟨h1, h2, h3⟩ := stk_none h
  have d1 := dv_e (h3 0 (by omega))
  have d2 := dv_e (h3 1 (by omega))
  have d1 : ct n v (a + 1) - 48 = nN (dv (ct n v (a + 1))) ∧ dv (ct n v (a + 1)) ≤ 9 := d1
  have d2 : ct n v (a + 2) - 48 = nN (dv (ct n v (a + 2))) ∧ dv (ct n v (a + 2)) ≤ 9 := d2
  have d3 : ct n v a = 98 → ct n v (a + 3) - 48 = nN (dv (ct n v (a + 3))) ∧ dv (ct n v (a + 3)) ≤ 9 := fun z => by
    have hd : dg (ct n v a) = 3 := by rw [z]; rfl
    exact dv_e (h3 2 (by omega))
  have hl : ct n v a = 98 ∨ (ct n v a = 102 ∨ ct n v a = 108) := by
    rcases dg_let (show dg (ct n v a) ≠ 0 by omega) with ⟨z, -⟩ | ⟨z, -⟩ | ⟨z, -⟩
    · exact Or.inl z
    · exact Or.inr (Or.inl z)
    · exact Or.inr (Or.inr z)
  refine ⟨?_, ?_, hl, d1, d2, d3⟩
  · unfold sF
    split <;> omega
  · unfold sS
    split
    · rename_i z
      exact (d3 z).2
    · split
      · exact Nat.zero_le _
      · exact d2.2
theorem high_p {x : Nat} (h1 : 1 ≤ x) (h9 : x ≤ 9) : ∀ h, f_X10_isHeight h (nN x) = some 1 := by
  rcases c_high (nN x) with ⟨m, -, -, -, k1, -⟩ | ⟨-, k2⟩
  · exact k1
  · have := m_in (h := ([] : Hp)) (x := nN x) (a := 1) (b := 9)
    rw [if_pos ⟨(Int32.ofNat_le_ofNat (n := x) (k := 1) (by decide) (by omega)).mpr h1, (Int32.ofNat_le_ofNat (n := 9) (k := x) (by omega) (by decide)).mpr h9⟩] at this
    have e := (k2 []).symm.trans this
    exact absurd (Option.some.inj e) (by decide)
theorem c_raiseN {t F S : Nat} {T : Tn} (ht : isSt t) (w : Wf T) (st : StRep A V R J t T) (hF : F < 1000) (hS : S ≤ 9) (h : ¬ (F < 12 ∧ (1 ≤ S ∧ (tE T < 30 ∧ tN T F = 0)))) : ∃ r : Int32, r ≤ 0 ∧ f_X8_raise (mk A V R B J) t (nN F) (nN S) = some (r, mk A V R B J) := by
  have hE := w.2.2.1.1
  rcases c_plot (nN F) with ⟨p, hp, e, g1, -⟩ | ⟨g1, -, -⟩
  · rw [n_eq (by omega) (by omega)] at e
    subst e
    by_cases c2 : 1 ≤ S
    · have hx := high_p c2 hS
      by_cases c3 : tN T F = 0
      · exact ⟨-2, by decide, c_raise_2 ht st hp hx c3 (by omega)⟩
      · exact ⟨-3, by decide, c_raise_3 ht w st hp hx c3⟩
    · refine ⟨-1, by decide, ?_⟩
      rcases c_high (nN S) with ⟨m, m1, m2, e, -⟩ | ⟨k1, -⟩
      · rw [n_eq (by omega) (by omega)] at e
        omega
      · unfold f_X8_raise
        rw [g1, Option.bind_some, if_neg (by decide), k1, Option.bind_some, if_pos rfl]
  · refine ⟨-1, by decide, ?_⟩
    unfold f_X8_raise
    rw [g1, Option.bind_some, if_pos rfl]
theorem c_razeN {t F : Nat} {T : Tn} (ht : isSt t) (w : Wf T) (st : StRep A V R J t T) (hF : F < 1000) (h : ¬ (F < 12 ∧ (tE T < 30 ∧ tN T F ≠ 0))) : ∃ r : Int32, r ≤ 0 ∧ f_X8_raze (mk A V R B J) t (nN F) = some (r, mk A V R B J) := by
  have hE := w.2.2.1.1
  rcases c_plot (nN F) with ⟨p, hp, e, g1, -⟩ | ⟨g1, -, -⟩
  · rw [n_eq (by omega) (by omega)] at e
    subst e
    unfold f_X8_raze
    rw [g1, Option.bind_some, if_neg (by decide), rs ht, Option.bind_some, c_hasHouse ht hp g1, Option.bind_some, st.2.2.2.1 F hp]
    by_cases c3 : tN T F = 0
    · refine ⟨-3, by decide, ?_⟩
      rw [c3, if_pos (show nN 0 = 0 from rfl), if_pos rfl]
    · refine ⟨-2, by decide, ?_⟩
      have e30 : tE T = 30 := by
        by_cases z : tE T < 30
        · exact absurd ⟨hp, z, c3⟩ h
        · omega
      rw [if_neg (n_ne0 c3 (by have := w.num F hp; omega)), if_neg (by decide), gs_7 ht, Option.bind_some, st.1.1, e30, if_neg (by decide)]
  · refine ⟨-1, by decide, ?_⟩
    unfold f_X8_raze
    rw [g1, Option.bind_some, if_pos rfl]
theorem c_carried {a : Nat} {T : Tn} (hd : d < 8) (hn : n ≤ 100) (w : Wf T) (st : StRep A V R J 10 T) (s4 : V (29 + 2 * d) 2 = nN n) (hv : ∀ i, i < n → A (29 + 2 * d + 1) i = v i) (hs : stk (ct n v) a = none) : (apS T (ct n v a) (sF (ct n v) a) (sS (ct n v) a) = none ∧ f_X10_isCarriedOut (mk A V R B J) 0 (some (29 + 2 * d)) (nN a) = some (0, mk A V R B J)) ∨ ∃ T' A' V' R' J1, apS T (ct n v a) (sF (ct n v) a) (sS (ct n v) a) = some T' ∧ (f_X10_isCarriedOut (mk A V R B J) 0 (some (29 + 2 * d)) (nN a) = some (1, mk A' V' R' B (J ++ J1)) ∧ (FrmM A V R A' V' R' ∧ (StRep A' V' R' (J ++ J1) 10 T' ∧ (J1.length ≤ 1 ∧ sl J1 ≤ 2)))) := by
  have ht := isSh_d hd
  obtain ⟨f1, f2, hl, ⟨e1, b1⟩, ⟨e2, b2⟩, e3⟩ := stm hs
  obtain ⟨g1, g2, g3⟩ := stk_none hs
  have hE := w.2.2.1.1
  have at' : ∀ i, i < 100000 → f_X5_at (mk A V R B J) (29 + 2 * d) (nN i) = some (ct n v i) := fun i hi => c_ct ht hn s4 hv hi
  have pre : ∀ y : Option (Int32 × Hp), (if ct n v a = 98 then (gR (mk A V R B J) (some 0) [10] 1).bind fun v57 => (some (29 + 2 * d)).bind fun a71 => (f_X5_at (mk A V R B J) a71 (nN (a + 3))).bind fun v71 => (rcv (mk A V R B J) v57 8).bind fun a77 => (f_X8_raise (mk A V R B J) a77 (nN (dv (ct n v (a + 1)) * 10 + dv (ct n v (a + 2)))) (v71 - 48)).bind fun q77 => if q77.1 ≤ 0 then (okZ 0).bind fun z88 => some (z88, q77.2) else (okZ 1).bind fun z88 => some (z88, q77.2) else if ct n v a = 102 then (gR (mk A V R B J) (some 0) [10] 1).bind fun v90 => (rcv (mk A V R B J) v90 8).bind fun a100 => (f_X8_raze (mk A V R B J) a100 (nN (dv (ct n v (a + 1)) * 10 + dv (ct n v (a + 2))))).bind fun q100 => if q100.1 ≤ 0 then (okZ 0).bind fun z111 => some (z111, q100.2) else (okZ 1).bind fun z111 => some (z111, q100.2) else (f_X10_lawOf (mk A V R B J) (nN (dv (ct n v (a + 1)))) (nN (dv (ct n v (a + 2))))).bind fun q115 => if q115.1 = none then (okZ 0).bind fun z126 => some (z126, q115.2) else (gR q115.2 (some 0) [10] 1).bind fun v128 => (pF q115.2 v128 [8] 9 (vR q115.1)).bind fun h133 => (okZ 1).bind fun z137 => some (z137, h133)) = y → f_X10_isCarriedOut (mk A V R B J) 0 (some (29 + 2 * d)) (nN a) = y := by
    intro y hy
    unfold f_X10_isCarriedOut
    rw [rh ht, Option.bind_some, n_s, at' _ (by omega), Option.bind_some, Option.bind_some, show nN a + 2 = nN (a + 2) from n_add a 2, at' _ (by omega), Option.bind_some, Option.bind_some, at' _ (by omega), Option.bind_some, e1, e2, show (10 : Int32) = nN 10 from rfl, n_mul, n_add, show nN a + 3 = nN (a + 3) from n_add a 3]
    exact hy
  unfold apS
  have em : dv (ct n v (a + 1)) * 10 + dv (ct n v (a + 2)) = 10 * dv (ct n v (a + 1)) + dv (ct n v (a + 2)) := by omega
  rcases hl with hx | hx | hx
  · have n108 : ¬ ct n v a = 108 := by rw [hx]; decide
    have eF : sF (ct n v) a = dv (ct n v (a + 1)) * 10 + dv (ct n v (a + 2)) := by
      unfold sF
      rw [if_neg n108, em]
    have eS : sS (ct n v) a = dv (ct n v (a + 3)) := by
      unfold sS
      rw [if_pos hx]
    rw [if_pos hx, eF, eS]
    rw [eF] at f1
    rw [eS] at f2
    by_cases c : dv (ct n v (a + 1)) * 10 + dv (ct n v (a + 2)) < 12 ∧ (1 ≤ dv (ct n v (a + 3)) ∧ (tE T < 30 ∧ tN T (dv (ct n v (a + 1)) * 10 + dv (ct n v (a + 2))) = 0))
    · rw [if_pos c]
      have er := c_raise (B := B) isM w st c.1 c.2.1 f2 c.2.2.2 c.2.2.1
      have sr := StRep.rs w st c.1 c.2.1 f2 c.2.2.2 c.2.2.1
      have nb := numT_b w c.1 f2 c.2.2.1
      refine Or.inr ⟨_, _, _, R, [], rfl, pre _ ?_, rs_frmM, by rw [List.append_nil]; exact sr, Nat.zero_le _, Nat.zero_le _⟩
      rw [if_pos hx, go_1, Option.bind_some, Option.bind_some, at' _ (by omega), Option.bind_some, (e3 hx).1, rs isM, Option.bind_some, er, Option.bind_some, if_neg (le0_n (by omega) (by omega)), okZ1, Option.bind_some, List.append_nil]
    · rw [if_neg c]
      obtain ⟨r, r1, r2⟩ := c_raiseN (B := B) isM w st (by omega) f2 c
      refine Or.inl ⟨rfl, pre _ ?_⟩
      rw [if_pos hx, go_1, Option.bind_some, Option.bind_some, at' _ (by omega), Option.bind_some, (e3 hx).1, rs isM, Option.bind_some, r2, Option.bind_some, if_pos r1, okZ0, Option.bind_some]
  · have n98 : ¬ ct n v a = 98 := by rw [hx]; decide
    have n108 : ¬ ct n v a = 108 := by rw [hx]; decide
    have eF : sF (ct n v) a = dv (ct n v (a + 1)) * 10 + dv (ct n v (a + 2)) := by
      unfold sF
      rw [if_neg n108, em]
    rw [if_neg n98, if_pos hx, eF]
    rw [eF] at f1
    by_cases c : dv (ct n v (a + 1)) * 10 + dv (ct n v (a + 2)) < 12 ∧ (tE T < 30 ∧ tN T (dv (ct n v (a + 1)) * 10 + dv (ct n v (a + 2))) ≠ 0)
    · rw [if_pos c]
      have er := c_raze (B := B) isM w st c.1 c.2.2 c.2.1
      have sr := StRep.rz w st c.1 c.2.1
      have nb := w.num _ c.1
      refine Or.inr ⟨_, _, _, R, [], rfl, pre _ ?_, rz_frmM, by rw [List.append_nil]; exact sr, Nat.zero_le _, Nat.zero_le _⟩
      rw [if_neg n98, if_pos hx, go_1, Option.bind_some, rs isM, Option.bind_some, er, Option.bind_some, if_neg (le0_n c.2.2 (by omega)), okZ1, Option.bind_some, List.append_nil]
    · rw [if_neg c]
      obtain ⟨r, r1, r2⟩ := c_razeN (B := B) isM w st (by omega) c
      refine Or.inl ⟨rfl, pre _ ?_⟩
      rw [if_neg n98, if_pos hx, go_1, Option.bind_some, rs isM, Option.bind_some, r2, Option.bind_some, if_pos r1, okZ0, Option.bind_some]
  · have n98 : ¬ ct n v a = 98 := by rw [hx]; decide
    have n102 : ¬ ct n v a = 102 := by rw [hx]; decide
    have eF : sF (ct n v) a = dv (ct n v (a + 1)) := by
      unfold sF
      rw [if_pos hx]
    have eS : sS (ct n v) a = dv (ct n v (a + 2)) := by
      unfold sS
      rw [if_neg n98, if_neg n102]
    rw [if_neg n98, if_neg n102, eF, eS]
    rcases c_lawOf (nN (dv (ct n v (a + 1)))) (nN (dv (ct n v (a + 2)))) with ⟨k, f, hk, hf, q1, q2, hl⟩ | ⟨hl, hno⟩
    · rw [n_eq (by omega) (by omega)] at q1 q2
      subst q1
      subst q2
      rw [if_pos (by omega)]
      obtain ⟨⟨s1, s2⟩, s3, s4', s5, s6, s7⟩ := st
      refine Or.inr ⟨_, A, V, upR R 10 9 (some (68 + J.length)), [eO (lcl (dv (ct n v (a + 1)))) [vI (nN (dv (ct n v (a + 1)))), vI (nN (dv (ct n v (a + 2))))]], rfl, pre _ ?_, ⟨fun _ _ => rfl, fun _ _ _ => rfl, fun a k h => if_neg (fun q => h q.1)⟩, ⟨⟨s1, s2⟩, s3, s4', s5, s6, ?_⟩, Nat.le_refl _, Nat.le_refl _⟩
      · rw [if_neg n98, if_neg n102, hl, Option.bind_some]
        dsimp only
        rw [if_neg (by simp), go_1, Option.bind_some, ps_9 isM, Option.bind_some, okZ1, Option.bind_some]
      · show LawAt _ (upR R 10 9 (some (68 + J.length)) 10 9) _ _
        rw [show upR R 10 9 (some (68 + J.length)) 10 9 = some (68 + J.length) from if_pos ⟨rfl, rfl⟩]
        refine ⟨hk, hf, Or.inr ⟨J.length, rfl, ?_⟩⟩
        show (J ++ [eO (lcl (dv (ct n v (a + 1)))) [vI (nN (dv (ct n v (a + 1)))), vI (nN (dv (ct n v (a + 2))))]])[J.length]? = some (eO (lcl (dv (ct n v (a + 1)))) [vI (nN (dv (ct n v (a + 1)))), vI (nN (dv (ct n v (a + 2))))])
        simp
    · have c8 : ¬ dv (ct n v (a + 1)) < 8 := fun z => hno ⟨⟨le_y (Nat.zero_le _) (by omega), le_y (show dv (ct n v (a + 1)) ≤ 7 by omega) (by decide)⟩, le_y (Nat.zero_le _) (by omega), le_y b2 (by decide)⟩
      rw [if_neg c8]
      refine Or.inl ⟨rfl, pre _ ?_⟩
      rw [if_neg n98, if_neg n102, hl, Option.bind_some, if_pos rfl, okZ0, Option.bind_some]
end CAO
