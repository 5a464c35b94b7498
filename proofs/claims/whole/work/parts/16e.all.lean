/-! street: all statements, one behind the other -/
section ALS
variable {A V : Nat → Nat → Int32} {R : Nat → Nat → Option Nat} {B : Nat → Nat → Int64} {J : List En}
variable {d n : Nat} {v : Nat → Int32}
theorem c_all {A0 V0 : Nat → Nat → Int32} {R0 : Nat → Nat → Option Nat} (hd : d < 8) (hn : n ≤ 100) (s4 : V0 (29 + 2 * d) 2 = nN n) (hv : ∀ i, i < n → A0 (29 + 2 * d + 1) i = v i) : ∀ (q a k m : Nat) (T : Tn) (A V : Nat → Nat → Int32) (R : Nat → Nat → Option Nat) (J1 : List En), q < m → psK (ct n v) n q a = none → a ≤ n → n ≤ a + 4 * q → 4 * k ≤ a → Wf T → StRep A V R (J ++ J1) 10 T → FrmM A0 V0 R0 A V R → J1.length ≤ k → sl J1 ≤ 2 * k →
    (∃ j A' V' R' J2, apK (ct n v) T (psL (ct n v) n q a) = some j ∧ (f_X10_carryOut_15 0 m (mk A V R B (J ++ J1)) (some (29 + 2 * d)) (nN a) (nN k) = some (-2000 - nN j, mk A' V' R' B (J ++ J2)) ∧ (FrmM A0 V0 R0 A' V' R' ∧ (J2.length ≤ 25 ∧ sl J2 ≤ 50))))
    ∨ (apK (ct n v) T (psL (ct n v) n q a) = none ∧ ∃ A' V' R' J2, f_X10_carryOut_15 0 m (mk A V R B (J ++ J1)) (some (29 + 2 * d)) (nN a) (nN k) = f_X10_carryOut_63 0 (mk A' V' R' B (J ++ J2)) (nN (k + (psL (ct n v) n q a).length)) ∧ (FrmM A0 V0 R0 A' V' R' ∧ (StRep A' V' R' (J ++ J2) 10 (apT (ct n v) T (psL (ct n v) n q a)) ∧ (Wf (apT (ct n v) T (psL (ct n v) n q a)) ∧ (J2.length ≤ 25 ∧ sl J2 ≤ 50))))) := by
  have ht := isSh_d hd
  have fin : ∀ (q a k m : Nat) (T : Tn) (A V : Nat → Nat → Int32) (R : Nat → Nat → Option Nat) (J1 : List En), n ≤ a → a ≤ n → 4 * k ≤ a → Wf T → StRep A V R (J ++ J1) 10 T → FrmM A0 V0 R0 A V R → J1.length ≤ k → sl J1 ≤ 2 * k → apK (ct n v) T (psL (ct n v) n q a) = none ∧ ∃ A' V' R' J2, f_X10_carryOut_15 0 (m + 1) (mk A V R B (J ++ J1)) (some (29 + 2 * d)) (nN a) (nN k) = f_X10_carryOut_63 0 (mk A' V' R' B (J ++ J2)) (nN (k + (psL (ct n v) n q a).length)) ∧ (FrmM A0 V0 R0 A' V' R' ∧ (StRep A' V' R' (J ++ J2) 10 (apT (ct n v) T (psL (ct n v) n q a)) ∧ (Wf (apT (ct n v) T (psL (ct n v) n q a)) ∧ (J2.length ≤ 25 ∧ sl J2 ≤ 50)))) := by
    intro q a k m T A V R J1 h1 h2 h3 w st fr l1 l2
    rw [psL_e h1]
    refine ⟨rfl, A, V, R, J1, ?_, fr, st, w, by omega, by omega⟩
    have e4 : V (29 + 2 * d) 2 = nN n := (fr.2.1 _ _ (by omega)).trans s4
    rw [f_X10_carryOut_15, gh_2 ht, Option.bind_some, e4]
    show _ = f_X10_carryOut_63 0 (mk A V R B (J ++ J1)) (nN k)
    by_cases c : n ≤ k
    · rw [if_pos (le_y c (by omega))]
    · rw [if_neg (le_n (by omega) (by omega)), Option.bind_some, if_pos (le_y h1 (by omega))]
  intro q
  induction q with
  | zero =>
    intro a k m T A V R J1 hm hp h1 h2 h3 w st fr l1 l2
    obtain ⟨m, rfl⟩ : ∃ m', m = m' + 1 := ⟨m - 1, by omega⟩
    exact Or.inr (fin 0 a k m T A V R J1 (by omega) h1 h3 w st fr l1 l2)
  | succ q ih =>
    intro a k m T A V R J1 hm hp h1 h2 h3 w st fr l1 l2
    obtain ⟨m, rfl⟩ : ∃ m', m = m' + 1 := ⟨m - 1, by omega⟩
    by_cases c : n ≤ a
    · exact Or.inr (fin (q + 1) a k m T A V R J1 c h1 h3 w st fr l1 l2)
    · cases hs : stk (ct n v) a with
      | some j =>
        rw [psK_s (by omega) hs] at hp
        cases hp
      | none =>
        rw [psK_n (by omega) hs] at hp
        rw [psL_n (by omega)]
        obtain ⟨d1, d2, -⟩ := stk_none hs
        have e4 : V (29 + 2 * d) 2 = nN n := (fr.2.1 _ _ (by omega)).trans s4
        have ev : ∀ i, i < n → A (29 + 2 * d + 1) i = v i := fun i hi => by
          rw [fr.1 _ (by omega)]
          exact hv i hi
        have st0 : ∀ y : Option (Int32 × Hp), ((f_X10_isCarriedOut (mk A V R B (J ++ J1)) 0 (some (29 + 2 * d)) (nN a)).bind fun q34 => if q34.1 = 0 then some (-2000 - nN a, q34.2) else (rcv q34.2 (some (29 + 2 * d)) 5).bind fun a49 => (f_X5_at q34.2 a49 (nN a)).bind fun v49 => (f_X10_lengthOf q34.2 v49).bind fun v52 => f_X10_carryOut_15 0 m q34.2 (some (29 + 2 * d)) (nN a + v52) (nN k + 1)) = y → f_X10_carryOut_15 0 (m + 1) (mk A V R B (J ++ J1)) (some (29 + 2 * d)) (nN a) (nN k) = y := by
          intro y hy
          rw [f_X10_carryOut_15, gh_2 ht, Option.bind_some, e4, if_neg (le_n (by omega) (by omega)), Option.bind_some, if_neg (le_n (by omega) (by omega)), ro, Option.bind_some]
          exact hy
        rcases c_carried (B := B) hd hn w st e4 ev hs with ⟨g1, g2⟩ | ⟨T', A', V', R', J2, g1, g2, g3, g4, g5, g6⟩
        · refine Or.inl ⟨a, A, V, R, J1, apK_n g1, st0 _ ?_, fr, by omega, by omega⟩
          rw [g2, Option.bind_some, if_pos rfl]
        · obtain ⟨-, b9, -⟩ := stm hs
          have w' := w.ap b9 g1
          have fr' := fr.tr g3
          have e4' : V' (29 + 2 * d) 2 = nN n := (fr'.2.1 _ _ (by omega)).trans s4
          have ev' : ∀ i, i < n → A' (29 + 2 * d + 1) i = v i := fun i hi => by
            rw [fr'.1 _ (by omega)]
            exact hv i hi
          have hn1 : f_X10_carryOut_15 0 (m + 1) (mk A V R B (J ++ J1)) (some (29 + 2 * d)) (nN a) (nN k) = f_X10_carryOut_15 0 m (mk A' V' R' B (J ++ (J1 ++ J2))) (some (29 + 2 * d)) (nN (a + dg (ct n v a) + 2)) (nN (k + 1)) := by
            refine st0 _ ?_
            rw [g2, Option.bind_some]
            dsimp only
            rw [if_neg (by decide), rh ht, Option.bind_some, c_ct ht hn e4' ev' (by omega), Option.bind_some, c_length, Option.bind_some, n_add, n_s, ← Nat.add_assoc, List.append_assoc]
          rw [hn1, apK_s g1, apT_s g1]
          have key := ih (a + dg (ct n v a) + 2) (k + 1) m T' A' V' R' (J1 ++ J2) (by omega) hp (by omega) (by omega) (by omega) w' (by rw [← List.append_assoc]; exact g4) fr' (by rw [List.length_append]; omega) (by rw [sl_app]; omega)
          rw [List.length_cons, show k + ((psL (ct n v) n q (a + dg (ct n v a) + 2)).length + 1) = k + 1 + (psL (ct n v) n q (a + dg (ct n v a) + 2)).length by omega]
          exact key
/-- the kept row tells a town -/
def Kp (A : Nat → Nat → Int32) (T : Tn) : Prop := (A 55 0 = nN (tK T) ∧ (A 55 1 = nN (tF T) ∧ A 55 2 = nN (tE T))) ∧ ((∀ e, e < tE T → A 55 (3 + 2 * e) = nN (tP T e) ∧ A 55 (4 + 2 * e) = nN (tH T e)) ∧ ∀ p, p < 12 → A 55 (63 + p) = nN (tN T p))
theorem m_all {c : Nat → Int32} {T0 : Tn} {N : Nat} {A0 V0 : Nat → Nat → Int32} (w0 : Wf T0) (kp : Kp A0 T0) (hN : V0 45 13 = nN N) (hN51 : N ≤ 51) : ∀ (l : List Nat) (i m : Nat) (T : Tn) (A V : Nat → Nat → Int32), l.length < m → i + l.length = N → Wf T → MoRep A V T → FrmW A0 V0 A V → (∀ j, j < l.length → DR c A0 (i + j) (l.getD j 0)) → (∀ a, a ∈ l → sF c a < 100 ∧ (sS c a ≤ 9 ∧ (c a = 98 ∨ (c a = 102 ∨ c a = 108)))) →
    (∃ j A' V', apK c T l = some j ∧ (f_X11_street_110 45 m (mk A V R B J) (nN i) = some (-2000 - nN j, mk A' V' (upR R 45 23 (some 55)) B J) ∧ ((∀ a, ¬ (46 ≤ a ∧ a ≤ 50) → A' a = A0 a) ∧ ((∀ a k, ¬ (a = 45 ∧ (k < 3 ∨ (k = 21 ∨ k = 22))) → V' a k = V0 a k) ∧ MoRep A' V' T0))))
    ∨ (apK c T l = none ∧ ∃ A' V', f_X11_street_110 45 m (mk A V R B J) (nN i) = some (nN N, mk A' V' R B J) ∧ (FrmW A0 V0 A' V' ∧ MoRep A' V' (apT c T l))) := by
  intro l
  induction l with
  | nil =>
    intro i m T A V hm hi w mo fr hdr hst
    obtain ⟨m, rfl⟩ : ∃ m', m = m' + 1 := ⟨m - 1, by omega⟩
    have e : i = N := hi
    have v13 : V 45 13 = nN N := (fr.2 45 13 (by decide)).trans hN
    refine Or.inr ⟨rfl, A, V, ?_, fr, mo⟩
    rw [f_X11_street_110, gm_13, Option.bind_some, v13, e, if_pos (Int32.le_refl _), Option.bind_some]
  | cons a l ih =>
    intro i m T A V hm hi w mo fr hdr hst
    rw [List.length_cons] at hm hi
    obtain ⟨m, rfl⟩ : ∃ m', m = m' + 1 := ⟨m - 1, by omega⟩
    obtain ⟨r1, r2, r3, r4⟩ := hdr 0 (by rw [List.length_cons]; omega)
    have r1 : A0 51 i = nN a := r1
    have r2 : A0 52 i = c a := r2
    have r3 : A0 53 i = nN (sF c a) := r3
    have r4 : A0 54 i = nN (sS c a) := r4
    obtain ⟨b1, b2, b3⟩ := hst a (List.mem_cons_self ..)
    have v13 : V 45 13 = nN N := (fr.2 45 13 (by decide)).trans hN
    have q51 := fr.1 51 (by decide)
    have st : f_X11_street_110 45 (m + 1) (mk A V R B J) (nN i) = (f_X11_comes (mk A V R B J) 45 (nN i)).bind fun q120 => if q120.1 = 0 then (gR q120.2 (some 45) [11] 18).bind fun v128 => (rcv q120.2 (some 45) 11).bind fun a132 => (f_X11_carryAll q120.2 a132 v128 0).bind fun h132 => (gR h132 (some 45) [11] 14).bind fun v139 => (aI h132 v139 (nN i)).bind fun v143 => some (-2000 - v143, h132) else f_X11_street_110 45 m q120.2 (nN i + 1) := by
      rw [f_X11_street_110, gm_13, Option.bind_some, v13, if_neg (le_n (by omega) (by omega)), rm, Option.bind_some]
    rcases m_comes (R := R) (B := B) (J := J) (i := i) (F := sF c a) (S := sS c a) (x := c a) w mo (by omega) b1 b2 ((congrFun (fr.1 52 (by decide)) i).trans r2) ((congrFun (fr.1 53 (by decide)) i).trans r3) ((congrFun (fr.1 54 (by decide)) i).trans r4) b3 with ⟨g1, g2⟩ | ⟨T', A', V', g1, g2, g3, g4⟩
    · obtain ⟨s, t, u, V', k1, ⟨x0, x1, x2⟩, k2, k3, k4⟩ := m_give (A := A) (V := V) (R := R) (B := B) (J := J) (r := 55) rfl (by decide) (by decide) (by decide)
      have q55 := fr.1 55 (by decide)
      rw [q55] at x0 x1 x2 k3 k4
      have hE30 := w0.2.2.1.1
      refine Or.inl ⟨a, upA (upA (upA A 46 s) 47 t) 48 u, V', apK_n g1, ?_, fun z hz => ?_, fun z k hz => ?_, ⟨x0.trans kp.1.1, x1.trans kp.1.2.1, x2.trans kp.1.2.2⟩, fun e he => ?_, fun p hp => ?_⟩
      · rw [st, g2, Option.bind_some, if_pos rfl]
        dsimp only
        rw [gm_18, Option.bind_some, rm, Option.bind_some, k1, Option.bind_some, gm_14, Option.bind_some, am_51, ib51 (by omega), if_pos rfl, Option.bind_some, cn (by omega), uA_ne (by decide), uA_ne (by decide), uA_ne (by decide), q51, r1]
      · rw [uA_ne (by omega), uA_ne (by omega), uA_ne (by omega)]
        exact fr.1 z hz
      · rw [k2 z k hz]
        exact fr.2 z k (fun q => hz ⟨q.1, Or.inl q.2⟩)
      · rw [uA_ne (by decide), uA_ne (by decide), uA_eq, (k3 e (by omega)).1, uA_ne (by decide), uA_eq, (k3 e (by omega)).2]
        exact kp.2.1 e he
      · rw [uA_eq, k4 p hp]
        exact kp.2.2 p hp
    · have key := ih (i + 1) m T' A' V' (by omega) (by omega) (w.ap b2 g1) g4 (fr.tr g3) (fun j hj => by
        have := hdr (j + 1) (by rw [List.length_cons]; omega)
        rw [show i + (j + 1) = i + 1 + j by omega] at this
        exact this) (fun b hb => hst b (List.mem_cons_of_mem _ hb))
      rw [st, g2, Option.bind_some]
      dsimp only
      rw [if_neg (by decide), apK_s g1, apT_s g1, n_s]
      exact key
end ALS
