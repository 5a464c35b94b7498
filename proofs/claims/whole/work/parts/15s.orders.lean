/-! orders: the class -/
section ORC
variable {A V : Nat → Nat → Int32} {R : Nat → Nat → Option Nat} {B : Nat → Nat → Int64} {J : List En}
theorem c_takeBack {t p x : Nat} {M : Tn} (ht : isSt t) (w : Wf M) (st : StRep A V R J t (rsT M p x)) (hp : p < 12) (h1 : 1 ≤ x) (h9 : x ≤ 9) (h0 : tN M p = 0) (hE : tE M < 30) : ∃ A' V', f_X8_takeBack (mk A V R B J) t (nN p) = some (mk A' V' R B J) ∧ ((∀ a, ¬ (t + 1 ≤ a ∧ a ≤ t + 6) → A' a = A a) ∧ ((∀ a k, a ≠ t → V' a k = V a k) ∧ StRep A' V' R J t M)) := by
  have hpl := (plot_p hp).1
  have q3 : p / 4 < 3 := by omega
  have cq' : (nN (p / 4)).toNatClampNeg = p / 4 := cn (by omega)
  have hb := numT_b w hp h9 hE
  obtain ⟨⟨s1, s2⟩, s3, s4, s5, s6, s7⟩ := st
  have n1 : A (t + 1) p = nN (numT M p x) := (s5 p hp).trans (congrArg nN (upN_eq : upN (tN M) p (numT M p x) p = _))
  have s1 : V t 7 = nN (tE M + 1) := s1
  have s2 : V t 8 = nN (bui (tP M) (tH M) (tE M) + 1) := by
    refine s2.trans (congrArg nN ?_)
    show bui (tP (evT M p x (numT M p x))) (tH (evT M p x (numT M p x))) (tE M + 1) = _
    rw [bui_ev hp, if_pos (by omega)]
  have s3' : ∀ q, q < 3 → A (t + 4) q = nN (cnt (tP M) (tH M) q (tE M) + if x ≠ 0 ∧ p / 4 = q then 1 else 0) := fun q hq => by
    refine (s3 q hq).trans (congrArg nN ?_)
    show cnt (tP (evT M p x (numT M p x))) (tH (evT M p x (numT M p x))) q (tE M + 1) = _
    rw [cnt_ev]
  refine ⟨upA (upA A (t + 1) (upd (A (t + 1)) p 0)) (t + 4) (upd (A (t + 4)) (p / 4) (A (t + 4) (p / 4) - 1)), upV (upV V t 8 (nN (bui (tP M) (tH M) (tE M)))) t 7 (nN (tE M)), ?_, fun a ha => ?_, fun a k hk => ?_, ⟨uV_eq, ?_⟩, fun q hq => ?_, fun e he => ?_, fun q hq => ?_, fun q hq hn => ?_, s7⟩
  · unfold f_X8_takeBack
    rw [hpl, Option.bind_some, if_neg (by decide), rs ht, Option.bind_some, c_hasHouse ht hp hpl, Option.bind_some, n1, if_neg (n_ne0 (by omega) (by omega)), if_neg (by decide), gs_0 ht, Option.bind_some, ws_0 ht, ib12 hp, if_pos rfl, Option.bind_some, c12 hp, gs_3 ht, Option.bind_some, dv4 p hp, Option.bind_some, as_3 ht, ib3 q3, if_pos rfl, Option.bind_some, cq', ws_3 ht, ib3 q3, if_pos rfl, Option.bind_some, cq', gs_8 ht, Option.bind_some, s2, ps_8 ht, Option.bind_some, gs_7 ht, Option.bind_some, uV_ne (show ¬ (t = t ∧ 7 = 8) by omega), s1, ps_7 ht, Option.bind_some, n_pred (by omega), n_pred (by omega), Nat.add_sub_cancel, Nat.add_sub_cancel, uA_ne (show t + 4 ≠ t + 1 by omega)]
  · rw [uA_ne (by omega), uA_ne (by omega)]
  · rw [uV_ne (fun q => hk q.1), uV_ne (fun q => hk q.1)]
  · exact (uV_ne (by omega)).trans uV_eq
  · rw [uA_eq]
    by_cases c : q = p / 4
    · subst c
      rw [upd_eq, s3' _ hq, if_pos ⟨by omega, rfl⟩, n_pred (by omega), Nat.add_sub_cancel]
    · rw [upd_ne c, s3' q hq, if_neg (fun z => c z.2.symm), Nat.add_zero]
  · have g := s4 e (by show e < tE M + 1; omega)
    obtain ⟨o1, o2⟩ := ev_old (T := M) (p := p) (x := x) (n := numT M p x) e he
    have g1 : A (t + 5) e = nN (tP (evT M p x (numT M p x)) e) := g.1
    have g2 : A (t + 6) e = nN (tH (evT M p x (numT M p x)) e) := g.2
    rw [o1] at g1
    rw [o2] at g2
    rw [uA_ne (by omega), uA_ne (by omega), uA_ne (by omega), uA_ne (by omega)]
    exact ⟨g1, g2⟩
  · rw [uA_ne (by omega), uA_eq]
    by_cases c : q = p
    · rw [c, upd_eq, h0]
      rfl
    · rw [upd_ne c]
      exact (s5 q hq).trans (congrArg nN (upN_ne c : upN (tN M) p (numT M p x) q = _))
  · have c : q ≠ p := fun z => hn (by rw [z]; exact h0)
    have hn' : upN (tN M) p (numT M p x) q ≠ 0 := by rw [upN_ne c]; exact hn
    have g := s6 q hq hn'
    have l1 : lst (tP (evT M p x (numT M p x))) q (tE M + 1) = lst (tP M) q (tE M) := by rw [lst_ev, if_neg (fun z => c z.symm)]
    have ho := (w.2.2.2 q hq).1.mp hn
    have l2 : tH (evT M p x (numT M p x)) (lst (tP M) q (tE M)) = tH M (lst (tP M) q (tE M)) := (ev_old _ (lst_lt (H := tH M) _ ho)).2
    have g1 : A (t + 2) q = nN (tH (evT M p x (numT M p x)) (lst (tP (evT M p x (numT M p x))) q (tE M + 1))) := g.1
    have g2 : A (t + 3) q = nN (lst (tP (evT M p x (numT M p x))) q (tE M + 1)) := g.2
    rw [l1, l2] at g1
    rw [l1] at g2
    rw [uA_ne (by omega), uA_ne (by omega), uA_ne (by omega), uA_ne (by omega)]
    exact ⟨g1, g2⟩
/-- the height of the house on a plot -/
def hT (T : Tn) (p : Nat) : Nat := tH T (lst (tP T) p (tE T))
theorem lst_H {P H : Nat → Nat} {p : Nat} : ∀ E, occ P H p E = true → H (lst P p E) ≠ 0
  | 0, h => by cases h
  | E + 1, h => by
    show H (if P E = p then E else lst P p E) ≠ 0
    have h' : (if P E = p then decide (H E ≠ 0) else occ P H p E) = true := h
    by_cases c : P E = p
    · rw [if_pos c] at h' ⊢
      exact of_decide_eq_true h'
    · rw [if_neg c] at h' ⊢
      exact lst_H E h'
theorem Wf.hgt {T : Tn} (w : Wf T) {p : Nat} (hp : p < 12) (h : tN T p ≠ 0) : 1 ≤ hT T p ∧ hT T p ≤ 9 := by
  have ho := (w.2.2.2 p hp).1.mp h
  have h1 := lst_H _ ho
  have h2 := (w.2.2.1.2 _ (lst_lt (H := tH T) _ ho)).2.1
  unfold hT
  omega
/-- whether the house of a plot can be built next -/
def oK (T M : Tn) (p : Nat) : Bool := decide (tN T p ≠ 0) && (decide (tN M p = 0) && decide (numT M p (hT T p) = tN T p))
theorem oK_t {T M : Tn} {p : Nat} : oK T M p = true ↔ tN T p ≠ 0 ∧ (tN M p = 0 ∧ numT M p (hT T p) = tN T p) := by
  unfold oK
  rw [Bool.and_eq_true, Bool.and_eq_true, decide_eq_true_eq, decide_eq_true_eq, decide_eq_true_eq]
theorem c_canRaise {p : Nat} {T M : Tn} (wT : Wf T) (wM : Wf M) (sT : StRep A V R J 1 T) (sM : StRep A V R J 10 M) (hp : p < 12) : f_X8_canRaiseAs (mk A V R B J) 10 (some 1) (nN p) = some (if oK T M p = true then 1 else 0) := by
  have hpl := (plot_p hp).1
  have bT := wT.num p hp
  have bM := wM.num p hp
  unfold f_X8_canRaiseAs f_X8_canRaiseAs_42
  rw [rs isT, Option.bind_some, c_hasHouse isT hp hpl, Option.bind_some, sT.2.2.2.1 p hp]
  by_cases c1 : tN T p = 0
  · rw [c1, if_pos (show nN 0 = 0 from rfl), if_pos rfl, if_neg (fun z => (oK_t.mp z).1 c1)]
    rfl
  · rw [if_neg (n_ne0 c1 (by omega)), if_neg (by decide), rs isM, Option.bind_some, c_hasHouse isM hp hpl, Option.bind_some, sM.2.2.2.1 p hp]
    by_cases c2 : tN M p = 0
    · have hh : A (1 + 2) p = nN (hT T p) := (sT.2.2.2.2.1 p hp c1).1
      rw [c2, if_pos (show nN 0 = 0 from rfl), if_pos rfl, gs_9 isM, Option.bind_some, Option.bind_some, c_heightAt isT hp hpl, Option.bind_some, hh, c_numT isM hp wM sM, Option.bind_some, Option.bind_some, c_numberAt isT hp hpl, Option.bind_some, sT.2.2.2.1 p hp]
      by_cases c3 : numT M p (hT T p) = tN T p
      · rw [if_pos (congrArg nN c3), if_pos (oK_t.mpr ⟨c1, c2, c3⟩)]
        rfl
      · have hlt : numT M p (hT T p) < 2147483648 := by
          by_cases hE : tE M < 30
          · have := numT_b wM hp (wT.hgt hp c1).2 hE
            omega
          · have hx := (wT.hgt hp c1).2
            have h30 := wM.2.2.1.1
            have hb := bui_le (P := tP M) (H := tH M) (tE M)
            have hq := cnt_bui (P := tP M) (H := tH M) (E := tE M) (show p / 4 < 3 by omega)
            have hg := gp_le (tN M)
            have hG : gN (tN M) 12 < 1000 := gN_lt _ _ (by decide) 12 (fun q hq => wM.num q hq)
            have hs := skS_le (n := bui (tP M) (tH M) (tE M) + 1) (f := tF M)
            have hm : tF M * hT T p ≤ 9 * 9 := Nat.mul_le_mul wM.2.1 hx
            unfold numT numS
            split
            · omega
            · omega
            · omega
            · omega
            · omega
            · omega
            · split <;> omega
            · split <;> omega
        rw [if_neg (eq_n' c3 hlt (by omega)), if_neg (fun z => c3 (oK_t.mp z).2.2)]
        rfl
    · rw [if_neg (n_ne0 c2 (by omega)), if_neg (by decide), if_neg (fun z => c2 (oK_t.mp z).2.1)]
      rfl
def sumP (F : Nat → Nat) : Nat → Nat
  | 0 => 0
  | p + 1 => sumP F p + F p
/-- in how many orders the rest can be built -/
def cnO (T : Tn) : Nat → Tn → Nat
  | 0, _ => 1
  | l + 1, M => sumP (fun p => if oK T M p = true then cnO T l (rsT M p (hT T p)) else 0) 12
theorem c_orders {T : Tn} (wT : Wf T) : ∀ (l d : Nat) (M : Tn) (A V : Nat → Nat → Int32), l < d → Wf M → tE M + l ≤ 8 → StRep A V R J 10 M → StRep A V R J 1 T → ∃ A' V', f_X10_ordersFrom d (mk A V R B J) (some 10) (some 1) (nN l) = some (nN (cnO T l M), mk A' V' R B J) ∧ (FrmM A V R A' V' R ∧ StRep A' V' R J 10 M) := by
  intro l
  induction l with
  | zero =>
    intro d M A V hd wM hl sM sT
    obtain ⟨d, rfl⟩ : ∃ d', d = d' + 1 := ⟨d - 1, by omega⟩
    refine ⟨A, V, ?_, ⟨fun _ _ => rfl, fun _ _ _ => rfl, fun _ _ _ => rfl⟩, sM⟩
    show g_X10_ordersFrom (f_X10_ordersFrom d) _ _ _ _ = _
    unfold g_X10_ordersFrom
    rw [if_neg (by decide)]
    rfl
  | succ l ih =>
    intro d M A V hd wM hl sM sT
    obtain ⟨d, rfl⟩ : ∃ d', d = d' + 1 := ⟨d - 1, by omega⟩
    have hE : tE M < 30 := by omega
    have key : ∃ y, f_X10_ordersFrom_11 (f_X10_ordersFrom d) 10000 (mk A V R B J) (some 10) (some 1) (nN (l + 1)) 0 (nN 0) = some y ∧ ∃ A' V', y = (nN (cnO T (l + 1) M), mk A' V' R B J) ∧ (FrmM A V R A' V' R ∧ StRep A' V' R J 10 M) := by
      refine lpF (fun n (s : Int32 × ((Nat → Nat → Int32) × (Nat → Nat → Int32))) i => f_X10_ordersFrom_11 (f_X10_ordersFrom d) n (mk s.2.1 s.2.2 R B J) (some 10) (some 1) (nN (l + 1)) s.1 i) (fun i s => s.1 = nN (sumP (fun p => if oK T M p = true then cnO T l (rsT M p (hT T p)) else 0) i) ∧ (FrmM A V R s.2.1 s.2.2 R ∧ StRep s.2.1 s.2.2 R J 10 M)) (fun y => ∃ A' V', y = (nN (cnO T (l + 1) M), mk A' V' R B J) ∧ (FrmM A V R A' V' R ∧ StRep A' V' R J 10 M)) 12 (i := 0) (s := (0, A, V)) (by omega) (by omega) ⟨rfl, ⟨fun _ _ => rfl, fun _ _ _ => rfl, fun _ _ _ => rfl⟩, sM⟩ ?_ ?_
      · rintro n i ⟨s, A2, V2⟩ hi ⟨h1, h2, h3⟩
        have h1 : s = nN (sumP (fun p => if oK T M p = true then cnO T l (rsT M p (hT T p)) else 0) i) := h1
        have h2 : FrmM A V R A2 V2 R := h2
        have h3 : StRep A2 V2 R J 10 M := h3
        have g12 : ¬ (12 : Int32) ≤ nN i := fun q => by rw [ge12 hi] at q; exact q
        have sT2 : StRep A2 V2 R (J ++ []) 1 T := sT.mind (Or.inl rfl) h2
        rw [List.append_nil] at sT2
        have hS : sumP (fun p => if oK T M p = true then cnO T l (rsT M p (hT T p)) else 0) (i + 1) = sumP (fun p => if oK T M p = true then cnO T l (rsT M p (hT T p)) else 0) i + (if oK T M i = true then cnO T l (rsT M i (hT T i)) else 0) := rfl
        refine Or.inr ?_
        show ∃ s', f_X10_ordersFrom_11 (f_X10_ordersFrom d) (n + 1) (mk A2 V2 R B J) (some 10) (some 1) (nN (l + 1)) s (nN i) = _ ∧ _
        rw [f_X10_ordersFrom_11, if_neg g12, rs isM, Option.bind_some, c_canRaise wT wM sT2 h3 hi, Option.bind_some, hS]
        unfold f_X10_ordersFrom_58
        by_cases c : oK T M i = true
        · obtain ⟨k1, k2, k3⟩ := oK_t.mp c
          obtain ⟨x1, x9⟩ := wT.hgt hi k1
          have hh : A2 (1 + 2) i = nN (hT T i) := (sT2.2.2.2.2.1 i hi k1).1
          have er := c_raise (B := B) isM wM h3 hi x1 x9 k2 hE
          have sr := StRep.rs wM h3 hi x1 x9 k2 hE
          have wr := wM.rs hi x1 x9 hE k2
          have fr := rs_frmM (A := A2) (V := V2) (R := R) (p := i) (E := tE M) (b := bui (tP M) (tH M) (tE M)) (n := nN (numT M i (hT T i))) (x := nN (hT T i)) (e := nN (tE M))
          have sT3 := sT2.mind (J' := []) (Or.inl rfl) fr
          rw [List.append_nil] at sT3
          obtain ⟨A4, V4, e4, f4, s4⟩ := ih d (rsT M i (hT T i)) _ _ (by omega) wr (by show tE M + 1 + l ≤ 8; omega) sr sT3
          obtain ⟨A5, V5, e5, f5, v5, s5⟩ := c_takeBack (B := B) isM wM s4 hi x1 x9 k2 hE
          have fb : FrmM A4 V4 R A5 V5 R := ⟨fun a ha => f5 a (by omega), v5, fun _ _ _ => rfl⟩
          have el : nN (l + 1) - 1 = nN l := by rw [n_pred (by omega), Nat.add_sub_cancel]
          rw [if_pos c, if_neg (by decide), rs isT, Option.bind_some, c_heightAt isT hi (plot_p hi).1, Option.bind_some, hh, Option.bind_some, er, Option.bind_some, el]
          dsimp only
          rw [e4, Option.bind_some]
          dsimp only
          rw [rs isM, Option.bind_some, e5, Option.bind_some, h1, n_add, if_pos c]
          exact ⟨(_, A5, V5), rfl, rfl, ((h2.tr fr).tr f4).tr fb, s5⟩
        · rw [if_neg c, if_pos rfl, if_neg c]
          exact ⟨(s, A2, V2), rfl, h1, h2, h3⟩
      · rintro n ⟨s, A2, V2⟩ ⟨h1, h2, h3⟩
        have h1 : s = nN (sumP (fun p => if oK T M p = true then cnO T l (rsT M p (hT T p)) else 0) 12) := h1
        show ∃ y, f_X10_ordersFrom_11 (f_X10_ordersFrom d) (n + 1) (mk A2 V2 R B J) (some 10) (some 1) (nN (l + 1)) s (nN 12) = some y ∧ _
        rw [f_X10_ordersFrom_11, if_pos (show (12 : Int32) ≤ nN 12 from Int32.le_refl _)]
        exact ⟨_, rfl, A2, V2, by rw [h1]; rfl, h2, h3⟩
    obtain ⟨y, e1, A', V', rfl, f1, s1⟩ := key
    refine ⟨A', V', ?_, f1, s1⟩
    show g_X10_ordersFrom (f_X10_ordersFrom d) _ _ _ _ = _
    unfold g_X10_ordersFrom
    rw [if_pos (show (0 : Int32) < nN (l + 1) from lt_y (a := 0) (by omega) (by omega))]
    exact e1
theorem cnO_le {T : Tn} : ∀ l M, cnO T l M ≤ 12 ^ l
  | 0, _ => Nat.le_refl _
  | l + 1, M => by
    have key : ∀ p, sumP (fun p => if oK T M p = true then cnO T l (rsT M p (hT T p)) else 0) p ≤ p * 12 ^ l := by
      intro p
      induction p with
      | zero => exact Nat.zero_le _
      | succ p ihp =>
        have h := cnO_le (T := T) l (rsT M p (hT T p))
        show sumP _ p + (if oK T M p = true then cnO T l (rsT M p (hT T p)) else 0) ≤ (p + 1) * 12 ^ l
        rw [Nat.succ_mul]
        split <;> omega
    show sumP _ 12 ≤ 12 ^ (l + 1)
    rw [Nat.pow_succ, Nat.mul_comm]
    exact key 12
/-- the first house in the first order -/
def gdO (T : Tn) (n p : Nat) (M : Tn) : Prop := oK T M p = true ∧ 0 < cnO T (n - 1) (rsT M p (hT T p))
theorem c_first {T M : Tn} {n : Nat} (wT : Wf T) (wM : Wf M) (hE : tE M = 0) (hn : n ≤ 7) (hn1 : ∀ p, p < 12 → oK T M p = true → 1 ≤ n) (sM : StRep A V R J 10 M) (sT : StRep A V R J 1 T) : ∃ y A' V', f_X10_firstInOrder (mk A V R B J) 0 (nN n) = some (y, mk A' V' R B J) ∧ (FrmM A V R A' V' R ∧ ((∃ p, p < 12 ∧ (gdO T n p M ∧ ((∀ q, q < p → ¬ gdO T n q M) ∧ y = nN p))) ∨ ((∀ p, p < 12 → ¬ gdO T n p M) ∧ y = -4))) := by
  have key : ∃ r, f_X10_firstInOrder_2 0 10000 (mk A V R B J) (nN n) (nN 0) = some r ∧ ∃ y A' V', r = (y, mk A' V' R B J) ∧ (FrmM A V R A' V' R ∧ ((∃ p, p < 12 ∧ (gdO T n p M ∧ ((∀ q, q < p → ¬ gdO T n q M) ∧ y = nN p))) ∨ ((∀ p, p < 12 → ¬ gdO T n p M) ∧ y = -4))) := by
    refine lpF (fun m (s : (Nat → Nat → Int32) × (Nat → Nat → Int32)) i => f_X10_firstInOrder_2 0 m (mk s.1 s.2 R B J) (nN n) i) (fun i s => (∀ q, q < i → ¬ gdO T n q M) ∧ (FrmM A V R s.1 s.2 R ∧ StRep s.1 s.2 R J 10 M)) (fun r => ∃ y A' V', r = (y, mk A' V' R B J) ∧ (FrmM A V R A' V' R ∧ ((∃ p, p < 12 ∧ (gdO T n p M ∧ ((∀ q, q < p → ¬ gdO T n q M) ∧ y = nN p))) ∨ ((∀ p, p < 12 → ¬ gdO T n p M) ∧ y = -4)))) 12 (i := 0) (s := (A, V)) (by omega) (by omega) ⟨fun q hq => absurd hq (Nat.not_lt_zero q), ⟨fun _ _ => rfl, fun _ _ _ => rfl, fun _ _ _ => rfl⟩, sM⟩ ?_ ?_
    · rintro m i ⟨A2, V2⟩ hi ⟨h1, h2, h3⟩
      have h2 : FrmM A V R A2 V2 R := h2
      have h3 : StRep A2 V2 R J 10 M := h3
      have g12 : ¬ (12 : Int32) ≤ nN i := fun q => by rw [ge12 hi] at q; exact q
      have sT2 : StRep A2 V2 R (J ++ []) 1 T := sT.mind (Or.inl rfl) h2
      rw [List.append_nil] at sT2
      have more : ¬ gdO T n i M → ∀ q, q < i + 1 → ¬ gdO T n q M := fun hx q hq => by
        by_cases e : q = i
        · rw [e]; exact hx
        · exact h1 q (by omega)
      show (∃ r, f_X10_firstInOrder_2 0 (m + 1) (mk A2 V2 R B J) (nN n) (nN i) = some r ∧ _) ∨ ∃ s', f_X10_firstInOrder_2 0 (m + 1) (mk A2 V2 R B J) (nN n) (nN i) = _ ∧ _
      rw [f_X10_firstInOrder_2, if_neg g12, go_1, Option.bind_some, go_0, Option.bind_some, rs isM, Option.bind_some, c_canRaise wT wM sT2 h3 hi, Option.bind_some]
      unfold f_X10_firstInOrder_69
      by_cases c : oK T M i = true
      · obtain ⟨k1, k2, k3⟩ := oK_t.mp c
        obtain ⟨x1, x9⟩ := wT.hgt hi k1
        have n1 := hn1 i hi c
        have hh : A2 (1 + 2) i = nN (hT T i) := (sT2.2.2.2.2.1 i hi k1).1
        have er := c_raise (B := B) isM wM h3 hi x1 x9 k2 (by omega)
        have sr := StRep.rs wM h3 hi x1 x9 k2 (by omega)
        have wr := wM.rs hi x1 x9 (by omega) k2
        have fr := rs_frmM (A := A2) (V := V2) (R := R) (p := i) (E := tE M) (b := bui (tP M) (tH M) (tE M)) (n := nN (numT M i (hT T i))) (x := nN (hT T i)) (e := nN (tE M))
        have sT3 := sT2.mind (J' := []) (Or.inl rfl) fr
        rw [List.append_nil] at sT3
        obtain ⟨A4, V4, e4, f4, s4⟩ := c_orders (B := B) wT (n - 1) 9 (rsT M i (hT T i)) _ _ (by omega) wr (by show tE M + 1 + (n - 1) ≤ 8; omega) sr sT3
        obtain ⟨A5, V5, e5, f5, v5, s5⟩ := c_takeBack (B := B) isM wM s4 hi x1 x9 k2 (by omega)
        have fb : FrmM A4 V4 R A5 V5 R := ⟨fun a ha => f5 a (by omega), v5, fun _ _ _ => rfl⟩
        have hc := cnO_le (T := T) (n - 1) (rsT M i (hT T i))
        have hc2 : 12 ^ (n - 1) ≤ 12 ^ 6 := Nat.pow_le_pow_right (by decide) (by omega)
        have hc3 : (12 : Nat) ^ 6 = 2985984 := by decide
        rw [if_pos c, if_neg (by decide), Option.bind_some, Option.bind_some, rs isT, Option.bind_some, c_heightAt isT hi (plot_p hi).1, Option.bind_some, hh, rs isM, Option.bind_some, er, Option.bind_some, n_pred n1]
        dsimp only
        rw [go_1, Option.bind_some, go_0, Option.bind_some, e4, Option.bind_some]
        dsimp only
        rw [go_1, Option.bind_some, rs isM, Option.bind_some, e5, Option.bind_some]
        by_cases z : cnO T (n - 1) (rsT M i (hT T i)) = 0
        · rw [if_pos (le0_y z)]
          exact Or.inr ⟨(A5, V5), rfl, more (fun q => by have := q.2; omega), ((h2.tr fr).tr f4).tr fb, s5⟩
        · rw [if_neg (le0_n z (by omega))]
          exact Or.inl ⟨_, rfl, nN i, A5, V5, rfl, ((h2.tr fr).tr f4).tr fb, Or.inl ⟨i, hi, ⟨c, by omega⟩, h1, rfl⟩⟩
      · rw [if_neg c, if_pos rfl]
        exact Or.inr ⟨(A2, V2), rfl, more (fun q => c q.1), h2, h3⟩
    · rintro m ⟨A2, V2⟩ ⟨h1, h2, h3⟩
      show ∃ r, f_X10_firstInOrder_2 0 (m + 1) (mk A2 V2 R B J) (nN n) (nN 12) = some r ∧ _
      rw [f_X10_firstInOrder_2, if_pos (show (12 : Int32) ≤ nN 12 from Int32.le_refl _)]
      exact ⟨_, rfl, -4, A2, V2, rfl, h2, Or.inr ⟨h1, rfl⟩⟩
  obtain ⟨r, e1, y, A', V', rfl, f1, q1⟩ := key
  exact ⟨y, A', V', e1, f1, q1⟩
end ORC
