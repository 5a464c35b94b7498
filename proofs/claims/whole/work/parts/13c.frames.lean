/-! Toss; what an invariant needs when the town or a shelf changes. -/
section OPS3
variable {A V A' V' : Nat → Nat → Int32} {R R' : Nat → Nat → Option Nat} {B B' : Nat → Nat → Int64} {J : List En}
def tossS (k f : Nat) : Int32 := match k with
  | 6 => 200 + taxS 6 f
  | 7 => 100 + nN f
  | _ => nN f
theorem c_caught {r : Option Nat} {k f : Nat} (h : LawAt J r k f) : f_X10_caughtFailure (mk A V R B J) r = some (if k = 4 ∨ f = 0 then (-15, mk A V R B J) else (tossS k f, mk A V R B (J ++ [eJ 6]))) := by
  obtain ⟨a, rfl, h1, h2, h3⟩ := law_at (A := A) (V := V) (R := R) (B := B) h
  obtain ⟨-, -, -, -, h4⟩ := law_at (A := A) (V := V) (R := R) (B := B) (h.app (J' := [eJ 6]))
  have h5 := c_levy (A := A) (V := V) (R := R) (B := B) (h.app (J' := [eJ 6]))
  have hk := h.1
  have hf := h.2.1
  have ef : (nN f = 0) = (f = 0) := nN_0 (by omega)
  unfold f_X10_caughtFailure
  rw [h1, Option.bind_some]
  by_cases c : f = 0
  · subst c
    have e0 : nN 0 = 0 := rfl
    match k, hk with
    | 0, _ | 1, _ | 2, _ | 3, _ | 4, _ | 5, _ | 6, _ | 7, _ => simp [lcl, cF, f_X3_fail, f_X2_fail, f_X6_fail, f_X9_fail, h3, e0]
  · have ef2 : ¬ (Int32.ofNat f = 0) := by rw [ef]; exact c
    match k, hk with
    | 0, _ | 1, _ | 2, _ | 3, _ | 5, _ => simp [lcl, cF, f_X3_fail, f_X3_fail_T, h3, h4, c, ef2, mk_push, tossS]
    | 4, _ => simp [lcl, cF, f_X9_fail]
    | 6, _ => simp [lcl, cF, f_X2_fail, f_X2_fail_T, h3, h5, c, ef2, mk_push, tossS, Int32.add_comm]
    | 7, _ => simp [lcl, cF, f_X6_fail, f_X6_fail_T, h3, h4, c, ef2, mk_push, tossS, Int32.add_comm]
theorem op_29 (x : Int32) : Ok2 (fun h => f_X10_toss h 0 x) (fun h => f_X11_toss h 45 x) := by
  intro A V R B J h
  have fin : ∀ J1, Inv A (upV V 45 6 0) R B (J ++ J1) := fun J1 => h.frm J1 (Frm.v (Or.inr ⟨rfl, by decide⟩))
  rcases c_shelf x with ⟨d, hd, rfl, hc⟩ | ⟨hc, hn⟩
  · have ht := isSh_d hd
    have cd : (Int32.ofNat d).toNatClampNeg = d := cn (by omega)
    have id8 : inB (Int32.ofNat d) 8 = true := ib hd (by decide)
    rcases h.2.2 d hd with ⟨s1, s2, s3⟩ | ⟨k, f, s1, s2, s3, s4, s5⟩ | ⟨s, n, s0, s1, s2, s3, s4, s5, -⟩
    · refine ⟨-11, A, V, R, B, [], A, upV V 45 6 0, R, B, ?_, ?_, fin [], Nat.zero_le _, Nat.zero_le _⟩
      · rw [List.append_nil]
        simp only [f_X10_toss, ro, Option.bind_some, hc, reduceCtorEq, if_false, gh_0 ht, s1, if_true, rh ht, c_refLaw ht, s2, and_self]
      · simp only [f_X11_toss, pm_6, Option.bind_some, rm, m_wrongLaw hd, s3, if_true]
        rfl
    · obtain ⟨a, ha, -⟩ := law_at (A := A) (V := V) (R := R) (B := B) s1
      have hk := s1.1
      have hf := s1.2.1
      have ef : (nN f = 0) = (f = 0) := nN_0 (by omega)
      have e4 : (nN k = 4) = (k = 4) := n_eq (b := 4) (by omega) (by decide)
      have e7 : (nN k = 7) = (k = 7) := n_eq (b := 7) (by omega) (by decide)
      have e6 : (nN k = 6) = (k = 6) := n_eq (b := 6) (by omega) (by decide)
      have hm : ∀ J1, f_X11_toss (mk A V R B (J ++ J1)) 45 (nN d) = some ((if k = 4 ∨ f = 0 then -15 else tossS k f), mk A (upV V 45 6 0) R B (J ++ J1)) := by
        intro J1
        simp only [f_X11_toss, pm_6, Option.bind_some, rm, m_wrongLaw hd, s3, one_ne, if_true, if_false, Int32.le_refl, gm_29, gm_30, am_61, am_62, id8, cd, s4, s5, m_taxOf hk, e4, e7, e6, ef]
        by_cases c4 : k = 4
        · simp [c4]
        · by_cases c0 : f = 0
          · simp [c4, c0]
          · by_cases c7 : k = 7
            · subst c7
              simp [c0, tossS]
            · by_cases c6 : k = 6
              · subst c6
                simp [c0, tossS]
              · simp [c0, c4, c6, c7]
                unfold tossS
                split <;> first | rfl | omega
      by_cases c : k = 4 ∨ f = 0
      · refine ⟨-15, A, V, R, B, [], A, upV V 45 6 0, R, B, ?_, ?_, fin [], Nat.zero_le _, Nat.zero_le _⟩
        · rw [List.append_nil]
          simp only [f_X10_toss, ro, Option.bind_some, hc, reduceCtorEq, if_false, gh_0 ht, c_caught s1, if_pos c]
          rw [ha]
          simp only [reduceCtorEq, if_false]
        · simp only [hm, if_pos c]
      · refine ⟨tossS k f, A, V, R, B, [eJ 6], A, upV V 45 6 0, R, B, ?_, ?_, fin [eJ 6], by decide, by decide⟩
        · simp only [f_X10_toss, ro, Option.bind_some, hc, reduceCtorEq, if_false, gh_0 ht, c_caught s1, if_neg c]
          rw [ha]
          simp only [reduceCtorEq, if_false]
        · simp only [hm, if_neg c]
    · refine ⟨-12, A, V, R, B, [], A, upV V 45 6 0, R, B, ?_, ?_, fin [], Nat.zero_le _, Nat.zero_le _⟩
      · have e : ¬ V (29 + 2 * d) 1 = -1 := by
          rw [s3]
          match s, s0 with
          | 0, _ | 1, _ | 2, _ => decide
        rw [List.append_nil]
        simp only [f_X10_toss, ro, Option.bind_some, hc, reduceCtorEq, if_false, gh_0 ht, s2, if_true, rh ht, c_refLaw ht, e, and_false]
      · simp only [f_X11_toss, pm_6, Option.bind_some, rm, m_wrongLaw hd, s5]
        rfl
  · refine ⟨-1, A, V, R, B, [], A, upV V 45 6 0, R, B, ?_, ?_, fin [], Nat.zero_le _, Nat.zero_le _⟩
    · rw [List.append_nil]
      simp only [f_X10_toss, ro, Option.bind_some, hc, if_true]
    · simp only [f_X11_toss, pm_6, Option.bind_some, rm, m_wrongLawN hn]
      rfl
/-- all but the town (and the rows to think in) stays -/
def FrmT (A : Nat → Nat → Int32) (V : Nat → Nat → Int32) (R : Nat → Nat → Option Nat) (B : Nat → Nat → Int64) (A' : Nat → Nat → Int32) (V' : Nat → Nat → Int32) (R' : Nat → Nat → Option Nat) (B' : Nat → Nat → Int64) : Prop :=
  (∀ a, 19 ≤ a → a ∉ scA → ¬ (46 ≤ a ∧ a ≤ 48) → A' a = A a) ∧ ((∀ a k, ¬ scV a k → a ≠ 1 → ¬ (a = 45 ∧ k < 3) → V' a k = V a k) ∧ ((∀ a k, ¬ scR a → a ≠ 1 → R' a k = R a k) ∧ B' 65 = B 65))
theorem Inv.town (J' : List En) (h : Inv A V R B J) (g : FrmT A V R B A' V' R' B') (T : Tn) (w : Wf T) (s : StRep A' V' R' (J ++ J') 1 T) (m : MoRep A' V' T) : Inv A' V' R' B' (J ++ J') := by
  obtain ⟨-, i, sh⟩ := h
  obtain ⟨ga, gv, gr, gb⟩ := g
  have hv : ∀ a k, a ≠ 10 → a ≠ 1 → (a = 45 → k ∉ [0, 1, 2, 6, 9, 10, 11, 12, 13, 21, 22, 27]) → V' a k = V a k := fun a k h1 h2 h3 => gv a k (fun q => q.elim h1 (fun q => h3 q.1 (List.mem_cons_of_mem _ (List.mem_cons_of_mem _ (List.mem_cons_of_mem _ q.2))))) h2 (fun q => h3 q.1 (by have := q.2; simp only [List.mem_cons]; omega))
  refine ⟨⟨T, w, s, m⟩, ?_, fun d hd => (sh d hd).cong ?_ ?_ ?_ gb⟩
  · rcases i with ⟨i1, i2⟩ | ⟨i1, i2, T', w', s', m'⟩
    · exact Or.inl ⟨(hv _ _ (by decide) (by decide) (by decide)).trans i1, (hv _ _ (by decide) (by decide) (by decide)).trans i2⟩
    · refine Or.inr ⟨(hv _ _ (by decide) (by decide) (by decide)).trans i1, (hv _ _ (by decide) (by decide) (by decide)).trans i2, T', w', s'.cong ?_ ?_ ?_ ?_, ?_⟩
      · intro j hj
        exact ga _ (by omega) (by unfold scA; simp only [List.mem_cons, List.not_mem_nil, or_false]; omega) (by omega)
      · exact hv _ _ (by decide) (by decide) (by decide)
      · exact hv _ _ (by decide) (by decide) (by decide)
      · exact gr _ _ (by unfold scR; decide) (by decide)
      · unfold ImRep
        rw [ga 56 (by decide) (by decide) (by decide)]
        exact m'
  · intro a q
    exact ga _ (by omega) (by unfold scA; simp only [List.mem_cons, List.not_mem_nil, or_false]; omega) (by omega)
  · intro k
    exact hv _ _ (by omega) (by omega) (by omega)
  · exact gr _ _ (by unfold scR; omega) (by omega)
/-- all but a shelf stays -/
def FrmS (d : Nat) (A : Nat → Nat → Int32) (V : Nat → Nat → Int32) (R : Nat → Nat → Option Nat) (B : Nat → Nat → Int64) (A' : Nat → Nat → Int32) (V' : Nat → Nat → Int32) (R' : Nat → Nat → Option Nat) (B' : Nat → Nat → Int64) : Prop :=
  (∀ a, a ∉ scA → a ≠ 30 + 2 * d → ¬ (60 ≤ a ∧ a ≤ 64) → A' a = A a) ∧ ((∀ a k, ¬ scV a k → a ≠ 29 + 2 * d → V' a k = V a k) ∧ ((∀ a k, ¬ scR a → a ≠ 29 + 2 * d → R' a k = R a k) ∧ ((∀ a e, 60 ≤ a → a ≤ 64 → e < 8 → e ≠ d → A' a e = A a e) ∧ ∀ i, ¬ (100 * d ≤ i ∧ i < 100 * d + 100) → B' 65 i = B 65 i)))
theorem Inv.shelf (J' : List En) (h : Inv A V R B J) {d : Nat} (hd : d < 8) (g : FrmS d A V R B A' V' R' B') (s : ShRep A' V' R' B' (J ++ J') d) : Inv A' V' R' B' (J ++ J') := by
  obtain ⟨⟨T, w, st, m⟩, i, sh⟩ := h
  obtain ⟨ga, gv, gr, ge, gb⟩ := g
  have hv : ∀ a k, a ≠ 10 → a ≠ 29 + 2 * d → (a = 45 → k ∉ [6, 9, 10, 11, 12, 13, 21, 22, 27]) → V' a k = V a k := fun a k h1 h2 h3 => gv a k (fun q => q.elim h1 (fun q => h3 q.1 q.2)) h2
  refine ⟨⟨T, w, st.cong ?_ ?_ ?_ ?_, m.cong ⟨ga _ (by decide) (by omega) (by decide), ga _ (by decide) (by omega) (by decide), ga _ (by decide) (by omega) (by decide)⟩ ⟨hv _ _ (by decide) (by omega) (by decide), hv _ _ (by decide) (by omega) (by decide), hv _ _ (by decide) (by omega) (by decide)⟩⟩, ?_, fun e he => ?_⟩
  · intro j hj
    exact ga _ (by unfold scA; simp only [List.mem_cons, List.not_mem_nil, or_false]; omega) (by omega) (by omega)
  · exact hv _ _ (by decide) (by omega) (by decide)
  · exact hv _ _ (by decide) (by omega) (by decide)
  · exact gr _ _ (by unfold scR; decide) (by omega)
  · rcases i with ⟨i1, i2⟩ | ⟨i1, i2, T', w', s', m'⟩
    · exact Or.inl ⟨(hv _ _ (by decide) (by omega) (by decide)).trans i1, (hv _ _ (by decide) (by omega) (by decide)).trans i2⟩
    · refine Or.inr ⟨(hv _ _ (by decide) (by omega) (by decide)).trans i1, (hv _ _ (by decide) (by omega) (by decide)).trans i2, T', w', s'.cong ?_ ?_ ?_ ?_, ?_⟩
      · intro j hj
        exact ga _ (by unfold scA; simp only [List.mem_cons, List.not_mem_nil, or_false]; omega) (by omega) (by omega)
      · exact hv _ _ (by decide) (by omega) (by decide)
      · exact hv _ _ (by decide) (by omega) (by decide)
      · exact gr _ _ (by unfold scR; decide) (by omega)
      · unfold ImRep
        rw [ga 56 (by decide) (by omega) (by decide)]
        exact m'
  · by_cases q : e = d
    · subst q
      exact s
    · have hs := sh e he
      have e0 : A' (30 + 2 * e) = A (30 + 2 * e) := ga _ (by unfold scA; simp only [List.mem_cons, List.not_mem_nil, or_false]; omega) (by omega) (by omega)
      have ev : ∀ k, V' (29 + 2 * e) k = V (29 + 2 * e) k := fun k => hv _ _ (by omega) (by omega) (by omega)
      have er : R' (29 + 2 * e) 0 = R (29 + 2 * e) 0 := gr _ _ (by unfold scR; omega) (by omega)
      unfold ShRep
      rw [er, ev, ev, e0, ge 60 e (by decide) (by decide) he q, ge 61 e (by decide) (by decide) he q, ge 62 e (by decide) (by decide) he q, ge 63 e (by decide) (by decide) he q, ge 64 e (by decide) (by decide) he q]
      rcases hs with hs | ⟨k, f, h1, h2⟩ | ⟨s9, n, h1, h2, h3, h4, h5, h6, h7, h8, h9⟩
      · exact Or.inl hs
      · exact Or.inr (Or.inl ⟨k, f, h1.app, h2⟩)
      · refine Or.inr (Or.inr ⟨s9, n, h1, h2, h3, h4, h5, h6, h7, h8, fun i hi => ⟨(h9 i hi).1, ?_⟩⟩)
        rw [gb _ (by omega)]
        exact (h9 i hi).2
end OPS3
