/-! byLaw, laws -/
section BYL
variable {A V : Nat → Nat → Int32} {R : Nat → Nat → Option Nat} {B : Nat → Nat → Int64} {J : List En}
theorem sl_law {c : Nat} {a b : Int32} : sl [eO c [vI a, vI b]] = 2 := rfl
theorem tr_occ {k f : Nat} {T : Tn} (hk : k ≤ 7) (hf : f ≤ 9) (w : Wf T) {p : Nat} (hp : p < 12) : tN (tr k f (tP T) (tH T) (tE T)) p = 0 ↔ tN T p = 0 := by
  obtain ⟨w2, k1, k2, k3, k4⟩ := tr_ok hk hf w.2.2.1 (tE T) (Nat.le_refl _)
  rw [w2.occ0 hp, w.occ0 hp, k3, occ_cong (tE T) k4]
theorem op_14 (x1 x2 x3 : Int32) : Ok2 (fun h => f_X10_byLaw h 0 x1 x2 x3) (fun h => f_X11_byLaw h 45 x1 x2 x3) := by
  intro A V R B J h
  have h0 := h
  obtain ⟨⟨T, w, st, mo⟩, -⟩ := h0
  rcases c_lawOf x2 x3 with ⟨k, f, hk, hf, rfl, rfl, hl⟩ | ⟨hl, hn⟩
  · have fin : Inv A (upV V 45 6 0) R B (J ++ [eO (lcl k) [vI (nN k), vI (nN f)]]) := h.frm _ thr_frm
    have k1 : (0 : Int32) ≤ nN k ∧ nN k ≤ 7 := ⟨le_y (Nat.zero_le _) (by omega), le_y hk (by decide)⟩
    have k2 : (0 : Int32) ≤ nN f ∧ nN f ≤ 9 := ⟨le_y (Nat.zero_le _) (by omega), le_y hf (by decide)⟩
    rcases c_plot x1 with ⟨p, hp, rfl, g1, g2⟩ | ⟨g1, g2, -⟩
    · have s1 : StRep A V R (J ++ [eO (lcl k) [vI (nN k), vI (nN f)]]) 1 T := st.cong (fun _ _ => rfl) rfl rfl rfl
      have hr : LawAt (J ++ [eO (lcl k) [vI (nN k), vI (nN f)]]) (some (68 + J.length)) k f := ⟨hk, hf, Or.inr ⟨J.length, rfl, by simp⟩⟩
      have em : ∀ {A1 V1 : Nat → Nat → Int32} {R1 : Nat → Nat → Option Nat} {B1 : Nat → Nat → Int64} {J1 : List En}, MoRep A1 (upV V1 45 6 0) T → ∃ A', f_X11_byLaw (mk A1 V1 R1 B1 J1) 45 (nN p) (nN k) (nN f) = some (if tN T p = 0 then -4 else nN (tN (tr k f (tP T) (tH T) (tE T)) p), mk A' (upV V1 45 6 0) R1 B1 J1) ∧ ∀ a, a ≠ 49 → a ≠ 50 → A' a = A1 a := by
        intro A1 V1 R1 B1 J1 mo1
        obtain ⟨A', e1, f2, l2⟩ := m_replay (R := R1) (B := B1) (J := J1) hk hf w mo1
        have w2 := (tr_ok hk hf w.2.2.1 (tE T) (Nat.le_refl _)).1
        have hb := w2.num p hp
        have hz := tr_occ hk hf w hp
        refine ⟨A', ?_, f2⟩
        unfold f_X11_byLaw
        rw [pm_6, Option.bind_some, g2, Option.bind_some, if_neg (by decide), m_in07, Option.bind_some, if_pos k1, if_neg (by decide), m_in09, Option.bind_some, if_pos k2, if_neg (by decide), rm, Option.bind_some, e1, Option.bind_some, gm_7, Option.bind_some, am_49, ib12 hp, if_pos rfl, Option.bind_some, c12 hp, l2.1 p hp]
        by_cases d : tN T p = 0
        · rw [if_pos d, hz.mpr d, if_pos (show nN 0 = 0 from rfl)]
        · rw [if_neg d, if_neg (n_ne0 (fun z => d (hz.mp z)) (by omega)), Option.bind_some, am_49, ib12 hp, if_pos rfl, Option.bind_some, c12 hp, l2.1 p hp]
      by_cases d : tN T p = 0
      · obtain ⟨A', e2, f2⟩ := em (R1 := R) (B1 := B) (J1 := J ++ [eO (lcl k) [vI (nN k), vI (nN f)]]) mo.thr
        rw [if_pos d] at e2
        refine ⟨-4, A, V, R, B, [eO (lcl k) [vI (nN k), vI (nN f)]], A', upV V 45 6 0, R, B, ?_, e2, h.frm _ (look_frm f2), Nat.le_of_ble_eq_true rfl, by rw [sl_law]; decide⟩
        show f_X10_byLaw (mk A V R B J) 0 (nN p) (nN k) (nN f) = _
        unfold f_X10_byLaw
        rw [hl, Option.bind_some]
        show (f_X10_isPlot (mk A V R B (J ++ [eO (lcl k) [vI (nN k), vI (nN f)]])) (nN p)).bind _ = _
        rw [g1, Option.bind_some, if_neg (by decide), if_neg (by simp), go_0, Option.bind_some, rs isT, Option.bind_some, c_hasHouse isT hp g1, Option.bind_some, st.2.2.2.1 p hp, d, if_pos (show nN 0 = 0 from rfl), if_pos rfl]
      · obtain ⟨A1, V1, e1, f1, l1⟩ := c_goThrough (B := B) w s1 hr
        have mo1 : MoRep A1 (upV V1 45 6 0) T := (mo.mind f1).thr
        obtain ⟨A', e2, f2⟩ := em (R1 := upR R 10 9 (some (68 + J.length))) (B1 := B) (J1 := J ++ [eO (lcl k) [vI (nN k), vI (nN f)]]) mo1
        rw [if_neg d] at e2
        refine ⟨nN (tN (tr k f (tP T) (tH T) (tE T)) p), A1, V1, upR R 10 9 (some (68 + J.length)), B, [eO (lcl k) [vI (nN k), vI (nN f)]], A', upV V1 45 6 0, upR R 10 9 (some (68 + J.length)), B, ?_, e2, h.frm _ (f1.frm.tr (look_frm f2)), Nat.le_of_ble_eq_true rfl, by rw [sl_law]; decide⟩
        show f_X10_byLaw (mk A V R B J) 0 (nN p) (nN k) (nN f) = _
        unfold f_X10_byLaw
        rw [hl, Option.bind_some]
        show (f_X10_isPlot (mk A V R B (J ++ [eO (lcl k) [vI (nN k), vI (nN f)]])) (nN p)).bind _ = _
        rw [g1, Option.bind_some, if_neg (by decide), if_neg (by simp), go_0, Option.bind_some, rs isT, Option.bind_some, c_hasHouse isT hp g1, Option.bind_some, st.2.2.2.1 p hp, if_neg (n_ne0 d (by have := w.num p hp; omega)), if_neg (by decide), go_1, Option.bind_some, Option.bind_some, rs isM, Option.bind_some]
        show (f_X8_goThrough (mk A V R B (J ++ [eO (lcl k) [vI (nN k), vI (nN f)]])) 10 (some 1) (some (68 + J.length))).bind _ = _
        rw [e1, Option.bind_some, go_1, Option.bind_some, rs isM, Option.bind_some, c_numberAt isM hp g1, Option.bind_some, l1.2.2.2.1 p hp]
    · refine ⟨-1, A, V, R, B, [eO (lcl k) [vI (nN k), vI (nN f)]], A, upV V 45 6 0, R, B, ?_, ?_, fin, Nat.le_of_ble_eq_true rfl, by rw [sl_law]; decide⟩
      · show f_X10_byLaw (mk A V R B J) 0 x1 (nN k) (nN f) = _
        unfold f_X10_byLaw
        rw [hl, Option.bind_some]
        show (f_X10_isPlot (mk A V R B (J ++ [eO (lcl k) [vI (nN k), vI (nN f)]])) x1).bind _ = _
        rw [g1, Option.bind_some, if_pos rfl]
      · show f_X11_byLaw _ 45 x1 (nN k) (nN f) = _
        unfold f_X11_byLaw
        rw [pm_6, Option.bind_some, g2, Option.bind_some, if_pos rfl]
  · refine no2 (fc := fun h => f_X10_byLaw h 0 x1 x2 x3) (fm := fun h => f_X11_byLaw h 45 x1 x2 x3) (x := -1) h ?_ ?_
    · show f_X10_byLaw (mk A V R B J) 0 x1 x2 x3 = _
      unfold f_X10_byLaw
      rw [hl, Option.bind_some]
      show (f_X10_isPlot (mk A V R B J) x1).bind _ = _
      rcases c_plot x1 with ⟨p, hp, rfl, g1, g2⟩ | ⟨g1, g2, -⟩
      · rw [g1, Option.bind_some, if_neg (by decide), if_pos rfl]
      · rw [g1, Option.bind_some, if_pos rfl]
    · show f_X11_byLaw (mk A V R B J) 45 x1 x2 x3 = _
      unfold f_X11_byLaw
      rw [pm_6, Option.bind_some]
      rcases c_plot x1 with ⟨p, hp, rfl, g1, g2⟩ | ⟨g1, g2, -⟩
      · rw [g2, Option.bind_some, if_neg (by decide), m_in07, Option.bind_some]
        by_cases c1 : (0 : Int32) ≤ x2 ∧ x2 ≤ 7
        · rw [if_pos c1, if_neg (by decide), m_in09, Option.bind_some, if_neg (fun q => hn ⟨c1, q⟩), if_pos rfl]
        · rw [if_neg c1, if_pos rfl]
      · rw [g2, Option.bind_some, if_pos rfl]
/-- whether two rows of numbers are alike -/
def eqN (N M : Nat → Nat) : Nat → Bool
  | 0 => true
  | p + 1 => eqN N M p && decide (N p = M p)
theorem eqN_f {N M : Nat → Nat} {i : Nat} (h : N i ≠ M i) : ∀ p, i < p → eqN N M p = false
  | 0, h' => by omega
  | p + 1, h' => by
    show (eqN N M p && decide (N p = M p)) = false
    by_cases c : p = i
    · subst c
      rw [decide_eq_false h, Bool.and_false]
    · rw [eqN_f h p (by omega), Bool.false_and]
theorem c_hasN {t o : Nat} {N M : Nat → Nat} (ht : isSt t) (ho : isSt o) (hN : ∀ p, p < 12 → N p < 1000 ∧ A (t + 1) p = nN (N p)) (hM : ∀ p, p < 12 → M p < 1000 ∧ A (o + 1) p = nN (M p)) : f_X8_hasNumbersOf (mk A V R B J) t (some o) = some (if eqN N M 12 = true then 1 else 0) := by
  have h : ∃ y, f_X8_hasNumbersOf_2 (mk A V R B J) t 10000 (some o) (nN 0) = some y ∧ y = if eqN N M 12 = true then 1 else 0 := by
    refine lpF (S := Unit) (fun n _ i => f_X8_hasNumbersOf_2 (mk A V R B J) t n (some o) i) (fun i _ => eqN N M i = true) (fun y => y = if eqN N M 12 = true then 1 else 0) 12 (i := 0) (s := ()) (by omega) (by omega) rfl ?_ ?_
    · intro n i _ hi hs
      have g12 : ¬ (12 : Int32) ≤ nN i := fun q => by rw [ge12 hi] at q; exact q
      obtain ⟨b1, b2⟩ := hN i hi
      obtain ⟨m1, m2⟩ := hM i hi
      rw [f_X8_hasNumbersOf_2, if_neg g12, gs_0 ht, Option.bind_some, as_0 ht, ib12 hi, if_pos rfl, Option.bind_some, c12 hi, gs_0 ho, Option.bind_some, as_0 ho, ib12 hi, if_pos rfl, Option.bind_some, c12 hi, b2, m2]
      by_cases c : N i = M i
      · rw [c, if_pos rfl]
        refine Or.inr ⟨(), rfl, ?_⟩
        show (eqN N M i && decide (N i = M i)) = true
        rw [hs, decide_eq_true c]
        rfl
      · rw [if_neg (eq_n' c (by omega) (by omega))]
        refine Or.inl ⟨0, rfl, ?_⟩
        rw [eqN_f c 12 hi, if_neg (by decide)]
    · intro n _ hs
      rw [f_X8_hasNumbersOf_2, if_pos (show (12 : Int32) ≤ nN 12 from Int32.le_refl _), hs]
      exact ⟨1, rfl, rfl⟩
  obtain ⟨y, e1, e2⟩ := h
  rw [e2] at e1
  exact e1
theorem m_areNow {N M : Nat → Nat} (hN : ∀ p, p < 12 → N p < 1000 ∧ A 49 p = nN (N p)) (hM : ∀ p, p < 12 → M p < 1000 ∧ A 48 p = nN (M p)) : f_X11_areAsNow (mk A V R B J) 45 = some (if eqN N M 12 = true then 1 else 0) := by
  have h : ∃ y, f_X11_areAsNow_4 (mk A V R B J) 45 10000 1 (nN 0) = some y ∧ y = if eqN N M 12 = true then 1 else 0 := by
    refine lpF (fun n s i => f_X11_areAsNow_4 (mk A V R B J) 45 n s i) (fun i s => s = if eqN N M i = true then 1 else 0) (fun y => y = if eqN N M 12 = true then 1 else 0) 12 (i := 0) (s := 1) (by omega) (by omega) rfl ?_ ?_
    · intro n i s hi hs
      have g12 : ¬ (12 : Int32) ≤ nN i := fun q => by rw [ge12 hi] at q; exact q
      obtain ⟨b1, b2⟩ := hN i hi
      obtain ⟨m1, m2⟩ := hM i hi
      have hS : eqN N M (i + 1) = (eqN N M i && decide (N i = M i)) := rfl
      refine Or.inr ⟨if eqN N M (i + 1) = true then 1 else 0, ?_, rfl⟩
      rw [f_X11_areAsNow_4, if_neg g12, hs, hS]
      unfold f_X11_areAsNow_33 f_X11_areAsNow_34
      by_cases c0 : eqN N M i = true
      · rw [c0, Bool.true_and, if_pos rfl, if_neg (by decide), gm_7, Option.bind_some, am_49, ib12 hi, if_pos rfl, Option.bind_some, c12 hi, gm_5, Option.bind_some, am_48, ib12 hi, if_pos rfl, Option.bind_some, c12 hi, b2, m2]
        by_cases c : N i = M i
        · rw [if_pos (congrArg nN c), decide_eq_true c, if_pos rfl]
        · rw [if_neg (eq_n' c (by omega) (by omega)), decide_eq_false c, if_neg (by decide)]
      · rw [Bool.not_eq_true] at c0
        rw [c0, Bool.false_and, if_neg (show ¬ (false = true) by decide), if_pos rfl]
    · intro n s hs
      rw [f_X11_areAsNow_4, if_pos (show (12 : Int32) ≤ nN 12 from Int32.le_refl _), hs]
      refine ⟨_, ?_, rfl⟩
      split <;> rfl
  obtain ⟨y, e1, e2⟩ := h
  rw [e2] at e1
  exact e1
def lwS (f : Nat) (T : Tn) : Nat → Int32 → Int32 := fun i s => if eqN (tN (tr i f (tP T) (tH T) (tE T))) (tN T) 12 = true then s ||| ((1 : Int32) <<< (nN i &&& 31)) else s
theorem itr_s {S : Type} {f : Nat → S → S} : ∀ (k i : Nat) (s : S), itr f i (k + 1) s = f (i + k) (itr f i k s) := by
  intro k
  induction k with
  | zero => intro i s; rfl
  | succ k ih =>
    intro i s
    show itr f (i + 1) (k + 1) (f i s) = f (i + (k + 1)) (itr f (i + 1) k (f i s))
    rw [ih, show i + 1 + k = i + (k + 1) by omega]
theorem op_15 (x1 : Int32) : Ok2 (fun h => f_X10_laws h 0 x1) (fun h => f_X11_laws h 45 x1) := by
  intro A V R B J h
  have h0 := h
  obtain ⟨⟨T, w, st, mo⟩, -⟩ := h0
  rcases rng x1 0 9 (by decide) (by decide) with ⟨f, -, hf, rfl⟩ | hn
  · have hl : ∀ i, i < 8 → ∀ A V R B J, f_X10_lawOf (mk A V R B J) (nN i) (nN f) = some (some (68 + J.length), mk A V R B (J ++ [eO (lcl i) [vI (nN i), vI (nN f)]])) := by
      intro i hi
      rcases c_lawOf (nN i) (nN f) with ⟨k, f', hk, hf', e1, e2, hl⟩ | ⟨-, hn⟩
      · rw [n_eq (by omega) (by omega)] at e1 e2
        subst e1
        subst e2
        exact hl
      · exact absurd ⟨⟨le_y (Nat.zero_le _) (by omega), le_y (show i ≤ 7 by omega) (by decide)⟩, le_y (Nat.zero_le _) (by omega), le_y hf (by decide)⟩ hn
    have hc : ∃ y, f_X10_laws_4 0 10000 (mk A V R B (J ++ [])) (nN f) 0 (nN 0) = some y ∧ ∃ A1 V1 R1 J1, y = (itr (lwS f T) 0 8 0, mk A1 V1 R1 B (J ++ J1)) ∧ (FrmM A V R A1 V1 R1 ∧ (J1.length = 8 ∧ sl J1 = 16)) := by
      refine lpF (fun n (s : Int32 × ((Nat → Nat → Int32) × ((Nat → Nat → Int32) × ((Nat → Nat → Option Nat) × List En)))) i => f_X10_laws_4 0 n (mk s.2.1 s.2.2.1 s.2.2.2.1 B (J ++ s.2.2.2.2)) (nN f) s.1 i) (fun i s => s.1 = itr (lwS f T) 0 i 0 ∧ (FrmM A V R s.2.1 s.2.2.1 s.2.2.2.1 ∧ (s.2.2.2.2.length = i ∧ sl s.2.2.2.2 = 2 * i))) (fun y => ∃ A1 V1 R1 J1, y = (itr (lwS f T) 0 8 0, mk A1 V1 R1 B (J ++ J1)) ∧ (FrmM A V R A1 V1 R1 ∧ (J1.length = 8 ∧ sl J1 = 16))) 8 (i := 0) (s := (0, A, V, R, [])) (by omega) (by omega) ⟨rfl, ⟨fun _ _ => rfl, fun _ _ _ => rfl, fun _ _ _ => rfl⟩, rfl, rfl⟩ ?_ ?_
      · rintro n i ⟨s, A2, V2, R2, J2⟩ hi ⟨h1, h2, h3, h4⟩
        have h1 : s = itr (lwS f T) 0 i 0 := h1
        have h2 : FrmM A V R A2 V2 R2 := h2
        have h3 : J2.length = i := h3
        have h4 : sl J2 = 2 * i := h4
        refine Or.inr ?_
        show ∃ s', f_X10_laws_4 0 (n + 1) (mk A2 V2 R2 B (J ++ J2)) (nN f) s (nN i) = _ ∧ _
        have g8 : ¬ (8 : Int32) ≤ nN i := le_n (a := 8) hi (by decide)
        have hr : LawAt (J ++ J2 ++ [eO (lcl i) [vI (nN i), vI (nN f)]]) (some (68 + (J ++ J2).length)) i f := ⟨by omega, hf, Or.inr ⟨(J ++ J2).length, rfl, by simp⟩⟩
        have so : StRep A2 V2 R2 (J ++ J2 ++ [eO (lcl i) [vI (nN i), vI (nN f)]]) 1 T := by
          rw [List.append_assoc]
          exact st.mind (Or.inl rfl) h2
        obtain ⟨A3, V3, e1, f1, l1⟩ := c_goThrough (B := B) w so hr
        have w3 := (tr_ok (k := i) (f := f) (by omega) hf w.2.2.1 (tE T) (Nat.le_refl _)).1
        have so3 : StRep A3 V3 (upR R2 10 9 (some (68 + (J ++ J2).length))) (J ++ J2 ++ [eO (lcl i) [vI (nN i), vI (nN f)]] ++ []) 1 T := so.mind (Or.inl rfl) f1
        have hh := c_hasN (A := A3) (V := V3) (R := upR R2 10 9 (some (68 + (J ++ J2).length))) (B := B) (J := J ++ J2 ++ [eO (lcl i) [vI (nN i), vI (nN f)]]) isM isT (fun p hp => ⟨w3.num p hp, l1.2.2.2.1 p hp⟩) (fun p hp => ⟨w.num p hp, so3.2.2.2.1 p hp⟩)
        refine ⟨(itr (lwS f T) 0 (i + 1) 0, A3, V3, upR R2 10 9 (some (68 + (J ++ J2).length)), J2 ++ [eO (lcl i) [vI (nN i), vI (nN f)]]), ?_, rfl, h2.tr f1, ?_, ?_⟩
        · rw [f_X10_laws_4, if_neg g8, hl i hi, Option.bind_some]
          dsimp only
          rw [if_neg (by simp), go_1, Option.bind_some, go_0, Option.bind_some, rs isM, Option.bind_some, e1, Option.bind_some, go_1, Option.bind_some, go_0, Option.bind_some, rs isM, Option.bind_some, hh, Option.bind_some, itr_s, Nat.zero_add, ← List.append_assoc, ← h1]
          unfold f_X10_laws_57 lwS
          by_cases c : eqN (tN (tr i f (tP T) (tH T) (tE T))) (tN T) 12 = true
          · rw [if_pos c, if_pos c, if_neg (by decide)]
          · rw [if_neg c, if_neg c, if_pos rfl]
        · show (J2 ++ [eO (lcl i) [vI (nN i), vI (nN f)]]).length = i + 1
          rw [List.length_append, h3]
          rfl
        · show sl (J2 ++ [eO (lcl i) [vI (nN i), vI (nN f)]]) = 2 * (i + 1)
          rw [sl_app, sl_law, h4]
          omega
      · rintro n ⟨s, A2, V2, R2, J2⟩ ⟨h1, h2, h3, h4⟩
        have h1 : s = itr (lwS f T) 0 8 0 := h1
        show ∃ y, f_X10_laws_4 0 (n + 1) (mk A2 V2 R2 B (J ++ J2)) (nN f) s (nN 8) = some y ∧ _
        rw [f_X10_laws_4, if_pos (show (8 : Int32) ≤ nN 8 from Int32.le_refl _)]
        exact ⟨_, rfl, A2, V2, R2, J2, by rw [h1], h2, h3, h4⟩
    obtain ⟨y, ec, A1, V1, R1, J1, rfl, f1, j1, j2⟩ := hc
    rw [List.append_nil] at ec
    have mo1 : MoRep A1 (upV V1 45 6 0) T := (mo.mind f1).thr
    have hm : ∃ y, f_X11_laws_23 45 10000 (mk A1 (upV V1 45 6 0) R1 B (J ++ J1)) (nN f) 0 (nN 0) = some y ∧ ∃ A2, y = (itr (lwS f T) 0 8 0, mk A2 (upV V1 45 6 0) R1 B (J ++ J1)) ∧ ∀ a, a ≠ 49 → a ≠ 50 → A2 a = A1 a := by
      refine lpF (fun n (s : Int32 × (Nat → Nat → Int32)) i => f_X11_laws_23 45 n (mk s.2 (upV V1 45 6 0) R1 B (J ++ J1)) (nN f) s.1 i) (fun i s => s.1 = itr (lwS f T) 0 i 0 ∧ ∀ a, a ≠ 49 → a ≠ 50 → s.2 a = A1 a) (fun y => ∃ A2, y = (itr (lwS f T) 0 8 0, mk A2 (upV V1 45 6 0) R1 B (J ++ J1)) ∧ ∀ a, a ≠ 49 → a ≠ 50 → A2 a = A1 a) 8 (i := 0) (s := (0, A1)) (by omega) (by omega) ⟨rfl, fun _ _ _ => rfl⟩ ?_ ?_
      · rintro n i ⟨s, A2⟩ hi ⟨h1, h2⟩
        have h1 : s = itr (lwS f T) 0 i 0 := h1
        have h2 : ∀ a, a ≠ 49 → a ≠ 50 → A2 a = A1 a := h2
        refine Or.inr ?_
        have g8 : ¬ (8 : Int32) ≤ nN i := le_n (a := 8) hi (by decide)
        have mo2 : MoRep A2 (upV V1 45 6 0) T := mo1.cong ⟨h2 _ (by decide) (by decide), h2 _ (by decide) (by decide), h2 _ (by decide) (by decide)⟩ ⟨rfl, rfl, rfl⟩
        obtain ⟨A3, e3, f3, l3⟩ := m_replay (R := R1) (B := B) (J := J ++ J1) (k := i) (by omega) hf w mo2
        have w3 := (tr_ok (k := i) (f := f) (by omega) hf w.2.2.1 (tE T) (Nat.le_refl _)).1
        have hh := m_areNow (A := A3) (V := upV V1 45 6 0) (R := R1) (B := B) (J := J ++ J1) (fun p hp => ⟨w3.num p hp, l3.1 p hp⟩) (fun p hp => ⟨w.num p hp, by rw [f3 48 (by decide) (by decide)]; exact mo2.2.2 p hp⟩)
        show ∃ s', f_X11_laws_23 45 (n + 1) (mk A2 (upV V1 45 6 0) R1 B (J ++ J1)) (nN f) s (nN i) = _ ∧ _
        refine ⟨(itr (lwS f T) 0 (i + 1) 0, A3), ?_, rfl, fun a q1 q2 => (f3 a q1 q2).trans (h2 a q1 q2)⟩
        rw [f_X11_laws_23, if_neg g8, rm, Option.bind_some, e3, Option.bind_some, rm, Option.bind_some, hh, Option.bind_some, itr_s, Nat.zero_add, ← h1]
        unfold f_X11_laws_50 lwS
        by_cases c : eqN (tN (tr i f (tP T) (tH T) (tE T))) (tN T) 12 = true
        · rw [if_pos c, if_pos c, if_neg (by decide)]
        · rw [if_neg c, if_neg c, if_pos rfl, Int32.or_zero]
      · rintro n ⟨s, A2⟩ ⟨h1, h2⟩
        have h1 : s = itr (lwS f T) 0 8 0 := h1
        show ∃ y, f_X11_laws_23 45 (n + 1) (mk A2 (upV V1 45 6 0) R1 B (J ++ J1)) (nN f) s (nN 8) = some y ∧ _
        rw [f_X11_laws_23, if_pos (show (8 : Int32) ≤ nN 8 from Int32.le_refl _)]
        exact ⟨_, rfl, A2, by rw [h1], h2⟩
    obtain ⟨y, em, A2, rfl, f2⟩ := hm
    refine ⟨itr (lwS f T) 0 8 0, A1, V1, R1, B, J1, A2, upV V1 45 6 0, R1, B, ec, ?_, h.frm _ (f1.frm.tr (look_frm f2)), by omega, by omega⟩
    show f_X11_laws _ 45 (nN f) = _
    unfold f_X11_laws
    rw [pm_6, Option.bind_some, m_in09, Option.bind_some, if_pos (show (0 : Int32) ≤ nN f ∧ nN f ≤ 9 from ⟨le_y (Nat.zero_le _) (by omega), le_y hf (by decide)⟩), if_neg (by decide)]
    exact em
  · refine no2 (fc := fun h => f_X10_laws h 0 x1) (fm := fun h => f_X11_laws h 45 x1) (x := -1) h ?_ ?_
    · rcases c_lawOf (nN 0) x1 with ⟨k, f', hk, hf', e1, e2, hl⟩ | ⟨hl, -⟩
      · exact absurd ⟨e2 ▸ le_y (Nat.zero_le _) (by omega), e2 ▸ le_y hf' (by decide)⟩ hn
      · show f_X10_laws_4 0 (9999 + 1) (mk A V R B J) x1 0 (nN 0) = _
        rw [f_X10_laws_4, if_neg (by decide), hl, Option.bind_some]
        dsimp only
        rw [if_pos rfl]
    · show f_X11_laws (mk A V R B J) 45 x1 = _
      unfold f_X11_laws
      rw [pm_6, Option.bind_some, m_in09, Option.bind_some, if_neg (show ¬ ((0 : Int32) ≤ x1 ∧ x1 ≤ 9) from hn), if_pos rfl]
end BYL
