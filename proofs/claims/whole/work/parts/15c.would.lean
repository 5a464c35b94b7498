/-! would, where -/
section WOU
variable {A V : Nat → Nat → Int32} {R : Nat → Nat → Option Nat} {B : Nat → Nat → Int64} {J : List En}
theorem rng (x : Int32) (a b : Nat) (hab : a ≤ b) (hb : b < 2147483648) : (∃ n, a ≤ n ∧ (n ≤ b ∧ x = nN n)) ∨ ¬ (nN a ≤ x ∧ x ≤ nN b) := by
  by_cases c : nN a ≤ x ∧ x ≤ nN b
  · have h0 : (0 : Int32) ≤ x := by
      have h1 := Int32.le_iff_toInt_le.mp c.1
      rw [Int32.toInt_ofNat_of_lt (by omega)] at h1
      refine Int32.le_iff_toInt_le.mpr ?_
      have : (0 : Int32).toInt = 0 := rfl
      omega
    obtain ⟨n, rfl, hn⟩ := nat_of h0
    exact Or.inl ⟨n, (Int32.ofNat_le_ofNat (by omega) hn).mp c.1, (Int32.ofNat_le_ofNat hn hb).mp c.2, rfl⟩
  · exact Or.inr c
theorem not_le_lt {a b : Int32} (h : a ≤ b) : ¬ b < a := fun q => by
  have h1 := Int32.lt_iff_toInt_lt.mp q
  have h2 := Int32.le_iff_toInt_le.mp h
  omega
theorem c_high (x : Int32) : (∃ n, 1 ≤ n ∧ (n ≤ 9 ∧ (x = nN n ∧ ((∀ h, f_X10_isHeight h x = some 1) ∧ ∀ h, f_X11_in h x.toInt64 (1 : Int64) (9 : Int64) = some 1)))) ∨ ((∀ h, f_X10_isHeight h x = some 0) ∧ ∀ h, f_X11_in h x.toInt64 (1 : Int64) (9 : Int64) = some 0) := by
  have hm : ∀ h, f_X11_in h x.toInt64 (1 : Int64) (9 : Int64) = some (if (1 : Int32) ≤ x ∧ x ≤ 9 then 1 else 0) := fun h => m_in (h := h) (x := x) (a := 1) (b := 9)
  rcases rng x 1 9 (by decide) (by decide) with ⟨n, h1, h2, rfl⟩ | c
  · have g1 : (1 : Int32) ≤ nN n := (Int32.ofNat_le_ofNat (n := n) (k := 1) (by decide) (by omega)).mpr h1
    have g2 : nN n ≤ (9 : Int32) := (Int32.ofNat_le_ofNat (n := 9) (k := n) (by omega) (by decide)).mpr h2
    refine Or.inl ⟨n, h1, h2, rfl, fun h => ?_, fun h => ?_⟩
    · unfold f_X10_isHeight
      rw [if_neg (not_le_lt g1), if_neg (not_le_lt g2)]
      rfl
    · rw [hm, if_pos ⟨g1, g2⟩]
  · refine Or.inr ⟨fun h => ?_, fun h => ?_⟩
    · unfold f_X10_isHeight f_X10_isHeight_15
      by_cases c1 : x < 1
      · rw [if_pos c1]
        rfl
      · by_cases c2 : (9 : Int32) < x
        · rw [if_neg c1, if_pos c2]
          rfl
        · exact absurd ⟨not_lt' c1, not_lt' c2⟩ c
    · exact (hm h).trans (congrArg some (if_neg c))
theorem bui_le {P H : Nat → Nat} : ∀ e, bui P H e ≤ e
  | 0 => Nat.le_refl _
  | e + 1 => by
    have h := bui_le (P := P) (H := H) e
    unfold bui at h ⊢
    show cnt P H 0 e + (if H e ≠ 0 ∧ P e / 4 = 0 then 1 else 0) + (cnt P H 1 e + (if H e ≠ 0 ∧ P e / 4 = 1 then 1 else 0)) + (cnt P H 2 e + (if H e ≠ 0 ∧ P e / 4 = 2 then 1 else 0)) ≤ e + 1
    by_cases c : H e ≠ 0
    · by_cases c0 : P e / 4 = 0
      · rw [if_pos ⟨c, c0⟩, if_neg (by omega), if_neg (by omega)]; omega
      · by_cases c1 : P e / 4 = 1
        · rw [if_neg (by omega), if_pos ⟨c, c1⟩, if_neg (by omega)]; omega
        · rw [if_neg (by omega), if_neg (by omega)]
          split <;> omega
    · rw [if_neg (fun q => c q.1), if_neg (fun q => c q.1), if_neg (fun q => c q.1)]
      omega
/-- the number that a house would have in a town -/
def numT (T : Tn) (p x : Nat) : Nat := numS (tK T) (tF T) (bui (tP T) (tH T) (tE T)) (cnt (tP T) (tH T) (p / 4) (tE T)) (tN T) p x
theorem c_numT {t p x : Nat} {T : Tn} (ht : isSt t) (hp : p < 12) (w : Wf T) (st : StRep A V R J t T) : f_V_numberFor (mk A V R B J) (R t 9) (some t) (nN p) (nN x) = some (nN (numT T p x)) :=
  c_number (c := fun q => cnt (tP T) (tH T) q (tE T)) ht hp st.2.2.2.2.2 st.1.2 (Nat.le_trans (bui_le _) w.2.2.1.1) (st.2.1 _ (by omega)) (fun p hp => ⟨w.num p hp, st.2.2.2.1 p hp⟩)
theorem m_numT {p x : Nat} {T : Tn} (hp : p < 12) (w : Wf T) (lk : Lk A (tP T) (tH T) (tN T) (tE T)) : f_X11_numberBy (mk A V R B J) 45 (nN (tK T)) (nN (tF T)) (nN p) (nN x) = some (nN (numT T p x)) :=
  m_number (c := fun q => cnt (tP T) (tH T) q (tE T)) w.1 w.2.1 hp (fun p hp => ⟨w.num p hp, lk.1 p hp⟩) lk.2 (Nat.le_trans (bui_le (P := tP T) (H := tH T) _) w.2.2.1.1)
/-- looking changes only what is to think in -/
theorem look_frm {A' : Nat → Nat → Int32} (hA : ∀ a, a ≠ 49 → a ≠ 50 → A' a = A a) : Frm A V R B A' (upV V 45 6 0) R B :=
  ⟨fun a g => hA a (fun q => g (by rw [q]; decide)) (fun q => g (by rw [q]; decide)), fun a k g => uV_ne (fun q => g (Or.inr ⟨q.1, by rw [q.2]; decide⟩)), fun _ _ _ => rfl, rfl⟩
theorem thr_frm {x : Int32} : Frm A V R B A (upV V 45 6 x) R B := Frm.v (Or.inr ⟨rfl, by decide⟩)
theorem MoRep.thr {T : Tn} (mo : MoRep A V T) {x : Int32} : MoRep A (upV V 45 6 x) T := mo.cong ⟨rfl, rfl, rfl⟩ ⟨uV_ne (by decide), uV_ne (by decide), uV_ne (by decide)⟩
theorem op_6 (x1 x2 : Int32) : Ok1 (fun h => f_X10_would h 0 x1 x2) (fun h => f_X11_would h 45 x1 x2) := by
  intro A V R B J h
  have h0 := h
  obtain ⟨⟨T, w, st, mo⟩, -⟩ := h0
  rcases c_plot x1 with ⟨p, hp, rfl, g1, g2⟩ | ⟨g1, g2, -⟩
  · rcases c_high x2 with ⟨n, hn1, hn2, rfl, k1, k2⟩ | ⟨k1, k2⟩
    · obtain ⟨A', e1, hA, lk⟩ := m_lookNow (R := R) (B := B) (J := J) w (mo.thr (x := 0))
      refine ⟨nN (numT T p n), A', upV V 45 6 0, R, B, ?_, ?_, h.f0 (look_frm hA)⟩
      · show f_X10_would (mk A V R B J) 0 (nN p) (nN n) = _
        unfold f_X10_would
        rw [g1, Option.bind_some, if_neg (by decide), k1, Option.bind_some, if_neg (by decide), go_0, Option.bind_some, gs_9 isT, Option.bind_some, Option.bind_some, c_numT isT hp w st, Option.bind_some]
      · show f_X11_would (mk A V R B J) 45 (nN p) (nN n) = _
        unfold f_X11_would
        rw [pm_6, Option.bind_some, g2, Option.bind_some, if_neg (by decide), k2, Option.bind_some, if_neg (by decide), rm, Option.bind_some, e1, Option.bind_some, gm_0, Option.bind_some, gm_1, Option.bind_some, mo.thr.1.1, mo.thr.1.2.1, rm, Option.bind_some, m_numT hp w lk, Option.bind_some]
    · refine ⟨-1, A, upV V 45 6 0, R, B, ?_, ?_, h.thr⟩
      · show f_X10_would (mk A V R B J) 0 (nN p) x2 = _
        unfold f_X10_would f_X10_would_33
        rw [g1, Option.bind_some, if_neg (by decide), k1, Option.bind_some, if_pos rfl]
      · show f_X11_would (mk A V R B J) 45 (nN p) x2 = _
        unfold f_X11_would
        rw [pm_6, Option.bind_some, g2, Option.bind_some, if_neg (by decide), k2, Option.bind_some, if_pos rfl]
  · refine ⟨-1, A, upV V 45 6 0, R, B, ?_, ?_, h.thr⟩
    · show f_X10_would (mk A V R B J) 0 x1 x2 = _
      unfold f_X10_would f_X10_would_33
      rw [g1, Option.bind_some, if_pos rfl]
    · show f_X11_would (mk A V R B J) 45 x1 x2 = _
      unfold f_X11_would
      rw [pm_6, Option.bind_some, g2, Option.bind_some, if_pos rfl]
def whS (N : Nat → Nat) (g : Nat → Nat) (x : Int32) : Nat → Int32 → Int32 := fun i s => if N i = 0 then (if nN (g i) = x then s ||| ((1 : Int32) <<< (nN i &&& 31)) else s) else s
theorem plot_p {p : Nat} (hp : p < 12) : (∀ h, f_X10_isPlot h (nN p) = some 1) ∧ ∀ h, f_X11_isPlot h (nN p) = some 1 := by
  rcases c_plot (nN p) with ⟨q, hq, e, g1, g2⟩ | ⟨-, -, g⟩
  · exact ⟨g1, g2⟩
  · exact absurd rfl (g p hp)
theorem op_7 (x1 x2 : Int32) : Ok1 (fun h => f_X10_where h 0 x1 x2) (fun h => f_X11_where h 45 x1 x2) := by
  intro A V R B J h
  have h0 := h
  obtain ⟨⟨T, w, st, mo⟩, -⟩ := h0
  by_cases c1 : x1 < 1
  · refine ⟨-1, A, upV V 45 6 0, R, B, ?_, ?_, h.thr⟩
    · show f_X10_where (mk A V R B J) 0 x1 x2 = _
      unfold f_X10_where
      rw [if_pos c1]
    · show f_X11_where (mk A V R B J) 45 x1 x2 = _
      unfold f_X11_where
      rw [pm_6, Option.bind_some, if_pos c1]
  · rcases c_high x2 with ⟨n, hn1, hn2, rfl, k1, k2⟩ | ⟨k1, k2⟩
    · obtain ⟨A', e1, hA, lk⟩ := m_lookNow (R := R) (B := B) (J := J) w (mo.thr (x := 0))
      have hc := (loop (fun m s i => f_X10_where_19 (mk A V R B J) 0 m x1 (nN n) s i) (fun _ _ => True) (whS (tN T) (fun p => numT T p n) x1) 12 (fun m i s hi _ => by
        have g12 : ¬ (12 : Int32) ≤ nN i := fun q => by rw [ge12 hi] at q; exact q
        refine ⟨?_, trivial⟩
        show f_X10_where_19 (mk A V R B J) 0 (m + 1) x1 (nN n) s (nN i) = f_X10_where_19 (mk A V R B J) 0 m x1 (nN n) (if tN T i = 0 then (if nN (numT T i n) = x1 then s ||| ((1 : Int32) <<< (nN i &&& 31)) else s) else s) (nN i + 1)
        rw [f_X10_where_19, if_neg g12, go_0, Option.bind_some, rs isT, Option.bind_some, c_hasHouse isT hi (plot_p hi).1, Option.bind_some, st.2.2.2.1 i hi]
        unfold f_X10_where_66
        by_cases d : tN T i = 0
        · rw [if_pos d, d, if_pos (show nN 0 = 0 from rfl), if_pos rfl, Option.bind_some, gs_9 isT, Option.bind_some, Option.bind_some, c_numT isT hi w st, Option.bind_some]
          by_cases d2 : nN (numT T i n) = x1
          · rw [if_pos d2, if_pos d2]
          · rw [if_neg d2, if_neg d2]
        · rw [if_neg d, if_neg (n_ne0 d (by have := w.num i hi; omega)), if_neg (by decide)])) 12 0 9988 0 rfl trivial
      have hm := (loop (fun m s i => f_X11_where_33 45 m (mk A' (upV V 45 6 0) R B J) x1 (nN n) s i) (fun _ _ => True) (whS (tN T) (fun p => numT T p n) x1) 12 (fun m i s hi _ => by
        have g12 : ¬ (12 : Int32) ≤ nN i := fun q => by rw [ge12 hi] at q; exact q
        have a48 : A' 48 i = nN (tN T i) := by rw [hA 48 (by decide) (by decide)]; exact mo.2.2 i hi
        refine ⟨?_, trivial⟩
        show f_X11_where_33 45 (m + 1) (mk A' (upV V 45 6 0) R B J) x1 (nN n) s (nN i) = f_X11_where_33 45 m (mk A' (upV V 45 6 0) R B J) x1 (nN n) (if tN T i = 0 then (if nN (numT T i n) = x1 then s ||| ((1 : Int32) <<< (nN i &&& 31)) else s) else s) (nN i + 1)
        rw [f_X11_where_33, if_neg g12, gm_5, Option.bind_some, am_48, ib12 hi, if_pos rfl, Option.bind_some, c12 hi, a48]
        unfold f_X11_where_77 f_X11_where_78
        by_cases d : tN T i = 0
        · rw [if_pos d, d, if_pos (show nN 0 = 0 from rfl), gm_0, Option.bind_some, gm_1, Option.bind_some, mo.thr.1.1, mo.thr.1.2.1, rm, Option.bind_some, m_numT hi w lk, Option.bind_some]
          by_cases d2 : nN (numT T i n) = x1
          · rw [if_pos d2, if_pos d2]
          · rw [if_neg d2, if_neg d2, Int32.or_zero]
        · rw [if_neg d, if_neg (n_ne0 d (by have := w.num i hi; omega)), Int32.or_zero])) 12 0 9988 0 rfl trivial
      refine ⟨itr (whS (tN T) (fun p => numT T p n) x1) 0 12 0, A', upV V 45 6 0, R, B, ?_, ?_, h.f0 (look_frm hA)⟩
      · show f_X10_where (mk A V R B J) 0 x1 (nN n) = _
        unfold f_X10_where
        rw [if_neg c1, k1, Option.bind_some, if_neg (by decide)]
        exact hc.1
      · show f_X11_where (mk A V R B J) 45 x1 (nN n) = _
        unfold f_X11_where
        rw [pm_6, Option.bind_some, if_neg c1, k2, Option.bind_some, if_neg (by decide), rm, Option.bind_some, e1, Option.bind_some]
        exact hm.1
    · refine ⟨-1, A, upV V 45 6 0, R, B, ?_, ?_, h.thr⟩
      · show f_X10_where (mk A V R B J) 0 x1 x2 = _
        unfold f_X10_where
        rw [if_neg c1, k1, Option.bind_some, if_pos rfl]
      · show f_X11_where (mk A V R B J) 45 x1 x2 = _
        unfold f_X11_where
        rw [pm_6, Option.bind_some, if_neg c1, k2, Option.bind_some, if_pos rfl]
end WOU
