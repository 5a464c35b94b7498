/-! search -/
section SRC
variable {A V : Nat → Nat → Int32} {R : Nat → Nat → Option Nat} {B : Nat → Nat → Int64} {J : List En}
/-- where he is at the k-th plot, what he has seen, which way he goes, where he turns -/
def gK (p : Nat) : Nat := if p < 6 then p + 11 else 22 - p
def gP (p k : Nat) : Nat := if p < 6 then (if k ≤ p then p - k else k - p) else (if k ≤ 11 - p then p + k else 22 - p - k)
def gL (p k : Nat) : Nat := if p < 6 then p - k else min p (11 - (k - (11 - p)))
def gH (p k : Nat) : Nat := if p < 6 then max p (k - p) else min 11 (p + k)
def gS (p k : Nat) : Int32 := if p < 6 then (if k ≤ p then -1 else 1) else (if k ≤ 11 - p then 1 else -1)
def gT (p k : Nat) : Int32 := if p < 6 then (if k ≤ p then 0 else -1) else (if k ≤ 11 - p then 11 else -1)
def gN' (p k : Nat) : Int32 := if k = 0 then 0 else pb (gL p (k - 1)) (gH p (k - 1))
theorem g_1 : ∀ p, p < 12 → ∀ k, k < 17 → k ≤ gK p → gP p k < 12 ∧ gL p k < 12 ∧ gH p k < 12 ∧ gL p k ≤ gH p k + 1 := by decide +kernel
theorem g_2 : ∀ p, p < 12 → ∀ k, k < 17 → k ≤ gK p → gN' p k ||| ((1 : Int32) <<< (nN (gP p k) &&& 31)) = pb (gL p k) (gH p k) := by decide +kernel
theorem g_3 : ∀ p, p < 12 → ∀ k, k < 17 → k < gK p → (if nN (gP p k) = 0 then 1 else if nN (gP p k) = 11 then -1 else gS p k) = gS p (k + 1) ∧ nN (gP p k) + gS p (k + 1) = nN (gP p (k + 1)) := by decide +kernel
theorem g_4 : ∀ p, p < 12 → gK p < 17 ∧ gL p (gK p) = 0 ∧ gH p (gK p) = 11 ∧ gP p 0 = p ∧ gL p 0 = p ∧ gH p 0 = p ∧ gS p 0 = (if 6 ≤ p then 1 else -1) ∧ gT p 0 = (if 6 ≤ p then 11 else 0) := by decide +kernel
theorem g_5 : ∀ p, p < 12 → ∀ k, k < 17 → k < gK p → (if nN (gP p k) = gT p k then -(gS p k) else gS p k) = gS p (k + 1) ∧ (if nN (gP p k) = gT p k then -1 else gT p k) = gT p (k + 1) ∧ (if gL p k ≤ gP p (k + 1) then gL p k else gP p (k + 1)) = gL p (k + 1) ∧ (if gP p (k + 1) ≤ gH p k then gH p k else gP p (k + 1)) = gH p (k + 1) := by decide +kernel
theorem g_6 : ∀ p, p < 12 → ¬ ((0 : Int32) ≤ nN (gP p (gK p)) + (if nN (gP p (gK p)) = gT p (gK p) then -(gS p (gK p)) else gS p (gK p)) ∧ nN (gP p (gK p)) + (if nN (gP p (gK p)) = gT p (gK p) then -(gS p (gK p)) else gS p (gK p)) ≤ 11) := by decide +kernel
/-- the first plot at which all are met -/
def FM (N : Nat → Nat) (v : Nat → Int32) (n p k : Nat) : Prop := k ≤ gK p ∧ (AM N v n (gL p k) (gH p k) ∧ ∀ k', k' < k → ¬ AM N v n (gL p k') (gH p k'))
theorem FM.uq {N : Nat → Nat} {v : Nat → Int32} {n p k l : Nat} (h : FM N v n p k) (g : FM N v n p l) : k = l := by
  rcases Nat.lt_trichotomy k l with c | c | c
  · exact absurd h.2.1 (g.2.2 k c)
  · exact c
  · exact absurd g.2.1 (h.2.2 l c)
theorem c_search {N : Nat → Nat} {v : Nat → Int32} {d n p : Nat} (hd : d < 8) (hn : n ≤ 100) (s4 : V (29 + 2 * d) 2 = nN n) (hv : ∀ i, i < n → A (29 + 2 * d + 1) i = v i) (hp : p < 12) (hN : ∀ p, p < 12 → N p < 1000 ∧ A (1 + 1) p = nN (N p)) (ha : AM N v n 0 11) : ∃ k, FM N v n p k ∧ f_X10_wayOfSearch (mk A V R B J) 0 (some (29 + 2 * d)) (nN p) = some (nN k) := by
  obtain ⟨k1, k2, k3, k4, k5, k6, k7, -⟩ := g_4 p hp
  have h : ∃ y, f_X10_wayOfSearch_21 (mk A V R B J) 0 10000 (some (29 + 2 * d)) (gS p 0) (nN (gP p 0)) (gN' p 0) (nN 0) = some y ∧ ∃ k, FM N v n p k ∧ y = nN k := by
    refine lpF (fun m (s : Int32 × (Int32 × Int32)) i => f_X10_wayOfSearch_21 (mk A V R B J) 0 m (some (29 + 2 * d)) s.1 s.2.1 s.2.2 i) (fun i s => s = (gS p i, nN (gP p i), gN' p i) ∧ ∀ k', k' < i → ¬ AM N v n (gL p k') (gH p k')) (fun y => ∃ k, FM N v n p k ∧ y = nN k) (gK p) (i := 0) (s := (gS p 0, nN (gP p 0), gN' p 0)) (by omega) (by omega) ⟨rfl, fun k' h => absurd h (Nat.not_lt_zero k')⟩ ?_ ?_
    · rintro m i s hi ⟨rfl, hs⟩
      obtain ⟨a1, a2, a3, a4⟩ := g_1 p hp i (by omega) (by omega)
      have c1 := c_comes (R := R) (B := B) (J := J) hd hn s4 hv a2 a3 hN
      show (∃ r, f_X10_wayOfSearch_21 (mk A V R B J) 0 (m + 1) (some (29 + 2 * d)) (gS p i) (nN (gP p i)) (gN' p i) (nN i) = some r ∧ _) ∨ _
      rw [f_X10_wayOfSearch_21, if_neg (show ¬ (24 : Int32) ≤ nN i from le_n (a := 24) (by omega) (by decide)), ro, Option.bind_some, g_2 p hp i (by omega) (by omega), c1, Option.bind_some]
      unfold f_X10_wayOfSearch_69
      by_cases c : AM N v n (gL p i) (gH p i)
      · rw [bz_y c, if_neg (by decide)]
        exact Or.inl ⟨_, rfl, i, ⟨by omega, c, hs⟩, rfl⟩
      · rw [bz_n c, if_pos rfl]
        obtain ⟨b1, b2⟩ := g_3 p hp i (by omega) hi
        refine Or.inr ⟨(gS p (i + 1), nN (gP p (i + 1)), gN' p (i + 1)), ?_, rfl, fun k' hk => ?_⟩
        · show _ = f_X10_wayOfSearch_21 (mk A V R B J) 0 m (some (29 + 2 * d)) (gS p (i + 1)) (nN (gP p (i + 1))) (pb (gL p i) (gH p i)) (nN i + 1)
          rw [← b2, ← b1]
          by_cases q0 : nN (gP p i) = 0
          · rw [if_pos q0, if_pos q0]
          · rw [if_neg q0, if_neg q0]
            by_cases q1 : nN (gP p i) = 11
            · rw [if_pos q1, if_pos q1]
            · rw [if_neg q1, if_neg q1]
        · by_cases e : k' = i
          · rw [e]; exact c
          · exact hs k' (by omega)
    · rintro m s ⟨rfl, hs⟩
      obtain ⟨a1, a2, a3, a4⟩ := g_1 p hp (gK p) k1 (Nat.le_refl _)
      have c1 := c_comes (R := R) (B := B) (J := J) hd hn s4 hv a2 a3 hN
      have c : AM N v n (gL p (gK p)) (gH p (gK p)) := by rw [k2, k3]; exact ha
      show ∃ r, f_X10_wayOfSearch_21 (mk A V R B J) 0 (m + 1) (some (29 + 2 * d)) (gS p (gK p)) (nN (gP p (gK p))) (gN' p (gK p)) (nN (gK p)) = some r ∧ _
      rw [f_X10_wayOfSearch_21, if_neg (show ¬ (24 : Int32) ≤ nN (gK p) from le_n (a := 24) (by omega) (by decide)), ro, Option.bind_some, g_2 p hp (gK p) k1 (Nat.le_refl _), c1, Option.bind_some, bz_y c, if_neg (by decide)]
      exact ⟨_, rfl, gK p, ⟨Nat.le_refl _, c, hs⟩, rfl⟩
  obtain ⟨y, e1, k, hk, rfl⟩ := h
  refine ⟨k, hk, ?_⟩
  rw [k7, k4] at e1
  unfold f_X10_wayOfSearch f_X10_wayOfSearch_11
  by_cases q : 6 ≤ p
  · rw [if_pos q] at e1
    rw [if_pos (show (6 : Int32) ≤ nN p from le_y (a := 6) q (by omega))]
    exact e1
  · rw [if_neg q] at e1
    rw [if_neg (show ¬ (6 : Int32) ≤ nN p from le_n (a := 6) (by omega) (by decide))]
    exact e1
theorem m_search {N : Nat → Nat} {v : Nat → Int32} {d n p : Nat} (hd : d < 8) (hn : n ≤ 100) (s7 : A 64 d = nN n) (s8 : ∀ i, i < n → B 65 (100 * d + i) = (v i).toInt64) (hp : p < 12) (hN : ∀ p, p < 12 → N p < 1000 ∧ A 48 p = nN (N p)) : ∃ y, f_X11_search_22 45 (mk A V R B J) (nN d) (nN p) 0 = some (y, mk A V R B J) ∧ ((∃ k, FM N v n p k ∧ y = nN k) ∨ (¬ AM N v n 0 11 ∧ y = -4)) := by
  obtain ⟨k1, k2, k3, k4, k5, k6, k7, k8⟩ := g_4 p hp
  have pl : ∀ x : Int32, f_X11_isPlot (mk A V R B J) x = some (if (0 : Int32) ≤ x ∧ x ≤ 11 then 1 else 0) := fun x => by
    have e := m_in (h := mk A V R B J) (x := x) (a := 0) (b := 11)
    have e' : f_X11_in (mk A V R B J) x.toInt64 (0 : Int64) (11 : Int64) = some (if (0 : Int32) ≤ x ∧ x ≤ 11 then 1 else 0) := e
    unfold f_X11_isPlot
    rw [e', Option.bind_some]
    split <;> rfl
  have h : ∃ y, f_X11_search_68 45 10000 (mk A V R B J) (nN d) (nN (gL p 0)) (nN (gH p 0)) (nN (gP p 0)) (gS p 0) (gT p 0) (nN 0) = some y ∧ (y.2 = mk A V R B J ∧ ((∃ k, FM N v n p k ∧ y.1 = nN k) ∨ (¬ AM N v n 0 11 ∧ y.1 = -4))) := by
    refine lpF (fun m (s : Int32 × (Int32 × (Int32 × (Int32 × Int32)))) i => f_X11_search_68 45 m (mk A V R B J) (nN d) s.1 s.2.1 s.2.2.1 s.2.2.2.1 s.2.2.2.2 i) (fun i s => s = (nN (gL p i), nN (gH p i), nN (gP p i), gS p i, gT p i) ∧ ∀ k', k' < i → ¬ AM N v n (gL p k') (gH p k')) (fun y => y.2 = mk A V R B J ∧ ((∃ k, FM N v n p k ∧ y.1 = nN k) ∨ (¬ AM N v n 0 11 ∧ y.1 = -4))) (gK p) (i := 0) (s := (nN (gL p 0), nN (gH p 0), nN (gP p 0), gS p 0, gT p 0)) (by omega) (by omega) ⟨rfl, fun k' h => absurd h (Nat.not_lt_zero k')⟩ ?_ ?_
    · rintro m i s hi ⟨rfl, hs⟩
      obtain ⟨a1, a2, a3, a4⟩ := g_1 p hp i (by omega) (by omega)
      obtain ⟨n1, n2, n3, n4⟩ := g_1 p hp (i + 1) (by omega) (by omega)
      show (∃ r, f_X11_search_68 45 (m + 1) (mk A V R B J) (nN d) (nN (gL p i)) (nN (gH p i)) (nN (gP p i)) (gS p i) (gT p i) (nN i) = some r ∧ _) ∨ _
      rw [f_X11_search_68, if_neg (show ¬ (30 : Int32) ≤ nN i from le_n (a := 30) (by omega) (by decide)), rm, Option.bind_some, m_areMet hd hn s7 s8 a3 a4 hN, Option.bind_some]
      by_cases c : AM N v n (gL p i) (gH p i)
      · rw [bz_y c, if_neg (by decide)]
        exact Or.inl ⟨_, rfl, rfl, Or.inl ⟨i, ⟨by omega, c, hs⟩, rfl⟩⟩
      · rw [bz_n c, if_pos rfl]
        obtain ⟨-, b2⟩ := g_3 p hp i (by omega) hi
        obtain ⟨d1, d2, d3, d4⟩ := g_5 p hp i (by omega) hi
        refine Or.inr ⟨(nN (gL p (i + 1)), nN (gH p (i + 1)), nN (gP p (i + 1)), gS p (i + 1), gT p (i + 1)), ?_, rfl, fun k' hk => ?_⟩
        · show _ = f_X11_search_68 45 m (mk A V R B J) (nN d) (nN (gL p (i + 1))) (nN (gH p (i + 1))) (nN (gP p (i + 1))) (gS p (i + 1)) (gT p (i + 1)) (nN i + 1)
          have mid : ∀ tn : Int32, tn = gT p (i + 1) → f_X11_search_117 45 (f_X11_search_68 45 m) (mk A V R B J) (nN d) (nN (gL p i)) (nN (gH p i)) (nN (gP p i)) (gS p (i + 1)) (nN i) tn = f_X11_search_68 45 m (mk A V R B J) (nN d) (nN (gL p (i + 1))) (nN (gH p (i + 1))) (nN (gP p (i + 1))) (gS p (i + 1)) (gT p (i + 1)) (nN i + 1) := by
            intro tn htn
            subst htn
            unfold f_X11_search_117 f_X11_search_151 f_X11_search_167
            have pl1 : f_X11_isPlot (mk A V R B J) (nN (gP p (i + 1))) = some 1 := (plot_p n1).2 _
            rw [b2, pl1, Option.bind_some, if_neg (by decide), ← d3, ← d4]
            by_cases q1 : gL p i ≤ gP p (i + 1)
            · rw [if_pos (le_y q1 (by omega)), if_pos q1]
              by_cases q2 : gP p (i + 1) ≤ gH p i
              · rw [if_pos (le_y q2 (by omega)), if_pos q2]
              · rw [if_neg (le_n (by omega) (by omega)), if_neg q2]
            · rw [if_neg (le_n (by omega) (by omega)), if_neg q1]
              by_cases q2 : gP p (i + 1) ≤ gH p i
              · rw [if_pos (le_y q2 (by omega)), if_pos q2]
              · rw [if_neg (le_n (by omega) (by omega)), if_neg q2]
          unfold f_X11_search_102
          by_cases q : nN (gP p i) = gT p i
          · rw [if_pos q] at d1 d2
            rw [if_pos q, if_pos q, d1]
            exact mid _ d2
          · rw [if_neg q] at d1 d2
            rw [if_neg q, if_neg q, d1]
            exact mid _ d2
        · by_cases e : k' = i
          · rw [e]; exact c
          · exact hs k' (by omega)
    · rintro m s ⟨rfl, hs⟩
      obtain ⟨a1, a2, a3, a4⟩ := g_1 p hp (gK p) k1 (Nat.le_refl _)
      show ∃ r, f_X11_search_68 45 (m + 1) (mk A V R B J) (nN d) (nN (gL p (gK p))) (nN (gH p (gK p))) (nN (gP p (gK p))) (gS p (gK p)) (gT p (gK p)) (nN (gK p)) = some r ∧ _
      rw [f_X11_search_68, if_neg (show ¬ (30 : Int32) ≤ nN (gK p) from le_n (a := 30) (by omega) (by decide)), rm, Option.bind_some, m_areMet hd hn s7 s8 a3 a4 hN, Option.bind_some]
      by_cases c : AM N v n (gL p (gK p)) (gH p (gK p))
      · rw [bz_y c, if_neg (by decide)]
        exact ⟨_, rfl, rfl, Or.inl ⟨gK p, ⟨Nat.le_refl _, c, hs⟩, rfl⟩⟩
      · have g6 := g_6 p hp
        rw [bz_n c, if_pos rfl]
        rw [k2, k3] at c
        refine ⟨(-4, mk A V R B J), ?_, rfl, Or.inr ⟨c, rfl⟩⟩
        unfold f_X11_search_102 f_X11_search_117
        by_cases q : nN (gP p (gK p)) = gT p (gK p)
        · rw [if_pos q] at g6
          rw [if_pos q, if_pos q, pl, Option.bind_some, if_neg g6, if_pos rfl]
        · rw [if_neg q] at g6
          rw [if_neg q, if_neg q, pl, Option.bind_some, if_neg g6, if_pos rfl]
  obtain ⟨⟨y, g⟩, e1, e2, e3⟩ := h
  have e2 : g = mk A V R B J := e2
  subst e2
  refine ⟨y, ?_, e3⟩
  rw [k4, k5, k6, k7, k8] at e1
  unfold f_X11_search_22 f_X11_search_49 f_X11_search_63
  rw [if_pos (by decide)]
  by_cases q : 6 ≤ p
  · rw [if_pos q, if_pos q] at e1
    rw [if_pos (show (6 : Int32) ≤ nN p from le_y (a := 6) q (by omega)), if_pos (show (6 : Int32) ≤ nN p from le_y (a := 6) q (by omega))]
    exact e1
  · rw [if_neg q, if_neg q] at e1
    rw [if_neg (show ¬ (6 : Int32) ≤ nN p from le_n (a := 6) (by omega) (by decide)), if_neg (show ¬ (6 : Int32) ≤ nN p from le_n (a := 6) (by omega) (by decide))]
    exact e1
theorem op_11 (x1 x2 : Int32) : Ok1 (fun h => f_X10_search h 0 x1 x2) (fun h => f_X11_search h 45 x1 x2) := by
  intro A V R B J h
  have h0 := h
  obtain ⟨⟨T, w, st, mo⟩, -, shs⟩ := h0
  have cw : ∀ {y : Int32}, f_X10_wayBy (mk A V R B J) 0 x1 x2 0 = some y → f_X10_search (mk A V R B J) 0 x1 x2 = some y := fun e => by
    unfold f_X10_search
    rw [ro, Option.bind_some, e, Option.bind_some]
  rcases c_shelf x1 with ⟨d, hd, rfl, hc⟩ | ⟨hc, hn⟩
  · have ht := isSh_d hd
    rcases c_plot x2 with ⟨p, hp, rfl, g1, g2⟩ | ⟨g1, g2, -⟩
    · rcases sh_sort (s0 := 1) hd (by decide) (shs d hd) with ⟨r, hr, e1, e2⟩ | ⟨n, hn, s4, s7, s8, e1, e2⟩
      · refine ⟨r, A, upV V 45 6 0, R, B, cw ?_, ?_, h.thr⟩
        · unfold f_X10_wayBy
          rw [ro, Option.bind_some, hc, Option.bind_some, if_neg (by simp), g1, Option.bind_some, if_neg (by decide), rh ht, Option.bind_some, show (1 : Int32) = nN 1 from rfl, e1, Option.bind_some, if_neg (by rcases hr with rfl | rfl <;> decide)]
        · show f_X11_search (mk A V R B J) 45 (nN d) (nN p) = _
          unfold f_X11_search f_X11_search_22
          rw [pm_6, Option.bind_some, g2, Option.bind_some, if_neg (by decide), rm, Option.bind_some, show (1 : Int32) = nN 1 from rfl, e2, Option.bind_some, if_neg (by rcases hr with rfl | rfl <;> decide)]
      · have hN2 : ∀ p, p < 12 → tN T p < 1000 ∧ A (1 + 1) p = nN (tN T p) := fun p hp => ⟨w.num p hp, st.2.2.2.1 p hp⟩
        have hN48 : ∀ p, p < 12 → tN T p < 1000 ∧ A 48 p = nN (tN T p) := fun p hp => ⟨w.num p hp, mo.2.2 p hp⟩
        have e30 : 30 + 2 * d = 29 + 2 * d + 1 := by omega
        rw [e30] at s8
        have c1 := c_comes (R := R) (B := B) (J := J) (lo := 0) (hi := 11) hd hn s4 (fun i _ => rfl) (by decide) (by decide) hN2
        obtain ⟨y, c3, c4⟩ := m_search (A := A) (V := upV V 45 6 0) (R := R) (J := J) hd hn s7 (fun i hi => (s8 i hi).2) hp hN48
        have em : f_X11_search (mk A V R B J) 45 (nN d) (nN p) = some (y, mk A (upV V 45 6 0) R B J) := by
          unfold f_X11_search
          rw [pm_6, Option.bind_some, g2, Option.bind_some, if_neg (by decide), rm, Option.bind_some, show (1 : Int32) = nN 1 from rfl, e2, Option.bind_some]
          exact c3
        refine ⟨y, A, upV V 45 6 0, R, B, cw ?_, em, h.thr⟩
        unfold f_X10_wayBy
        rw [ro, Option.bind_some, hc, Option.bind_some, if_neg (by simp), g1, Option.bind_some, if_neg (by decide), rh ht, Option.bind_some, show (1 : Int32) = nN 1 from rfl, e1, Option.bind_some, if_pos rfl, Option.bind_some, show (4095 : Int32) = pb 0 11 by decide, c1, Option.bind_some]
        by_cases c : AM (tN T) (A (29 + 2 * d + 1)) n 0 11
        · obtain ⟨k, k1, k2⟩ := c_search (R := R) (B := B) (J := J) hd hn s4 (fun i _ => rfl) hp hN2 c
          rw [bz_y c, if_neg (by decide), if_pos rfl, Option.bind_some, k2, Option.bind_some]
          rcases c4 with ⟨l, l1, rfl⟩ | ⟨l1, -⟩
          · rw [k1.uq l1]
          · exact absurd c l1
        · rw [bz_n c, if_pos rfl]
          rcases c4 with ⟨l, l1, -⟩ | ⟨-, rfl⟩
          · obtain ⟨a1, a2, a3, a4⟩ := g_1 p hp l (by have := (g_4 p hp).1; have := l1.1; omega) l1.1
            exact absurd (fun i hi => (l1.2.1 i hi).mono (Nat.zero_le _) (by omega)) c
          · rfl
    · refine ⟨-1, A, upV V 45 6 0, R, B, cw ?_, ?_, h.thr⟩
      · unfold f_X10_wayBy
        rw [ro, Option.bind_some, hc, Option.bind_some, if_neg (by simp), g1, Option.bind_some, if_pos rfl]
      · show f_X11_search (mk A V R B J) 45 (nN d) x2 = _
        unfold f_X11_search f_X11_search_22
        rw [pm_6, Option.bind_some, g2, Option.bind_some, if_pos rfl, if_neg (by decide)]
  · refine ⟨-1, A, upV V 45 6 0, R, B, cw ?_, ?_, h.thr⟩
    · unfold f_X10_wayBy
      rw [ro, Option.bind_some, hc, Option.bind_some, if_pos rfl]
    · show f_X11_search (mk A V R B J) 45 x1 x2 = _
      unfold f_X11_search f_X11_search_22
      rw [pm_6, Option.bind_some]
      rcases c_plot x2 with ⟨p, hp, rfl, g1, g2⟩ | ⟨g1, g2, -⟩
      · rw [g2, Option.bind_some, if_neg (by decide), rm, Option.bind_some, m_wrongSortN hn, Option.bind_some, if_neg (by decide)]
      · rw [g2, Option.bind_some, if_pos rfl, if_neg (by decide)]
end SRC
