/-! What the next order is, in the model. -/
section NXT
variable {A V : Nat → Nat → Int32} {R : Nat → Nat → Option Nat} {B : Nat → Nat → Int64} {J : List En}
theorem ib7 {i : Nat} (h : i < 7) : inB (nN i) 7 = true := ib h (by decide)
theorem c7 {i : Nat} (h : i < 7) : (nN i).toNatClampNeg = i := cn (by omega)
theorem n_m1 {a : Nat} (h : 1 ≤ a) : nN a + (-1) = nN (a - 1) := (Int32.sub_eq_add_neg (nN a) 1).symm.trans (n_pred h)
theorem m_rv {n : Nat} {a : Nat → Nat} (hn : n ≤ 7) : ∀ (k m lo hi : Nat) (a : Nat → Nat) (s : Nat → Int32), k < m → hi ≤ lo + 2 * k → lo ≤ n → hi < n → (∀ i, i < n → s i = nN (a i)) → ∃ s', f_X11_nextOrder_100 45 m (mk (upA A 59 s) V R B J) (nN lo) (nN hi) = some (1, mk (upA A 59 s') V R B J) ∧ ∀ i, i < n → s' i = nN (rvO k a lo hi i) := by
  intro k
  induction k with
  | zero =>
    intro m lo hi a s hm hh h1 h2 hs
    obtain ⟨m, rfl⟩ : ∃ m', m = m' + 1 := ⟨m - 1, by omega⟩
    refine ⟨s, ?_, hs⟩
    rw [f_X11_nextOrder_100, if_pos (le_y (by omega) (by omega))]
    rfl
  | succ k ih =>
    intro m lo hi a s hm hh h1 h2 hs
    obtain ⟨m, rfl⟩ : ∃ m', m = m' + 1 := ⟨m - 1, by omega⟩
    by_cases c : lo < hi
    · have e : rvO (k + 1) a lo hi = rvO k (swO a lo hi) (lo + 1) (hi - 1) := by
        show (if lo < hi then rvO k (swO a lo hi) (lo + 1) (hi - 1) else a) = _
        rw [if_pos c]
      obtain ⟨s', e1, e2⟩ := ih m (lo + 1) (hi - 1) (swO a lo hi) (upd (upd s lo (s hi)) hi (s lo)) (by omega) (by omega) (by omega) (by omega) (fun i hi' => by
        show upd (upd s lo (s hi)) hi (s lo) i = nN (upN (upN a lo (a hi)) hi (a lo) i)
        by_cases q1 : i = hi
        · subst q1
          rw [upd_eq, upN_eq, hs lo (by omega)]
        · rw [upd_ne q1, upN_ne q1]
          by_cases q2 : i = lo
          · subst q2
            rw [upd_eq, upN_eq, hs hi (by omega)]
          · rw [upd_ne q2, upN_ne q2]
            exact hs i hi')
      refine ⟨s', ?_, by rw [e]; exact e2⟩
      rw [f_X11_nextOrder_100, if_neg (le_n c (by omega)), gm_26, Option.bind_some, am_59, ib7 (by omega), if_pos rfl, Option.bind_some, c7 (by omega), Option.bind_some, Option.bind_some, am_59, ib7 (by omega), if_pos rfl, Option.bind_some, c7 (by omega), uA_eq, wm_59, ib7 (by omega), if_pos rfl, Option.bind_some, c7 (by omega), gm_26, Option.bind_some, wm_59, ib7 (by omega), if_pos rfl, Option.bind_some, c7 (by omega), uA_uA, uA_uA, uA_eq, uA_eq, n_s, n_m1 (by omega)]
      exact e1
    · refine ⟨s, ?_, ?_⟩
      · rw [f_X11_nextOrder_100, if_pos (le_y (by omega) (by omega))]
        rfl
      · have e : rvO (k + 1) a lo hi = a := by
          show (if lo < hi then rvO k (swO a lo hi) (lo + 1) (hi - 1) else a) = _
          rw [if_neg c]
        rw [e]
        exact hs
theorem ot_le {a : Nat → Nat} {v : Nat} : ∀ o, otO a v o ≤ o
  | 0 => Nat.le_refl _
  | o + 1 => by
    have h := ot_le (a := a) (v := v) o
    show (if a (o + 1) < v then otO a v o else o + 1) ≤ o + 1
    split <;> omega
theorem m_ot {n p j : Nat} {a : Nat → Nat} (hn : n ≤ 7) (hp : p < n) (hb : ∀ i, i < n → a i < 1000) (hj : a p ≤ a j) (hj1 : 1 ≤ j) (hpn : p + 1 < n) : ∀ (o m : Nat) (s : Nat → Int32), j ≤ o → o < n → o < m → (∀ i, i < n → s i = nN (a i)) → ∃ s', f_X11_nextOrder_41 45 m (mk (upA A 59 s) V R B J) (nN n) (nN p) (nN o) = some (1, mk (upA A 59 s') V R B J) ∧ ∀ i, i < n → s' i = nN (rvO n (swO a p (otO a (a p) o)) (p + 1) (n - 1) i) := by
  intro o
  induction o with
  | zero => intro m s h1; omega
  | succ o ih =>
    intro m s h1 h2 h3 hs
    obtain ⟨m, rfl⟩ : ∃ m', m = m' + 1 := ⟨m - 1, by omega⟩
    have b1 := hb p hp
    have b2 := hb (o + 1) h2
    rw [f_X11_nextOrder_41, gm_26, Option.bind_some, am_59, ib7 (by omega), if_pos rfl, Option.bind_some, c7 (by omega), Option.bind_some, am_59, ib7 (by omega), if_pos rfl, Option.bind_some, c7 (by omega), uA_eq, hs p hp, hs (o + 1) h2]
    by_cases c : a (o + 1) < a p
    · have e : otO a (a p) (o + 1) = otO a (a p) o := by
        show (if a (o + 1) < a p then otO a (a p) o else o + 1) = _
        rw [if_pos c]
      have hjo : j ≠ o + 1 := fun z => by rw [z] at hj; omega
      rw [if_neg (le_n c (by omega)), n_m1 (by omega), e, Nat.add_sub_cancel]
      exact ih m s (by omega) (by omega) (by omega) hs
    · have e : otO a (a p) (o + 1) = o + 1 := by
        show (if a (o + 1) < a p then otO a (a p) o else o + 1) = _
        rw [if_neg c]
      obtain ⟨s', e1, e2⟩ := m_rv (A := A) (V := V) (R := R) (B := B) (J := J) (a := a) hn n 10000 (p + 1) (n - 1) (swO a p (o + 1)) (upd (upd s p (s (o + 1))) (o + 1) (s p)) (by omega) (by omega) (by omega) (by omega) (fun i hi' => by
        show upd (upd s p (s (o + 1))) (o + 1) (s p) i = nN (upN (upN a p (a (o + 1))) (o + 1) (a p) i)
        by_cases q1 : i = o + 1
        · subst q1
          rw [upd_eq, upN_eq, hs p hp]
        · rw [upd_ne q1, upN_ne q1]
          by_cases q2 : i = p
          · subst q2
            rw [upd_eq, upN_eq, hs (o + 1) h2]
          · rw [upd_ne q2, upN_ne q2]
            exact hs i hi')
      rw [e]
      refine ⟨s', ?_, e2⟩
      rw [if_pos (le_y (by omega) (by omega)), Option.bind_some, am_59, ib7 (by omega), if_pos rfl, Option.bind_some, c7 (by omega), Option.bind_some, Option.bind_some, am_59, ib7 (by omega), if_pos rfl, Option.bind_some, c7 (by omega), uA_eq, wm_59, ib7 (by omega), if_pos rfl, Option.bind_some, c7 (by omega), gm_26, Option.bind_some, wm_59, ib7 (by omega), if_pos rfl, Option.bind_some, c7 (by omega), uA_uA, uA_uA, uA_eq, uA_eq, n_s, n_pred (by omega)]
      exact e1
theorem m_next {n : Nat} {a : Nat → Nat} {s : Nat → Int32} (hn : n ≤ 7) (hb : ∀ i, i < n → a i < 1000) (hs : ∀ i, i < n → s i = nN (a i)) : (nxO n a = none ∧ f_X11_nextOrder (mk (upA A 59 s) V R B J) 45 (nN n) = some (0, mk (upA A 59 s) V R B J)) ∨ ∃ a' s', nxO n a = some a' ∧ (f_X11_nextOrder (mk (upA A 59 s) V R B J) 45 (nN n) = some (1, mk (upA A 59 s') V R B J) ∧ ∀ i, i < n → s' i = nN (a' i)) := by
  have key : ∀ (q m : Nat), q < n → q < m → (plO a q = none ∧ f_X11_nextOrder_4 45 m (mk (upA A 59 s) V R B J) (nN n) (nN q - 1) = some (0, mk (upA A 59 s) V R B J)) ∨ ∃ p s', plO a q = some p ∧ (f_X11_nextOrder_4 45 m (mk (upA A 59 s) V R B J) (nN n) (nN q - 1) = some (1, mk (upA A 59 s') V R B J) ∧ ∀ i, i < n → s' i = nN (rvO n (swO a p (otO a (a p) (n - 1))) (p + 1) (n - 1) i)) := by
    intro q
    induction q with
    | zero =>
      intro m hq hm
      obtain ⟨m, rfl⟩ : ∃ m', m = m' + 1 := ⟨m - 1, by omega⟩
      refine Or.inl ⟨rfl, ?_⟩
      rw [f_X11_nextOrder_4, if_pos (by decide)]
      unfold f_X11_nextOrder_31
      rw [if_neg (by decide)]
      rfl
    | succ q ih =>
      intro m hq hm
      obtain ⟨m, rfl⟩ : ∃ m', m = m' + 1 := ⟨m - 1, by omega⟩
      have b1 := hb q (by omega)
      have b2 := hb (q + 1) hq
      have hp : plO a (q + 1) = if a (q + 1) < a q then plO a q else some q := rfl
      rw [n_pred (by omega), Nat.add_sub_cancel, f_X11_nextOrder_4, if_neg (n_lt0 q (by omega)), gm_26, Option.bind_some, am_59, ib7 (by omega), if_pos rfl, Option.bind_some, c7 (by omega), Option.bind_some, n_s, am_59, ib7 (by omega), if_pos rfl, Option.bind_some, c7 (by omega), uA_eq, hs q (by omega), hs (q + 1) hq, hp]
      by_cases c : a (q + 1) < a q
      · rw [if_pos c, if_neg (le_n c (by omega))]
        have e : nN q + (-1) = nN q - 1 := (Int32.sub_eq_add_neg (nN q) 1).symm
        rw [e]
        exact ih m (by omega) (by omega)
      · obtain ⟨s', e1, e2⟩ := m_ot (A := A) (V := V) (R := R) (B := B) (J := J) (p := q) (j := q + 1) hn (by omega) hb (by omega) (by omega) hq (n - 1) 10000 s (by omega) (by omega) (by omega) hs
        rw [if_neg c, if_pos (le_y (by omega) (by omega))]
        refine Or.inr ⟨q, s', rfl, ?_, e2⟩
        unfold f_X11_nextOrder_31
        rw [if_pos (show (0 : Int32) ≤ nN q from le_y (Nat.zero_le _) (by omega)), n_pred (by omega)]
        exact e1
  unfold f_X11_nextOrder nxO
  by_cases c : n = 0
  · subst c
    refine Or.inl ⟨rfl, ?_⟩
    show f_X11_nextOrder_4 45 (9999 + 1) _ _ _ = _
    rw [f_X11_nextOrder_4, if_pos (by decide)]
    unfold f_X11_nextOrder_31
    rw [if_neg (by decide)]
    rfl
  · have e : nN n - 2 = nN (n - 1) - 1 := by
      rw [← n_pred (show 1 ≤ n by omega), Int32.sub_eq_add_neg, Int32.sub_eq_add_neg (nN n - 1), Int32.sub_eq_add_neg (nN n), Int32.add_assoc, show (-1 : Int32) + -1 = -2 by decide]
    rw [e]
    rcases key (n - 1) 10000 (by omega) (by omega) with ⟨k1, k2⟩ | ⟨p, s', k1, k2, k3⟩
    · exact Or.inl ⟨by rw [k1], k2⟩
    · exact Or.inr ⟨_, s', by rw [k1], k2, k3⟩
end NXT
