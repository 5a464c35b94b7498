/-! gaps -/
section GAP
variable {A V : Nat → Nat → Int32} {R : Nat → Nat → Option Nat} {B : Nat → Nat → Int64} {J : List En}
theorem bits_and {f : Nat → Int32} {x y : Int32} : ∀ (k i : Nat) (s : Int32), ((itr (bitsC f x) i k s) &&& y) = 0 ↔ (s &&& y) = 0 ∧ ∀ j, i ≤ j → j < i + k → f j ≠ 0 → f j = x → (((1 : Int32) <<< (nN j &&& 31)) &&& y) = 0 := by
  intro k
  induction k with
  | zero => intro i s; exact ⟨fun h => ⟨h, fun j h1 h2 => by omega⟩, fun h => h.1⟩
  | succ k ih =>
    intro i s
    show ((itr (bitsC f x) (i + 1) k (bitsC f x i s)) &&& y) = 0 ↔ _
    rw [ih]
    have hb' : (bitsC f x i s &&& y) = 0 ↔ (s &&& y) = 0 ∧ (f i ≠ 0 → f i = x → (((1 : Int32) <<< (nN i &&& 31)) &&& y) = 0) := by
      unfold bitsC
      by_cases c1 : f i = 0
      · rw [if_pos c1]
        exact ⟨fun h => ⟨h, fun z => absurd c1 z⟩, fun h => h.1⟩
      · rw [if_neg c1]
        by_cases c2 : f i = x
        · rw [if_pos c2, or_and', Int32.or_eq_zero_iff]
          exact ⟨fun h => ⟨h.1, fun _ _ => h.2⟩, fun h => ⟨h.1, h.2 c1 c2⟩⟩
        · rw [if_neg c2]
          exact ⟨fun h => ⟨h, fun _ z => absurd z c2⟩, fun h => h.1⟩
    rw [hb']
    constructor
    · rintro ⟨⟨h1, h2⟩, h3⟩
      refine ⟨h1, fun j g1 g2 g3 g4 => ?_⟩
      by_cases e : j = i
      · subst e; exact h2 g3 g4
      · exact h3 j (by omega) (by omega) g3 g4
    · rintro ⟨h1, h2⟩
      exact ⟨⟨h1, fun g3 g4 => h2 i (Nat.le_refl _) (by omega) g3 g4⟩, fun j g1 g2 g3 g4 => h2 j (by omega) (by omega) g3 g4⟩
theorem bt_one : ∀ v, v < 12 → ¬ (((1 : Int32) <<< (nN v &&& 31)) &&& (-1 : Int32)) = 0 := by decide +kernel
/-- the plots with a number: bits that meet others -/
theorem c_pw {t : Nat} {N : Nat → Nat} {x : Int32} (ht : isSt t) (hN : ∀ p, p < 12 → N p < 1000 ∧ A (t + 1) p = nN (N p)) : ∃ b : Int32, f_X8_plotsWith (mk A V R B J) t x = some b ∧ ((∀ y : Int32, (b &&& y) = 0 ↔ ∀ j, j < 12 → N j ≠ 0 → nN (N j) = x → (((1 : Int32) <<< (nN j &&& 31)) &&& y) = 0) ∧ (b = 0 ↔ ∀ j, j < 12 → N j ≠ 0 → nN (N j) ≠ x)) := by
  have h : ∀ y : Int32, ((itr (bitsC (A (t + 1)) x) 0 12 0) &&& y) = 0 ↔ ∀ j, j < 12 → N j ≠ 0 → nN (N j) = x → (((1 : Int32) <<< (nN j &&& 31)) &&& y) = 0 := fun y => by
    rw [bits_and, Int32.zero_and]
    constructor
    · rintro ⟨-, h2⟩ j hj h3 h4
      exact h2 j (Nat.zero_le _) (by omega) (by rw [(hN j hj).2]; exact n_ne0 h3 (by have := (hN j hj).1; omega)) (by rw [(hN j hj).2]; exact h4)
    · intro h2
      refine ⟨rfl, fun j _ hj h3 h4 => ?_⟩
      have hj : j < 12 := by omega
      rw [(hN j hj).2] at h3 h4
      exact h2 j hj (fun z => h3 (by rw [z]; rfl)) h4
  refine ⟨_, c_plotsWith ht, h, ?_⟩
  have h1 := h (-1)
  rw [Int32.and_neg_one] at h1
  rw [h1]
  exact ⟨fun g j hj h3 h4 => bt_one j hj (g j hj h3 h4), fun g j hj h3 h4 => absurd h4 (g j hj h3)⟩
theorem pw_hb {N : Nat → Nat} (hN : ∀ p, p < 12 → N p < 1000) {v : Nat} (h1 : 1 ≤ v) (h2 : v < 2147483648) : (∀ j, j < 12 → N j ≠ 0 → nN (N j) ≠ nN v) ↔ hb N v 12 = false := by
  rw [hb_f]
  constructor
  · intro h q hq e
    exact h q hq (by omega) (by rw [e])
  · intro h q hq _ e
    rw [n_eq (by have := hN q hq; omega) h2] at e
    exact h q hq e
/-- how many numbers from 1 to v none has -/
def frC (N : Nat → Nat) : Nat → Nat
  | 0 => 0
  | v + 1 => frC N v + if hb N (v + 1) 12 = true then 0 else 1
theorem gN_had {N : Nat → Nat} : ∀ p, gN N p = 0 ∨ ∃ q, q < p ∧ N q = gN N p
  | 0 => Or.inl rfl
  | p + 1 => by
    show max (gN N p) (N p) = 0 ∨ ∃ q, q < p + 1 ∧ N q = max (gN N p) (N p)
    rcases gN_had (N := N) p with h | ⟨q, h1, h2⟩
    · by_cases c : N p = 0
      · exact Or.inl (by omega)
      · exact Or.inr ⟨p, by omega, by omega⟩
    · by_cases c : gN N p ≤ N p
      · exact Or.inr ⟨p, by omega, by omega⟩
      · exact Or.inr ⟨q, by omega, by omega⟩
theorem frC_g {N : Nat → Nat} : frC N (gN N 12) = frC N (gN N 12 - 1) := by
  rcases gN_had (N := N) 12 with h | h
  · rw [h]
  · generalize gN N 12 = g at h
    match g with
    | 0 => rfl
    | g + 1 =>
      show frC N g + (if hb N (g + 1) 12 = true then 0 else 1) = frC N g
      rw [if_pos ((hb_t 12).mpr h)]
      rfl
theorem c_freeNumbers {t : Nat} {N : Nat → Nat} (ht : isSt t) (hN : ∀ p, p < 12 → N p < 1000 ∧ A (t + 1) p = nN (N p)) : f_X8_freeNumbers (mk A V R B J) t = some (nN (frC N (gN N 12))) := by
  have hg : gN N 12 < 1000 := gN_lt N _ (by decide) 12 (fun p hp => (hN p hp).1)
  have h : ∃ r, f_X8_freeNumbers_9 (mk A V R B J) t 10000 (nN (gN N 12)) 0 (nN 1) = some r ∧ r = nN (frC N (gN N 12)) := by
    refine lpF (fun n s i => f_X8_freeNumbers_9 (mk A V R B J) t n (nN (gN N 12)) s i) (fun i s => 1 ≤ i ∧ s = nN (frC N (i - 1))) (fun r => r = nN (frC N (gN N 12))) (max (gN N 12) 1) (i := 1) (s := 0) (by omega) (by omega) ⟨Nat.le_refl _, rfl⟩ ?_ ?_
    · intro n i s hi ⟨h1, hs⟩
      refine Or.inr ?_
      have ne : ¬ nN (gN N 12) ≤ nN i := fun q => by
        rw [n_le (by omega) (by omega)] at q
        omega
      obtain ⟨b, e1, -, e2⟩ := c_pw (V := V) (R := R) (B := B) (J := J) (x := nN i) ht hN
      rw [pw_hb (fun p hp => (hN p hp).1) h1 (by omega)] at e2
      have hf : frC N (i + 1 - 1) = frC N (i - 1) + if hb N i 12 = true then 0 else 1 := by
        obtain ⟨j, rfl⟩ : ∃ j, i = j + 1 := ⟨i - 1, by omega⟩
        rfl
      rw [f_X8_freeNumbers_9, if_neg ne, rs ht, Option.bind_some, e1, Option.bind_some]
      unfold f_X8_freeNumbers_25
      by_cases c : hb N i 12 = true
      · rw [if_neg (fun z => by rw [e2.mp z] at c; cases c)]
        exact ⟨s, rfl, by omega, by rw [hf, if_pos c]; exact hs⟩
      · rw [if_pos (e2.mpr (by rwa [Bool.not_eq_true] at c)), hs, n_s]
        exact ⟨_, rfl, by omega, by rw [hf, if_neg c]⟩
    · intro n s ⟨h1, hs⟩
      have le : nN (gN N 12) ≤ nN (max (gN N 12) 1) := by
        rw [n_le (by omega) (by omega)]
        omega
      rw [f_X8_freeNumbers_9, if_pos le]
      refine ⟨_, rfl, ?_⟩
      rw [hs, frC_g]
      by_cases c : gN N 12 = 0
      · rw [c]
        rfl
      · rw [show max (gN N 12) 1 = gN N 12 by omega]
  obtain ⟨r, e1, e2⟩ := h
  unfold f_X8_freeNumbers
  rw [rs ht, Option.bind_some, c_greatN ht hN, Option.bind_some]
  rw [e2] at e1
  exact e1
theorem m_gapsLooked {N : Nat → Nat} (hN : ∀ p, p < 12 → N p < 1000 ∧ A 49 p = nN (N p)) : f_X11_gapsLooked (mk A V R B J) 45 = some (nN (frC N (gN N 12))) := by
  have hg : gN N 12 < 1000 := gN_lt N _ (by decide) 12 (fun p hp => (hN p hp).1)
  have h : ∃ r, f_X11_gapsLooked_4 (mk A V R B J) 45 10000 0 (nN 1) = some r ∧ r = nN (frC N (gN N 12)) := by
    refine lpF (fun n s i => f_X11_gapsLooked_4 (mk A V R B J) 45 n s i) (fun i s => 1 ≤ i ∧ s = nN (frC N (i - 1))) (fun r => r = nN (frC N (gN N 12))) (gN N 12 + 1) (i := 1) (s := 0) (by omega) (by omega) ⟨Nat.le_refl _, rfl⟩ ?_ ?_
    · intro n i s hi ⟨h1, hs⟩
      refine Or.inr ?_
      have ne : ¬ nN (gN N 12) < nN i := fun q => by
        rw [n_lt (by omega) (by omega)] at q
        omega
      have hf : frC N (i + 1 - 1) = frC N (i - 1) + if hb N i 12 = true then 0 else 1 := by
        obtain ⟨j, rfl⟩ : ∃ j, i = j + 1 := ⟨i - 1, by omega⟩
        rfl
      rw [f_X11_gapsLooked_4, rm, Option.bind_some, m_greatN hN, Option.bind_some, if_neg ne, Option.bind_some, m_isHadN hN (by omega), Option.bind_some]
      unfold f_X11_gapsLooked_26
      by_cases c : hb N i 12 = true
      · rw [if_pos c, if_neg (by decide)]
        exact ⟨_, rfl, by omega, by rw [hf, if_pos c, hs, Int32.add_zero]; rfl⟩
      · rw [if_neg c, if_pos rfl, hs, n_s]
        exact ⟨_, rfl, by omega, by rw [hf, if_neg c]⟩
    · intro n s ⟨h1, hs⟩
      have le : nN (gN N 12) < nN (gN N 12 + 1) := by
        rw [n_lt (by omega) (by omega)]
        omega
      rw [f_X11_gapsLooked_4, rm, Option.bind_some, m_greatN hN, Option.bind_some, if_pos le]
      exact ⟨s, rfl, by rw [hs, Nat.add_sub_cancel]⟩
  obtain ⟨r, e1, e2⟩ := h
  rw [e2] at e1
  exact e1
theorem op_9 : Ok1 (fun h => f_X10_gaps h 0) (fun h => f_X11_gaps h 45) := by
  intro A V R B J h
  have h0 := h
  obtain ⟨⟨T, w, st, mo⟩, -⟩ := h0
  obtain ⟨A', e1, hA, lk⟩ := m_lookNow (R := R) (B := B) (J := J) w (mo.thr (x := 0))
  refine ⟨nN (frC (tN T) (gN (tN T) 12)), A', upV V 45 6 0, R, B, ?_, ?_, h.f0 (look_frm hA)⟩
  · show f_X10_gaps (mk A V R B J) 0 = _
    unfold f_X10_gaps
    rw [go_0, Option.bind_some, rs isT, Option.bind_some, c_freeNumbers isT (fun p hp => ⟨w.num p hp, st.2.2.2.1 p hp⟩), Option.bind_some]
  · show f_X11_gaps (mk A V R B J) 45 = _
    unfold f_X11_gaps
    rw [pm_6, Option.bind_some, rm, Option.bind_some, e1, Option.bind_some, rm, Option.bind_some, m_gapsLooked (fun p hp => ⟨w.num p hp, lk.1 p hp⟩), Option.bind_some]
end GAP
