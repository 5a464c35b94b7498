/-! street: the text -/
section TXT
variable {A V : Nat → Nat → Int32} {R : Nat → Nat → Option Nat} {B : Nat → Nat → Int64} {J : List En}
/-- the byte at a place of a row; 0 behind it -/
def ct (n : Nat) (v : Nat → Int32) (i : Nat) : Int32 := if i < n then v i else 0
def dg (x : Int32) : Nat := if x = 98 then 3 else if x = 102 then 2 else if x = 108 then 2 else 0
def isD (x : Int32) : Prop := 48 ≤ x ∧ x ≤ 57
/-- where it is stuck, when so many digits and a ; ought to stand from j on -/
noncomputable def sc (c : Nat → Int32) : Nat → Nat → Option Nat
  | 0, j => if c j = 59 then none else some j
  | k + 1, j => @ite _ (isD (c j)) (Classical.propDecidable _) (sc c k (j + 1)) (some j)
/-- where a statement is stuck -/
noncomputable def stk (c : Nat → Int32) (a : Nat) : Option Nat := if dg (c a) = 0 then some a else sc c (dg (c a)) (a + 1)
theorem sc_y {c : Nat → Int32} {k j : Nat} (h : isD (c j)) : sc c (k + 1) j = sc c k (j + 1) := by
  show @ite _ (isD (c j)) (Classical.propDecidable _) (sc c k (j + 1)) (some j) = _
  rw [if_pos h]
theorem sc_n {c : Nat → Int32} {k j : Nat} (h : ¬ isD (c j)) : sc c (k + 1) j = some j := by
  show @ite _ (isD (c j)) (Classical.propDecidable _) (sc c k (j + 1)) (some j) = _
  rw [if_neg h]
theorem sc_none {c : Nat → Int32} : ∀ (k j : Nat), sc c k j = none → c (j + k) = 59 ∧ ∀ i, i < k → isD (c (j + i))
  | 0, j, h => by
    have h : (if c j = 59 then none else some j) = none := h
    by_cases q : c j = 59
    · exact ⟨q, fun i hi => absurd hi (Nat.not_lt_zero i)⟩
    · rw [if_neg q] at h
      cases h
  | k + 1, j, h => by
    by_cases q : isD (c j)
    · rw [sc_y q] at h
      obtain ⟨h1, h2⟩ := sc_none k (j + 1) h
      refine ⟨by rw [show j + (k + 1) = j + 1 + k by omega]; exact h1, fun i hi => ?_⟩
      by_cases e : i = 0
      · rw [e]; exact q
      · have := h2 (i - 1) (by omega)
        rwa [show j + 1 + (i - 1) = j + i by omega] at this
    · rw [sc_n q] at h
      cases h
theorem sc_lt {c : Nat → Int32} : ∀ (k j i : Nat), sc c k j = some i → j ≤ i ∧ i ≤ j + k
  | 0, j, i, h => by
    have h : (if c j = 59 then none else some j) = some i := h
    by_cases q : c j = 59
    · rw [if_pos q] at h
      cases h
    · rw [if_neg q] at h
      have := Option.some.inj h
      omega
  | k + 1, j, i, h => by
    by_cases q : isD (c j)
    · rw [sc_y q] at h
      have := sc_lt k (j + 1) i h
      omega
    · rw [sc_n q] at h
      have := Option.some.inj h
      omega
theorem dg_le (x : Int32) : dg x ≤ 3 := by
  unfold dg
  split
  · decide
  · split
    · decide
    · split <;> decide
/-- a statement that isn't stuck -/
theorem stk_none {n : Nat} {v : Nat → Int32} {a : Nat} (h : stk (ct n v) a = none) : 2 ≤ dg (ct n v a) ∧ (a + dg (ct n v a) + 1 < n ∧ ∀ i, i < dg (ct n v a) → isD (ct n v (a + 1 + i))) := by
  unfold stk at h
  by_cases q : dg (ct n v a) = 0
  · rw [if_pos q] at h
    cases h
  · rw [if_neg q] at h
    obtain ⟨h1, h2⟩ := sc_none _ _ h
    refine ⟨?_, ?_, h2⟩
    · unfold dg at q ⊢
      split
      · decide
      · rename_i z1
        rw [if_neg z1] at q
        split
        · decide
        · rename_i z2
          rw [if_neg z2] at q
          split
          · decide
          · rename_i z3
            rw [if_neg z3] at q
            exact absurd rfl q
    · have h3 : ct n v (a + 1 + dg (ct n v a)) = 59 := h1
      unfold ct at h3
      by_cases z : a + 1 + dg (ct n v a) < n
      · omega
      · have z' : ¬ a + 1 + dg (if a < n then v a else 0) < n := z
        rw [if_neg z'] at h3
        exact absurd h3 (by decide)
theorem stk_lt {c : Nat → Int32} {a j : Nat} (h : stk c a = some j) : a ≤ j ∧ j ≤ a + 4 := by
  unfold stk at h
  have hd := dg_le (c a)
  by_cases q : dg (c a) = 0
  · rw [if_pos q] at h
    have := Option.some.inj h
    omega
  · rw [if_neg q] at h
    have := sc_lt _ _ _ h
    omega
noncomputable def psK (c : Nat → Int32) (n : Nat) : Nat → Nat → Option Nat
  | 0, _ => none
  | k + 1, a => if n ≤ a then none else match stk c a with
    | some j => some j
    | none => psK c n k (a + dg (c a) + 2)
def psL (c : Nat → Int32) (n : Nat) : Nat → Nat → List Nat
  | 0, _ => []
  | k + 1, a => if n ≤ a then [] else a :: psL c n k (a + dg (c a) + 2)
theorem psK_e {c : Nat → Int32} {n k a : Nat} (h : n ≤ a) : psK c n k a = none := by
  cases k
  · rfl
  · show (if n ≤ a then none else _) = none
    rw [if_pos h]
theorem psL_e {c : Nat → Int32} {n k a : Nat} (h : n ≤ a) : psL c n k a = [] := by
  cases k
  · rfl
  · show (if n ≤ a then [] else _) = []
    rw [if_pos h]
theorem psK_s {c : Nat → Int32} {n k a j : Nat} (h : a < n) (hs : stk c a = some j) : psK c n (k + 1) a = some j := by
  show (if n ≤ a then none else match stk c a with | some j => some j | none => psK c n k (a + dg (c a) + 2)) = some j
  rw [if_neg (by omega), hs]
theorem psK_n {c : Nat → Int32} {n k a : Nat} (h : a < n) (hs : stk c a = none) : psK c n (k + 1) a = psK c n k (a + dg (c a) + 2) := by
  show (if n ≤ a then none else match stk c a with | some j => some j | none => psK c n k (a + dg (c a) + 2)) = _
  rw [if_neg (by omega), hs]
theorem psL_n {c : Nat → Int32} {n k a : Nat} (h : a < n) : psL c n (k + 1) a = a :: psL c n k (a + dg (c a) + 2) := by
  show (if n ≤ a then [] else _) = _
  rw [if_neg (by omega)]
/-! the class reads -/
theorem c_ct {t n i : Nat} {v : Nat → Int32} (ht : isSh t) (hn : n ≤ 100) (hv2 : V t 2 = nN n) (hv : ∀ i, i < n → A (t + 1) i = v i) (hi : i < 100000) : f_X5_at (mk A V R B J) t (nN i) = some (ct n v i) := by
  rw [c_at ht hn hv2 (by omega)]
  unfold ct
  by_cases c : i < n
  · rw [if_pos c, if_pos c, hv i c]
  · rw [if_neg c, if_neg c]
theorem c_digits {h : Hp} {x : Int32} : f_X10_digitsBehind h x = some (nN (dg x)) := by
  unfold f_X10_digitsBehind dg
  split
  · rfl
  · split
    · rfl
    · split <;> rfl
theorem c_length {h : Hp} {x : Int32} : f_X10_lengthOf h x = some (nN (dg x + 2)) := by
  unfold f_X10_lengthOf
  rw [c_digits, Option.bind_some, show (2 : Int32) = nN 2 from rfl, n_add]
theorem c_scan {t n : Nat} {v : Nat → Int32} (ht : isSh t) (hn : n ≤ 100) (hv2 : V t 2 = nN n) (hv : ∀ i, i < n → A (t + 1) i = v i) : ∀ (k j m : Nat), k < m → j + k < 1000 → f_X10_stuckInStatement_26 (mk A V R B J) m (some t) (nN (j + k)) (nN j) = some (match sc (ct n v) k j with | none => -1 | some i => nN i) := by
  intro k
  induction k with
  | zero =>
    intro j m hm hj
    obtain ⟨m, rfl⟩ : ∃ m', m = m' + 1 := ⟨m - 1, by omega⟩
    show f_X10_stuckInStatement_26 (mk A V R B J) (m + 1) (some t) (nN j) (nN j) = _
    rw [f_X10_stuckInStatement_26, if_pos (Int32.le_refl _), rh ht, Option.bind_some, c_ct ht hn hv2 hv (by omega), Option.bind_some]
    show _ = some (match (if ct n v j = 59 then none else some j) with | none => (-1 : Int32) | some i => nN i)
    by_cases c : ct n v j = 59
    · rw [if_pos c, if_pos c]
    · rw [if_neg c, if_neg c]
  | succ k ih =>
    intro j m hm hj
    obtain ⟨m, rfl⟩ : ∃ m', m = m' + 1 := ⟨m - 1, by omega⟩
    rw [f_X10_stuckInStatement_26, if_neg (le_n (by omega) (by omega)), rh ht, Option.bind_some, c_ct ht hn hv2 hv (by omega), Option.bind_some]
    by_cases c1 : ct n v j < 48
    · rw [if_pos c1, sc_n (fun z => not_le_lt z.1 c1)]
    · rw [if_neg c1, Option.bind_some, c_ct ht hn hv2 hv (by omega), Option.bind_some]
      by_cases c2 : ct n v j ≤ 57
      · rw [if_pos c2, sc_y ⟨not_lt' c1, c2⟩, n_s, show j + (k + 1) = j + 1 + k by omega]
        exact ih (j + 1) m (by omega) (by omega)
      · rw [if_neg c2, sc_n (fun z => c2 z.2)]
theorem c_stuckIn {t n a : Nat} {v : Nat → Int32} (ht : isSh t) (hn : n ≤ 100) (hv2 : V t 2 = nN n) (hv : ∀ i, i < n → A (t + 1) i = v i) (ha : a < 500) : f_X10_stuckInStatement (mk A V R B J) (some t) (nN a) = some (match stk (ct n v) a with | none => -1 | some i => nN i) := by
  have hd := dg_le (ct n v a)
  unfold f_X10_stuckInStatement
  rw [rh ht, Option.bind_some, c_ct ht hn hv2 hv (by omega), Option.bind_some, c_digits, Option.bind_some]
  unfold stk
  by_cases c : dg (ct n v a) = 0
  · rw [c, if_pos (show nN 0 = 0 from rfl), if_pos rfl]
  · rw [if_neg (n_ne0 c (by omega)), if_neg c, n_add, n_s, n_s, show a + dg (ct n v a) + 1 = a + 1 + dg (ct n v a) by omega]
    exact c_scan ht hn hv2 hv _ _ _ (by omega) (by omega)
theorem c_stuckAt {t n : Nat} {v : Nat → Int32} (ht : isSh t) (hn : n ≤ 100) (hv2 : V t 2 = nN n) (hv : ∀ i, i < n → A (t + 1) i = v i) : ∀ (k a q m : Nat), k < m → 4 * q ≤ a → a ≤ n → n ≤ a + 4 * k → f_X10_stuckAt_4 (mk A V R B J) m (some t) (nN a) (nN q) = some (match psK (ct n v) n k a with | none => (if n = 0 then 0 else -1) | some i => nN i) := by
  have e50 : f_X10_stuckAt_50 (mk A V R B J) (some t) = some (if n = 0 then 0 else -1) := by
    unfold f_X10_stuckAt_50
    rw [gh_2 ht, Option.bind_some, hv2]
    by_cases c : n = 0
    · rw [c, if_pos (show nN 0 = 0 from rfl), if_pos rfl]
    · rw [if_neg (n_ne0 c (by omega)), if_neg c]
  have fin : ∀ (k a q m : Nat), n ≤ a → a < 1000 → q < 1000 → f_X10_stuckAt_4 (mk A V R B J) (m + 1) (some t) (nN a) (nN q) = some (match psK (ct n v) n k a with | none => (if n = 0 then 0 else -1) | some i => nN i) := by
    intro k a q m h1 h2 h3
    rw [psK_e h1, f_X10_stuckAt_4, gh_2 ht, Option.bind_some, hv2]
    by_cases c : n ≤ q
    · rw [if_pos (le_y c (by omega))]
      exact e50
    · rw [if_neg (le_n (by omega) (by omega)), Option.bind_some, if_pos (le_y h1 (by omega))]
      exact e50
  intro k
  induction k with
  | zero =>
    intro a q m hm h1 h2 h3
    obtain ⟨m, rfl⟩ : ∃ m', m = m' + 1 := ⟨m - 1, by omega⟩
    exact fin 0 a q m (by omega) (by omega) (by omega)
  | succ k ih =>
    intro a q m hm h1 h2 h3
    obtain ⟨m, rfl⟩ : ∃ m', m = m' + 1 := ⟨m - 1, by omega⟩
    by_cases c : n ≤ a
    · exact fin (k + 1) a q m c (by omega) (by omega)
    · rw [f_X10_stuckAt_4, gh_2 ht, Option.bind_some, hv2, if_neg (le_n (by omega) (by omega)), Option.bind_some, if_neg (le_n (by omega) (by omega)), c_stuckIn ht hn hv2 hv (by omega), Option.bind_some]
      cases hs : stk (ct n v) a with
      | none =>
        obtain ⟨d1, d2, -⟩ := stk_none hs
        have hd := dg_le (ct n v a)
        rw [psK_n (by omega) hs]
        dsimp only
        rw [if_pos rfl, rh ht, Option.bind_some, c_ct ht hn hv2 hv (by omega), Option.bind_some, c_length, Option.bind_some, n_add, n_s, ← Nat.add_assoc]
        exact ih (a + dg (ct n v a) + 2) (q + 1) m (by omega) (by omega) (by omega) (by omega)
      | some j =>
        have hj := stk_lt hs
        rw [psK_s (by omega) hs]
        dsimp only
        rw [if_neg]
        intro z
        have := congrArg Int32.toInt z
        rw [Int32.toInt_ofNat_of_lt (by omega)] at this
        have e : (-1 : Int32).toInt = -1 := rfl
        omega
end TXT
