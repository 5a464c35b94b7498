/-! The number that a law gives. -/
section NUM
variable {A V : Nat → Nat → Int32} {R : Nat → Nat → Option Nat} {B : Nat → Nat → Int64} {J : List En}
/-- a counted loop that may end early -/
theorem lp {S T : Type} (F : Nat → S → Int32 → Option T) (I : Nat → S → Prop) (Q : T → Prop) (N : Nat)
    (hs : ∀ n i s, i < N → I i s → (∃ r, F (n + 1) s (nN i) = some r ∧ Q r) ∨ ∃ s', F (n + 1) s (nN i) = F n s' (nN i + 1) ∧ I (i + 1) s')
    (he : ∀ n s, I N s → ∃ r, F (n + 1) s (nN N) = some r ∧ Q r) :
    ∀ (k i n : Nat) (s : S), i + k = N → I i s → ∃ r, F (n + k + 1) s (nN i) = some r ∧ Q r := by
  intro k
  induction k with
  | zero =>
    intro i n s h p
    have h : i = N := h
    subst h
    exact he n s p
  | succ k ih =>
    intro i n s h p
    rcases hs (n + k + 1) i s (by omega) p with h1 | ⟨s', e1, e2⟩
    · exact h1
    · rw [n_s] at e1
      obtain ⟨r, e3, e4⟩ := ih (i + 1) n s' (by omega) e2
      exact ⟨r, e1.trans e3, e4⟩
theorem lpF {S T : Type} (F : Nat → S → Int32 → Option T) (I : Nat → S → Prop) (Q : T → Prop) (N : Nat) {i : Nat} {s : S} (hi : i ≤ N) (hN : N < 10000) (h0 : I i s)
    (hs : ∀ n i s, i < N → I i s → (∃ r, F (n + 1) s (nN i) = some r ∧ Q r) ∨ ∃ s', F (n + 1) s (nN i) = F n s' (nN i + 1) ∧ I (i + 1) s')
    (he : ∀ n s, I N s → ∃ r, F (n + 1) s (nN N) = some r ∧ Q r) : ∃ r, F 10000 s (nN i) = some r ∧ Q r := by
  have h := lp F I Q N hs he (N - i) i (9999 - (N - i)) s (by omega) h0
  rwa [show 9999 - (N - i) + (N - i) + 1 = 10000 by omega] at h
/-- whether one of the first p plots has number v -/
def hb (N : Nat → Nat) (v : Nat) : Nat → Bool
  | 0 => false
  | p + 1 => hb N v p || decide (N p = v)
theorem hb_t {N : Nat → Nat} {v : Nat} : ∀ p, hb N v p = true ↔ ∃ q, q < p ∧ N q = v
  | 0 => ⟨fun h => (by cases h), fun ⟨q, h, _⟩ => absurd h (Nat.not_lt_zero q)⟩
  | p + 1 => by
    show (hb N v p || decide (N p = v)) = true ↔ _
    rw [Bool.or_eq_true, hb_t p, decide_eq_true_eq]
    constructor
    · rintro (⟨q, h1, h2⟩ | h)
      · exact ⟨q, by omega, h2⟩
      · exact ⟨p, by omega, h⟩
    · rintro ⟨q, h1, h2⟩
      by_cases c : q = p
      · exact Or.inr (c ▸ h2)
      · exact Or.inl ⟨q, by omega, h2⟩
theorem hb_f {N : Nat → Nat} {v p : Nat} : hb N v p = false ↔ ∀ q, q < p → N q ≠ v := by
  rw [← Bool.not_eq_true, hb_t]
  exact ⟨fun h q h1 h2 => h ⟨q, h1, h2⟩, fun h ⟨q, h1, h2⟩ => h q h1 h2⟩
/-- the first number from v on that none of twelve has, looked for so many times -/
def gpF (N : Nat → Nat) : Nat → Nat → Nat
  | 0, v => v
  | k + 1, v => if hb N v 12 = true then gpF N k (v + 1) else v
def gp (N : Nat → Nat) : Nat := gpF N 12 1
theorem gpF_le (N : Nat → Nat) : ∀ k v, v ≤ gpF N k v ∧ gpF N k v ≤ v + k
  | 0, v => ⟨Nat.le_refl _, Nat.le_refl _⟩
  | k + 1, v => by
    have h := gpF_le N k (v + 1)
    show v ≤ (if hb N v 12 = true then gpF N k (v + 1) else v) ∧ (if hb N v 12 = true then gpF N k (v + 1) else v) ≤ v + (k + 1)
    split <;> omega
theorem gp_le (N : Nat → Nat) : 1 ≤ gp N ∧ gp N ≤ 13 := gpF_le N 12 1
/-- how many of the first p plots have number v; a number from 1 to k -/
def cq (N : Nat → Nat) (v : Nat) : Nat → Nat
  | 0 => 0
  | p + 1 => cq N v p + if N p = v then 1 else 0
def cs (N : Nat → Nat) (k : Nat) : Nat → Nat
  | 0 => 0
  | p + 1 => cs N k p + if 1 ≤ N p ∧ N p ≤ k then 1 else 0
theorem cs_le (N : Nat → Nat) (k : Nat) : ∀ p, cs N k p ≤ p
  | 0 => Nat.le_refl _
  | p + 1 => by
    have := cs_le N k p
    show cs N k p + (if 1 ≤ N p ∧ N p ≤ k then 1 else 0) ≤ p + 1
    split <;> omega
theorem cs_s (N : Nat → Nat) (k : Nat) : ∀ p, cs N (k + 1) p = cs N k p + cq N (k + 1) p
  | 0 => rfl
  | p + 1 => by
    have := cs_s N k p
    show cs N (k + 1) p + (if 1 ≤ N p ∧ N p ≤ k + 1 then 1 else 0) = cs N k p + (if 1 ≤ N p ∧ N p ≤ k then 1 else 0) + (cq N (k + 1) p + (if N p = k + 1 then 1 else 0))
    by_cases c1 : N p = k + 1
    · rw [if_pos (by omega), if_neg (by omega), if_pos c1]; omega
    · rw [if_neg c1]
      by_cases c2 : 1 ≤ N p ∧ N p ≤ k
      · rw [if_pos c2, if_pos (by omega)]; omega
      · rw [if_neg c2, if_neg (by omega)]; omega
theorem cq_pos {N : Nat → Nat} {v : Nat} : ∀ p, hb N v p = true → 1 ≤ cq N v p
  | 0, h => by cases h
  | p + 1, h => by
    show 1 ≤ cq N v p + (if N p = v then 1 else 0)
    by_cases c : N p = v
    · rw [if_pos c]; omega
    · have h' : (hb N v p || decide (N p = v)) = true := h
      rw [decide_eq_false c, Bool.or_false] at h'
      have := cq_pos p h'
      omega
theorem cs_all {N : Nat → Nat} : ∀ k, (∀ v, 1 ≤ v → v ≤ k → hb N v 12 = true) → k ≤ cs N k 12
  | 0, _ => Nat.zero_le _
  | k + 1, h => by
    have h1 := cs_all k (fun v a b => h v a (by omega))
    have h2 := cq_pos 12 (h (k + 1) (by omega) (by omega))
    rw [cs_s]
    omega
theorem hb_13 {N : Nat → Nat} (h : ∀ v, 1 ≤ v → v ≤ 12 → hb N v 12 = true) : hb N 13 12 = false := by
  cases c : hb N 13 12
  · rfl
  · have h1 := cs_all (N := N) 13 (fun v a b => by
      by_cases e : v = 13
      · rw [e]; exact c
      · exact h v a (by omega))
    have h2 := cs_le N 13 12
    omega
theorem or_and' (a b c : Int32) : (a ||| b) &&& c = (a &&& c) ||| (b &&& c) := by
  apply Int32.toBitVec_inj.mp
  exact BitVec.and_or_distrib_right
theorem bt_tab : ∀ v, v < 13 → ∀ w, w < 13 → ((((1 : Int32) <<< (nN w &&& 31)) &&& ((1 : Int32) <<< (nN v &&& 31))) = 0 ↔ w ≠ v) := by decide +kernel
theorem c_leastFree {t : Nat} {N : Nat → Nat} (ht : isSt t) (hN : ∀ p, p < 12 → N p < 1000 ∧ A (t + 1) p = nN (N p)) : f_X8_leastFree (mk A V R B J) t = some (nN (gp N)) := by
  have h2 : ∀ s : Int32, (∀ v, 1 ≤ v → v ≤ 12 → ((s &&& ((1 : Int32) <<< (nN v &&& 31))) = 0 ↔ hb N v 12 = false)) → ∃ r, f_X8_leastFree_40 (mk A V R B J) t 10000 s (nN 1) = some r ∧ r = nN (gp N) := by
    intro s hs
    refine lpF (S := Unit) (fun n _ i => f_X8_leastFree_40 (mk A V R B J) t n s i) (fun i _ => 1 ≤ i ∧ gpF N (13 - i) i = gp N) (fun r => r = nN (gp N)) 13 (i := 1) (s := ()) (by decide) (by decide) ⟨Nat.le_refl _, rfl⟩ ?_ ?_
    · intro n i _ hi ⟨h1, hg⟩
      have e1 : ¬ (12 : Int32) < nN i := fun q => by
        rw [show (12 : Int32) = nN 12 from rfl, n_lt (by decide) (by omega)] at q
        omega
      obtain ⟨k, hk⟩ : ∃ k, 13 - i = k + 1 := ⟨12 - i, by omega⟩
      rw [hk] at hg
      have hg' : (if hb N i 12 = true then gpF N k (i + 1) else i) = gp N := hg
      rw [f_X8_leastFree_40, if_neg e1]
      by_cases c : hb N i 12 = true
      · rw [if_pos c] at hg'
        have : ¬ (s &&& ((1 : Int32) <<< (nN i &&& 31))) = 0 := fun q => by
          rw [(hs i h1 (by omega)).mp q] at c
          cases c
        rw [if_neg this]
        exact Or.inr ⟨(), rfl, by omega, by rw [show 13 - (i + 1) = k by omega]; exact hg'⟩
      · rw [if_neg c] at hg'
        have : (s &&& ((1 : Int32) <<< (nN i &&& 31))) = 0 := (hs i h1 (by omega)).mpr (by rwa [Bool.not_eq_true] at c)
        rw [if_pos this]
        exact Or.inl ⟨_, rfl, by rw [hg']⟩
    · intro n _ ⟨_, hg⟩
      rw [f_X8_leastFree_40, if_pos (by decide)]
      have hg' : 13 = gp N := hg
      exact ⟨_, rfl, by rw [← hg']; rfl⟩
  have h1 : ∃ r, f_X8_leastFree_4 (mk A V R B J) t 10000 0 (nN 0) = some r ∧ r = nN (gp N) := by
    refine lpF (fun n s i => f_X8_leastFree_4 (mk A V R B J) t n s i) (fun i s => ∀ v, 1 ≤ v → v ≤ 12 → ((s &&& ((1 : Int32) <<< (nN v &&& 31))) = 0 ↔ hb N v i = false)) (fun r => r = nN (gp N)) 12 (i := 0) (s := 0) (by decide) (by decide) ?_ ?_ ?_
    · intro v _ _
      rw [Int32.zero_and]
      exact ⟨fun _ => rfl, fun _ => rfl⟩
    · intro n i s hi hs
      obtain ⟨b1, b2⟩ := hN i hi
      refine Or.inr ?_
      have g12 : ¬ (12 : Int32) ≤ nN i := fun q => by rw [ge12 hi] at q; exact q
      rw [f_X8_leastFree_4, if_neg g12, gs_0 ht, Option.bind_some, as_0 ht, ib12 hi, if_pos rfl, Option.bind_some, c12 hi, b2]
      by_cases c : 12 < N i
      · have e1 : (12 : Int32) < nN (N i) := by rw [show (12 : Int32) = nN 12 from rfl, n_lt (by decide) (by omega)]; exact c
        rw [if_pos e1]
        refine ⟨s, rfl, fun v v1 v2 => (hs v v1 v2).trans ?_⟩
        show hb N v i = false ↔ (hb N v i || decide (N i = v)) = false
        rw [decide_eq_false (by omega), Bool.or_false]
      · have e1 : ¬ (12 : Int32) < nN (N i) := fun q => by
          rw [show (12 : Int32) = nN 12 from rfl, n_lt (by decide) (by omega)] at q
          omega
        rw [if_neg e1, Option.bind_some, as_0 ht, ib12 hi, if_pos rfl, Option.bind_some, c12 hi, b2]
        refine ⟨s ||| ((1 : Int32) <<< (nN (N i) &&& 31)), rfl, fun v v1 v2 => ?_⟩
        show _ ↔ (hb N v i || decide (N i = v)) = false
        rw [or_and', Int32.or_eq_zero_iff, hs v v1 v2, bt_tab v (by omega) (N i) (by omega), Bool.or_eq_false_iff, decide_eq_false_iff_not]
    · intro n s hs
      rw [f_X8_leastFree_4, if_pos (by decide)]
      exact h2 s hs
  obtain ⟨r, e1, e2⟩ := h1
  rw [e2] at e1
  exact e1
theorem m_isHadN {N : Nat → Nat} (hN : ∀ p, p < 12 → N p < 1000 ∧ A 49 p = nN (N p)) {v : Nat} (hv : v < 2147483648) : f_X11_isHad (mk A V R B J) 45 (nN v) = some (if hb N v 12 = true then 1 else 0) := by
  obtain ⟨b, e1, e2, e3⟩ := m_isHad (A := A) (V := V) (R := R) (B := B) (J := J) (x := nN v)
  rw [e1]
  have e4 : (∀ p, p < 12 → A 49 p ≠ nN v) ↔ hb N v 12 = false := by
    rw [hb_f]
    constructor
    · intro h q hq hv'
      refine h q hq ?_
      rw [(hN q hq).2, hv']
    · intro h q hq hv'
      rw [(hN q hq).2, n_eq (by have := (hN q hq).1; omega) hv] at hv'
      exact h q hq hv'
  by_cases c : hb N v 12 = true
  · rw [if_pos c]
    rcases e2 with e2 | e2
    · have := e4.mp (e3.mp e2)
      rw [c] at this
      cases this
    · rw [e2]
  · rw [if_neg c]
    rw [Bool.not_eq_true] at c
    rw [e3.mpr (e4.mpr c)]
theorem m_firstGap {N : Nat → Nat} (hN : ∀ p, p < 12 → N p < 1000 ∧ A 49 p = nN (N p)) : f_X11_firstGap (mk A V R B J) 45 = some (nN (gp N)) := by
  have h2 : ∃ r, f_X11_firstGap_2 (mk A V R B J) 45 10000 (nN 1) = some r ∧ r = nN (gp N) := by
    refine lpF (S := Unit) (fun n _ i => f_X11_firstGap_2 (mk A V R B J) 45 n i) (fun i _ => 1 ≤ i ∧ (gpF N (13 - i) i = gp N ∧ ∀ v, 1 ≤ v → v < i → hb N v 12 = true)) (fun r => r = nN (gp N)) 13 (i := 1) (s := ()) (by decide) (by decide) ⟨Nat.le_refl _, rfl, fun v a b => by omega⟩ ?_ ?_
    · intro n i _ hi ⟨h1, hg, ha⟩
      obtain ⟨k, hk⟩ : ∃ k, 13 - i = k + 1 := ⟨12 - i, by omega⟩
      rw [hk] at hg
      have hg' : (if hb N i 12 = true then gpF N k (i + 1) else i) = gp N := hg
      rw [f_X11_firstGap_2, rm, Option.bind_some, m_isHadN hN (by omega), Option.bind_some]
      by_cases c : hb N i 12 = true
      · rw [if_pos c] at hg'
        rw [if_pos c, if_neg (by decide)]
        refine Or.inr ⟨(), rfl, by omega, by rw [show 13 - (i + 1) = k by omega]; exact hg', fun v a b => ?_⟩
        by_cases e : v = i
        · rw [e]; exact c
        · exact ha v a (by omega)
      · rw [if_neg c] at hg'
        rw [if_neg c, if_pos rfl]
        exact Or.inl ⟨_, rfl, by rw [hg']⟩
    · intro n _ ⟨_, hg, ha⟩
      have hg' : 13 = gp N := hg
      rw [f_X11_firstGap_2, rm, Option.bind_some, m_isHadN hN (by decide), Option.bind_some, hb_13 (fun v a b => ha v a (by omega)), if_neg (show ¬ (false = true) by decide), if_pos rfl]
      exact ⟨_, rfl, by rw [← hg']⟩
  obtain ⟨r, e1, e2⟩ := h2
  rw [e2] at e1
  exact e1
/-- the so many-th number that isn't skipped -/
def skS (n f : Nat) : Nat := if f < 2 then n else n + (n - 1) / (f - 1)
theorem skip_h (h : Hp) : ∀ (n : Nat) (a b c : Int32), f_X11_skipped_4 h n a b c = f_X11_skipped_4 [] n a b c := by
  intro n
  induction n with
  | zero => intro a b c; rfl
  | succ n ih =>
    intro a b c
    simp only [f_X11_skipped_4, f_X11_skipped_23, f_X11_skipped_28, ih]
theorem skip_tab : ∀ f, f < 10 → ∀ n, n < 32 → f_X11_skipped_4 [] 10000 (nN f) (nN n) 0 = some (nN (skS n f)) := by decide +kernel
theorem m_skippedN {h : Hp} {n f : Nat} (hn : n < 32) (hf : f ≤ 9) : f_X11_skipped h (nN n) (nN f) = some (nN (skS n f)) := by
  unfold f_X11_skipped
  rw [skip_h]
  exact skip_tab f (by omega) n hn
theorem c_skip_tab : ∀ f, f < 10 → ∀ n, n < 32 → 2 ≤ f → 1 ≤ n → ((dvI (nN n - 1) (nN f - 1)).bind fun v34 => some (nN n + v34)) = some (nN (skS n f)) := by decide +kernel
end NUM
