/-! rise -/
section RIS
variable {A V : Nat → Nat → Int32} {R : Nat → Nat → Option Nat} {B : Nat → Nat → Int64} {J : List En}
theorem le_y {a b : Nat} (h : a ≤ b) (hb : b < 2147483648) : nN a ≤ nN b := by
  rw [n_le (by omega) hb]
  exact h
theorem le_n {a b : Nat} (h : b < a) (ha : a < 2147483648) : ¬ nN a ≤ nN b := fun q => by
  rw [n_le ha (by omega)] at q
  omega
theorem lt_y {a b : Nat} (h : a < b) (hb : b < 2147483648) : nN a < nN b := by
  rw [n_lt (by omega) hb]
  exact h
theorem lt_n {a b : Nat} (h : b ≤ a) (ha : a < 2147483648) : ¬ nN a < nN b := fun q => by
  rw [n_lt ha (by omega)] at q
  omega
theorem eq_n' {a b : Nat} (h : a ≠ b) (ha : a < 2147483648) (hb : b < 2147483648) : ¬ nN a = nN b := fun q => by
  rw [n_eq ha hb] at q
  exact h q
theorem le0_n {a : Nat} (h : a ≠ 0) (ha : a < 2147483648) : ¬ nN a ≤ 0 := fun q => by
  rw [nN_le0 ha] at q
  exact h q
theorem le0_y {a : Nat} (h : a = 0) : nN a ≤ 0 := by
  rw [h]
  decide
/-- the greatest rise ahead that ends in a number below v -/
def mB (N r : Nat → Nat) (v : Nat) : Nat → Nat
  | 0 => 0
  | q + 1 => max (mB N r v q) (if N q < v then r q else 0)
/-- the rises to the first plots -/
def rT (N : Nat → Nat) : Nat → Nat → Nat
  | 0 => fun _ => 0
  | p + 1 => upN (rT N p) p (if N p = 0 then 0 else 1 + mB N (rT N p) (N p) p)
theorem mB_le {N r : Nat → Nat} {v : Nat} : ∀ p, (∀ q, q < p → r q ≤ q + 1) → mB N r v p ≤ p
  | 0, _ => Nat.le_refl _
  | p + 1, h => by
    have h1 := mB_le (N := N) (v := v) p (fun q hq => h q (by omega))
    have h2 := h p (by omega)
    show max (mB N r v p) (if N p < v then r p else 0) ≤ p + 1
    split <;> omega
theorem rT_le {N : Nat → Nat} : ∀ p q, q < p → rT N p q ≤ q + 1 ∧ (N q = 0 → rT N p q = 0)
  | 0, q, h => by omega
  | p + 1, q, h => by
    show upN (rT N p) p (if N p = 0 then 0 else 1 + mB N (rT N p) (N p) p) q ≤ q + 1 ∧ (N q = 0 → upN (rT N p) p (if N p = 0 then 0 else 1 + mB N (rT N p) (N p) p) q = 0)
    by_cases c : q = p
    · subst c
      have hm := mB_le (N := N) (r := rT N q) (v := N q) q (fun q' h' => (rT_le q q' h').1)
      rw [upN_eq]
      by_cases d : N q = 0
      · rw [if_pos d]
        exact ⟨by omega, fun _ => rfl⟩
      · rw [if_neg d]
        exact ⟨by omega, fun z => absurd z d⟩
    · rw [upN_ne c]
      exact rT_le p q (by omega)
theorem gN_cong {N M : Nat → Nat} : ∀ p, (∀ q, q < p → N q = M q) → gN N p = gN M p
  | 0, _ => rfl
  | p + 1, h => by
    show max (gN N p) (N p) = max (gN M p) (M p)
    rw [gN_cong p (fun q hq => h q (by omega)), h p (by omega)]
theorem rT_gN {N : Nat → Nat} {p : Nat} : gN (rT N (p + 1)) (p + 1) = max (gN (rT N p) p) (if N p = 0 then 0 else 1 + mB N (rT N p) (N p) p) := by
  show max (gN (rT N (p + 1)) p) (rT N (p + 1) p) = _
  rw [gN_cong (N := rT N (p + 1)) (M := rT N p) p (fun q hq => (upN_ne (by omega) : rT N (p + 1) q = rT N p q))]
  show max (gN (rT N p) p) (upN (rT N p) p (if N p = 0 then 0 else 1 + mB N (rT N p) (N p) p) p) = _
  rw [upN_eq]
theorem rT_gN_le {N : Nat → Nat} {p : Nat} : gN (rT N p) p < p + 1 :=
  gN_lt _ _ (by omega) p (fun q hq => by have := (rT_le (N := N) p q hq).1; omega)
theorem n_max {a b : Nat} (ha : a < 2147483648) (hb : b < 2147483648) : mxI (nN a) (nN b) = nN (max a b) := by
  unfold mxI
  by_cases c : a < b
  · rw [if_pos (by rw [n_lt ha hb]; exact c), Nat.max_eq_right (by omega)]
  · rw [if_neg (by rw [n_lt ha hb]; exact c), Nat.max_eq_left (by omega)]
theorem c_below {t p : Nat} {N r : Nat → Nat} (ht : isSt t) (hp : p < 12) (hN : ∀ p, p < 12 → N p < 1000 ∧ A (t + 1) p = nN (N p)) (hr : ∀ q, q < p → r q ≤ q + 1 ∧ A (t + 7) q = nN (r q)) : f_X8_longestRiseBelow (mk A V R B J) t (nN p) = some (nN (mB N r (N p) p)) := by
  have h : ∃ y, f_X8_longestRiseBelow_4 (mk A V R B J) t 10000 (nN p) 0 (nN 0) = some y ∧ y = nN (mB N r (N p) p) := by
    refine lpF (fun n s i => f_X8_longestRiseBelow_4 (mk A V R B J) t n (nN p) s i) (fun i s => s = nN (mB N r (N p) i)) (fun y => y = nN (mB N r (N p) p)) p (i := 0) (s := 0) (by omega) (by omega) rfl ?_ ?_
    · intro n i s hi hs
      refine Or.inr ?_
      have ne : ¬ nN p ≤ nN i := fun q => by
        rw [n_le (by omega) (by omega)] at q
        omega
      have g12 : ¬ (12 : Int32) ≤ nN i := fun q => by rw [ge12 (by omega)] at q; exact q
      have b1 := hN i (by omega)
      have b2 := hN p hp
      have hm := mB_le (N := N) (r := r) (v := N p) i (fun q hq => (hr q (by omega)).1)
      have hri := hr i hi
      rw [f_X8_longestRiseBelow_4, if_neg ne, if_neg g12, gs_0 ht, Option.bind_some, as_0 ht, ib12 (by omega), if_pos rfl, Option.bind_some, c12 (by omega), rs ht, Option.bind_some, c_numberAt ht hp (plot_p hp).1, Option.bind_some, b1.2, b2.2]
      unfold f_X8_longestRiseBelow_40
      refine ⟨nN (max (mB N r (N p) i) (if N i < N p then r i else 0)), ?_, rfl⟩
      by_cases c : N i < N p
      · rw [if_neg (le_n c (by omega)), if_pos c, gs_6 ht, Option.bind_some, as_6 ht, ib12 (by omega), if_pos rfl, Option.bind_some, c12 (by omega), hs, hri.2, n_max (by omega) (by omega)]
      · rw [if_pos (le_y (by omega) (by omega)), if_neg c, hs, Nat.max_eq_left (Nat.zero_le _)]
    · intro n s hs
      rw [f_X8_longestRiseBelow_4, if_pos (Int32.le_refl _)]
      exact ⟨s, rfl, hs⟩
  obtain ⟨y, e1, e2⟩ := h
  rw [e2] at e1
  exact e1
theorem c_rise {t : Nat} {N : Nat → Nat} (ht : isSt t) (hN : ∀ p, p < 12 → N p < 1000 ∧ A (t + 1) p = nN (N p)) : ∃ f, f_X8_longestRise (mk A V R B J) t = some (nN (gN (rT N 12) 12), mk (upA A (t + 7) f) V R B J) := by
  have h : ∃ y, f_X8_longestRise_4 t 10000 (mk (upA A (t + 7) (A (t + 7))) V R B J) 0 (nN 0) = some y ∧ ∃ f, y = (nN (gN (rT N 12) 12), mk (upA A (t + 7) f) V R B J) := by
    refine lpF (fun n (s : Int32 × (Nat → Int32)) i => f_X8_longestRise_4 t n (mk (upA A (t + 7) s.2) V R B J) s.1 i) (fun i s => s.1 = nN (gN (rT N i) i) ∧ ∀ q, q < i → s.2 q = nN (rT N i q)) (fun y => ∃ f, y = (nN (gN (rT N 12) 12), mk (upA A (t + 7) f) V R B J)) 12 (i := 0) (s := (0, A (t + 7))) (by omega) (by omega) ⟨rfl, fun q hq => absurd hq (Nat.not_lt_zero q)⟩ ?_ ?_
    · rintro n i ⟨s1, s2⟩ hi ⟨h1, h2⟩
      refine Or.inr ?_
      have h1 : s1 = nN (gN (rT N i) i) := h1
      have h2 : ∀ q, q < i → s2 q = nN (rT N i q) := h2
      have g12 : ¬ (12 : Int32) ≤ nN i := fun q => by rw [ge12 hi] at q; exact q
      obtain ⟨b1, b2⟩ := hN i hi
      have hg := rT_gN_le (N := N) (p := i)
      have hm := mB_le (N := N) (r := rT N i) (v := N i) i (fun q hq => (rT_le i q hq).1)
      have a1 : ∀ f, upA A (t + 7) f (t + 1) = A (t + 1) := fun f => uA_ne (by omega)
      show ∃ s', f_X8_longestRise_4 t (n + 1) (mk (upA A (t + 7) s2) V R B J) s1 (nN i) = _ ∧ _
      refine ⟨(nN (gN (rT N (i + 1)) (i + 1)), upd s2 i (nN (rT N (i + 1) i))), ?_, rfl, fun q hq => ?_⟩
      · rw [f_X8_longestRise_4, if_neg g12, gs_6 ht, Option.bind_some, ws_6 ht, ib12 hi, if_pos rfl, Option.bind_some, c12 hi, uA_uA, uA_eq, gs_0 ht, Option.bind_some, as_0 ht, ib12 hi, if_pos rfl, Option.bind_some, c12 hi, a1, b2, rT_gN]
        unfold f_X8_longestRise_39
        have er : rT N (i + 1) i = if N i = 0 then 0 else 1 + mB N (rT N i) (N i) i := upN_eq
        rw [er]
        by_cases d : N i = 0
        · rw [if_pos d, d, if_pos (show nN 0 = 0 from rfl), gs_6 ht, Option.bind_some, as_6 ht, ib12 hi, if_pos rfl, Option.bind_some, c12 hi, uA_eq, upd_eq, h1, show (0 : Int32) = nN 0 from rfl, n_max (by omega) (by omega)]
        · have hb := c_below (A := upA A (t + 7) (upd s2 i 0)) (V := V) (R := R) (B := B) (J := J) (N := N) (r := rT N i) ht hi (fun p hp => ⟨(hN p hp).1, by rw [a1]; exact (hN p hp).2⟩) (fun q hq => ⟨(rT_le i q hq).1, by rw [uA_eq, upd_ne (by omega)]; exact h2 q hq⟩)
          have e1 : (1 : Int32) + nN (mB N (rT N i) (N i) i) = nN (1 + mB N (rT N i) (N i) i) := n_add 1 _
          have uu : upd (upd s2 i 0) i (nN (1 + mB N (rT N i) (N i) i)) = upd s2 i (nN (1 + mB N (rT N i) (N i) i)) := by
            funext j
            by_cases c : j = i
            · subst c; rw [upd_eq, upd_eq]
            · rw [upd_ne c, upd_ne c, upd_ne c]
          rw [if_neg d, if_neg (n_ne0 d (by omega)), gs_6 ht, Option.bind_some, rs ht, Option.bind_some, hb, Option.bind_some, e1, ws_6 ht, ib12 hi, if_pos rfl, Option.bind_some, c12 hi, uA_uA, uA_eq, uu, gs_6 ht, Option.bind_some, as_6 ht, ib12 hi, if_pos rfl, Option.bind_some, c12 hi, uA_eq, upd_eq, h1, n_max (by omega) (by omega)]
      · show upd s2 i (nN (rT N (i + 1) i)) q = nN (rT N (i + 1) q)
        by_cases c : q = i
        · subst c; exact upd_eq
        · rw [upd_ne c, h2 q (by omega)]
          exact congrArg nN (upN_ne c).symm
    · rintro n ⟨s1, s2⟩ ⟨h1, h2⟩
      have h1 : s1 = nN (gN (rT N 12) 12) := h1
      show ∃ r, f_X8_longestRise_4 t (n + 1) (mk (upA A (t + 7) s2) V R B J) s1 (nN 12) = some r ∧ _
      rw [f_X8_longestRise_4, if_pos (show (12 : Int32) ≤ nN 12 from Int32.le_refl _)]
      exact ⟨_, rfl, s2, by rw [h1]⟩
  obtain ⟨y, e1, f, e2⟩ := h
  rw [e2, uA_id] at e1
  exact ⟨f, e1⟩
theorem lpE {S T : Type} (F : Nat → S → Int32 → Option T) (I : Nat → S → Prop) (G : Option T → Prop) (N : Nat) {i : Nat} {s : S} (hi : i ≤ N) (hN : N < 10000) (h0 : I i s)
    (hs : ∀ n i s, i < N → I i s → G (F (n + 1) s (nN i)) ∨ ∃ s', F (n + 1) s (nN i) = F n s' (nN i + 1) ∧ I (i + 1) s')
    (he : ∀ n s, I N s → G (F (n + 1) s (nN N))) : G (F 10000 s (nN i)) := by
  have key : ∀ (k i n : Nat) (s : S), i + k = N → I i s → G (F (n + k + 1) s (nN i)) := by
    intro k
    induction k with
    | zero =>
      intro i n s h p
      have h : i = N := h
      subst h
      exact he n s p
    | succ k ih =>
      intro i n s h p
      rcases hs (n + k + 1) i s (by omega) p with h1 | ⟨s', e1, e2⟩
      · exact h1
      · rw [n_s] at e1
        show G (F ((n + k + 1) + 1) s (nN i))
        rw [e1]
        exact ih (i + 1) n s' (by omega) e2
  have h := key (N - i) i (9999 - (N - i)) s (by omega) h0
  rwa [show 9999 - (N - i) + (N - i) + 1 = 10000 by omega] at h
theorem m_rise128 {k4 : Hp → Int32 → Int32 → Option (Int32 × Hp)} {p a b : Nat} {s : Nat → Int32} (hp : p < 12) (ha : a < 1000) (hb : b < 1000) (hs : s p = nN b) : f_X11_riseLooked_128 45 k4 (mk (upA A 57 s) V R B J) (nN a) (nN p) = k4 (mk (upA A 57 s) V R B J) (nN (max a b)) (nN p + 1) := by
  unfold f_X11_riseLooked_128 f_X11_riseLooked_148
  rw [gm_24, Option.bind_some, am_57, ib12 hp, if_pos rfl, Option.bind_some, c12 hp, uA_eq, hs]
  by_cases c : b ≤ a
  · rw [if_pos (le_y c (by omega)), Nat.max_eq_left c]
  · rw [if_neg (le_n (by omega) (by omega)), Option.bind_some, am_57, ib12 hp, if_pos rfl, Option.bind_some, c12 hp, uA_eq, hs, Nat.max_eq_right (by omega)]
theorem m_rise32 {k4 : Hp → Int32 → Int32 → Option (Int32 × Hp)} {p a : Nat} {N r : Nat → Nat} {s : Nat → Int32} (hp : p < 12) (ha : a < 500) (hN : ∀ p, p < 12 → N p < 1000 ∧ A 49 p = nN (N p)) (hr : ∀ q, q < p → r q ≤ q + 1 ∧ (N q = 0 → r q = 0)) (hs : (∀ q, q < p → s q = nN (r q)) ∧ s p = if N p = 0 then 0 else 1) :
    ∃ s', (∀ q, q < p → s' q = nN (r q)) ∧ (s' p = nN (if N p = 0 then 0 else 1 + mB N r (N p) p) ∧ f_X11_riseLooked_32 45 k4 10000 (mk (upA A 57 s) V R B J) (nN a) (nN p) (nN 0) = k4 (mk (upA A 57 s') V R B J) (nN (max a (if N p = 0 then 0 else 1 + mB N r (N p) p))) (nN p + 1)) := by
  have a49 : ∀ s : Nat → Int32, upA A 57 s 49 = A 49 := fun s => uA_ne (by decide)
  have b2 := hN p hp
  by_cases d : N p = 0
  · have e := hs.2
    rw [if_pos d] at e
    refine ⟨s, hs.1, by rw [if_pos d]; exact e, ?_⟩
    rw [if_pos d, ← m_rise128 (A := A) (V := V) (R := R) (B := B) (J := J) (k4 := k4) (a := a) (b := 0) hp (by omega) (by decide) e]
    show f_X11_riseLooked_32 45 k4 (9999 + 1) _ _ _ _ = _
    rw [f_X11_riseLooked_32]
    by_cases c : nN p ≤ nN 0
    · rw [if_pos c]
    · rw [if_neg c, gm_7, Option.bind_some, am_49, ib12 hp, if_pos rfl, Option.bind_some, c12 hp, a49, b2.2, d, if_pos (show nN 0 ≤ 0 by decide)]
  · refine lpE (fun n (s : Nat → Int32) i => f_X11_riseLooked_32 45 k4 n (mk (upA A 57 s) V R B J) (nN a) (nN p) i) (fun i s => (∀ q, q < p → s q = nN (r q)) ∧ s p = nN (1 + mB N r (N p) i)) (fun o => ∃ s', (∀ q, q < p → s' q = nN (r q)) ∧ (s' p = nN (if N p = 0 then 0 else 1 + mB N r (N p) p) ∧ o = k4 (mk (upA A 57 s') V R B J) (nN (max a (if N p = 0 then 0 else 1 + mB N r (N p) p))) (nN p + 1))) p (i := 0) (s := s) (by omega) (by omega) ⟨hs.1, hs.2.trans (by rw [if_neg d]; rfl)⟩ ?_ ?_
    · intro n i s hi ⟨h1, h2⟩
      refine Or.inr ?_
      have hi12 : i < 12 := by omega
      have b1 := hN i hi12
      have hri := hr i hi
      have hm := mB_le (N := N) (r := r) (v := N p) i (fun q hq => (hr q (by omega)).1)
      have ne : ¬ nN p ≤ nN i := fun q => by
        rw [n_le (by omega) (by omega)] at q
        omega
      have zp : ¬ nN (N p) ≤ 0 := fun q => by
        rw [nN_le0 (by omega)] at q
        exact d q
      have same : ∀ K : Hp → Int32 → Int32 → Int32 → Option (Int32 × Hp), mB N r (N p) (i + 1) = mB N r (N p) i → f_X11_riseLooked_91 45 k4 K (mk (upA A 57 s) V R B J) (nN a) (nN p) (nN i) = K (mk (upA A 57 s) V R B J) (nN a) (nN p) (nN i + 1) := fun K _ => by
        unfold f_X11_riseLooked_91 f_X11_riseLooked_92 f_X11_riseLooked_121
        rw [gm_24, Option.bind_some, if_pos rfl, Option.bind_some, am_57, ib12 hp, if_pos rfl, Option.bind_some, c12 hp, uA_eq, wm_57, ib12 hp, if_pos rfl, Option.bind_some, c12 hp, uA_eq, uA_uA, upd_self]
      have mS : mB N r (N p) (i + 1) = max (mB N r (N p) i) (if N i < N p then r i else 0) := rfl
      rw [f_X11_riseLooked_32, if_neg ne, gm_7, Option.bind_some, am_49, ib12 hp, if_pos rfl, Option.bind_some, c12 hp, a49, b2.2, if_neg zp, Option.bind_some, am_49, ib12 hi12, if_pos rfl, Option.bind_some, c12 hi12, a49, b1.2]
      by_cases c0 : N i = 0
      · have hm1 : mB N r (N p) (i + 1) = mB N r (N p) i := by
          rw [mS, if_pos (by omega), hri.2 c0, Nat.max_eq_left (Nat.zero_le _)]
        rw [if_pos (le0_y c0), same _ hm1]
        exact ⟨s, rfl, h1, by rw [hm1]; exact h2⟩
      · rw [if_neg (le0_n c0 (by omega)), Option.bind_some, am_49, ib12 hi12, if_pos rfl, Option.bind_some, c12 hi12, a49, b1.2, Option.bind_some, am_49, ib12 hp, if_pos rfl, Option.bind_some, c12 hp, a49, b2.2]
        by_cases c1 : N i < N p
        · have hm1 : mB N r (N p) (i + 1) = max (mB N r (N p) i) (r i) := by rw [mS, if_pos c1]
          rw [if_neg (le_n c1 (by omega)), gm_24, Option.bind_some, am_57, ib12 hi12, if_pos rfl, Option.bind_some, c12 hi12, uA_eq, h1 i hi, Option.bind_some, am_57, ib12 hp, if_pos rfl, Option.bind_some, c12 hp, uA_eq, h2, n_s]
          by_cases c2 : r i + 1 ≤ 1 + mB N r (N p) i
          · have hm2 : mB N r (N p) (i + 1) = mB N r (N p) i := by rw [hm1]; omega
            rw [if_pos (le_y c2 (by omega)), same _ hm2]
            exact ⟨s, rfl, h1, by rw [hm2]; exact h2⟩
          · rw [if_neg (le_n (by omega) (by omega))]
            unfold f_X11_riseLooked_92 f_X11_riseLooked_121
            rw [gm_24, Option.bind_some, if_neg (by decide), Option.bind_some, am_57, ib12 hi12, if_pos rfl, Option.bind_some, c12 hi12, uA_eq, h1 i hi, n_s, wm_57, ib12 hp, if_pos rfl, Option.bind_some, c12 hp, uA_eq, uA_uA]
            refine ⟨upd s p (nN (r i + 1)), rfl, fun q hq => ?_, ?_⟩
            · rw [upd_ne (by omega)]
              exact h1 q hq
            · rw [upd_eq, hm1]
              exact congrArg nN (by omega)
        · have hm1 : mB N r (N p) (i + 1) = mB N r (N p) i := by
            rw [mS, if_neg c1, Nat.max_eq_left (Nat.zero_le _)]
          rw [if_pos (le_y (by omega) (by omega)), same _ hm1]
          exact ⟨s, rfl, h1, by rw [hm1]; exact h2⟩
    · intro n s ⟨h1, h2⟩
      have hm := mB_le (N := N) (r := r) (v := N p) p (fun q hq => (hr q hq).1)
      refine ⟨s, h1, by rw [if_neg d]; exact h2, ?_⟩
      rw [f_X11_riseLooked_32, if_pos (Int32.le_refl _), if_neg d, m_rise128 hp (by omega) (by omega) h2]
theorem m_rise {N : Nat → Nat} (hN : ∀ p, p < 12 → N p < 1000 ∧ A 49 p = nN (N p)) : ∃ f, f_X11_riseLooked (mk A V R B J) 45 = some (nN (gN (rT N 12) 12), mk (upA A 57 f) V R B J) := by
  have h : ∃ y, f_X11_riseLooked_4 45 10000 (mk (upA A 57 (A 57)) V R B J) 0 (nN 0) = some y ∧ ∃ f, y = (nN (gN (rT N 12) 12), mk (upA A 57 f) V R B J) := by
    refine lpF (fun n (s : Int32 × (Nat → Int32)) i => f_X11_riseLooked_4 45 n (mk (upA A 57 s.2) V R B J) s.1 i) (fun i s => s.1 = nN (gN (rT N i) i) ∧ ∀ q, q < i → s.2 q = nN (rT N i q)) (fun y => ∃ f, y = (nN (gN (rT N 12) 12), mk (upA A 57 f) V R B J)) 12 (i := 0) (s := (0, A 57)) (by omega) (by omega) ⟨rfl, fun q hq => absurd hq (Nat.not_lt_zero q)⟩ ?_ ?_
    · rintro n i ⟨s1, s2⟩ hi ⟨h1, h2⟩
      refine Or.inr ?_
      have h1 : s1 = nN (gN (rT N i) i) := h1
      have h2 : ∀ q, q < i → s2 q = nN (rT N i q) := h2
      have g12 : ¬ (12 : Int32) ≤ nN i := fun q => by rw [ge12 hi] at q; exact q
      obtain ⟨b1, b2⟩ := hN i hi
      have hg := rT_gN_le (N := N) (p := i)
      have a1 : ∀ f, upA A 57 f 49 = A 49 := fun f => uA_ne (by decide)
      obtain ⟨s', k1, k2, k3⟩ := m_rise32 (A := A) (V := V) (R := R) (B := B) (J := J) (k4 := f_X11_riseLooked_4 45 n) (p := i) (a := gN (rT N i) i) (N := N) (r := rT N i) (s := upd s2 i (if N i = 0 then 0 else 1)) hi (by omega) hN (fun q hq => rT_le i q hq) ⟨fun q hq => by rw [upd_ne (by omega)]; exact h2 q hq, upd_eq⟩
      rw [← rT_gN] at k3
      show ∃ s', f_X11_riseLooked_4 45 (n + 1) (mk (upA A 57 s2) V R B J) s1 (nN i) = _ ∧ _
      refine ⟨(nN (gN (rT N (i + 1)) (i + 1)), s'), ?_, rfl, fun q hq => ?_⟩
      · rw [f_X11_riseLooked_4, if_neg g12, gm_24, Option.bind_some, gm_7, Option.bind_some, am_49, ib12 hi, if_pos rfl, Option.bind_some, c12 hi, a1, b2]
        unfold f_X11_riseLooked_29
        have hw : ∀ x : Int32, wI (mk (upA A 57 s2) V R B J) (some 57) (nN i) x = some (mk (upA A 57 (upd s2 i x)) V R B J) := fun x => by
          rw [wm_57, ib12 hi, if_pos rfl, c12 hi, uA_eq, uA_uA]
        by_cases d : N i = 0
        · rw [if_pos d] at k3
          rw [if_pos (le0_y d), hw, Option.bind_some, h1]
          exact k3
        · rw [if_neg d] at k3
          rw [if_neg (le0_n d (by omega)), hw, Option.bind_some, h1]
          exact k3
      · show s' q = nN (rT N (i + 1) q)
        by_cases c : q = i
        · subst c
          rw [k2]
          exact congrArg nN (show _ = upN _ _ _ _ from upN_eq.symm)
        · rw [k1 q (by omega)]
          exact congrArg nN (upN_ne c).symm
    · rintro n ⟨s1, s2⟩ ⟨h1, h2⟩
      have h1 : s1 = nN (gN (rT N 12) 12) := h1
      show ∃ r, f_X11_riseLooked_4 45 (n + 1) (mk (upA A 57 s2) V R B J) s1 (nN 12) = some r ∧ _
      rw [f_X11_riseLooked_4, if_pos (show (12 : Int32) ≤ nN 12 from Int32.le_refl _)]
      exact ⟨_, rfl, s2, by rw [h1]⟩
  obtain ⟨y, e1, f, e2⟩ := h
  rw [e2, uA_id] at e1
  exact ⟨f, e1⟩
theorem op_12 : Ok2 (fun h => f_X10_rise h 0) (fun h => f_X11_rise h 45) := by
  intro A V R B J h
  have h0 := h
  obtain ⟨⟨T, w, st, mo⟩, -⟩ := h0
  obtain ⟨f, ec⟩ := c_rise (V := V) (R := R) (B := B) (J := J) isT (fun p hp => ⟨w.num p hp, st.2.2.2.1 p hp⟩)
  have mo1 : MoRep (upA A (1 + 7) f) (upV V 45 6 0) T := mo.thr.cong ⟨uA_ne (by decide), uA_ne (by decide), uA_ne (by decide)⟩ ⟨rfl, rfl, rfl⟩
  obtain ⟨A', e1, hA, lk⟩ := m_lookNow (R := R) (B := B) (J := J) w mo1
  obtain ⟨g, em⟩ := m_rise (A := A') (V := upV V 45 6 0) (R := R) (B := B) (J := J) (fun p hp => ⟨w.num p hp, lk.1 p hp⟩)
  have f1 : Frm A V R B (upA A (1 + 7) f) V R B := Frm.a (by decide)
  have f2 : Frm (upA A (1 + 7) f) V R B A' (upV V 45 6 0) R B := look_frm hA
  have f3 : Frm A' (upV V 45 6 0) R B (upA A' 57 g) (upV V 45 6 0) R B := Frm.a (by decide)
  refine yes2 (fc := fun h => f_X10_rise h 0) (fm := fun h => f_X11_rise h 45) (x := nN (gN (rT (tN T) 12) 12)) (A1 := upA A (1 + 7) f) (V1 := V) (R1 := R) (B1 := B) (A2 := upA A' 57 g) (V2 := upV V 45 6 0) (R2 := R) (B2 := B) ?_ ?_ (h.frm [] ((f1.tr f2).tr f3))
  · show f_X10_rise (mk A V R B J) 0 = _
    unfold f_X10_rise
    rw [go_0, Option.bind_some, rs isT, Option.bind_some, ec, Option.bind_some]
  · show f_X11_rise _ 45 = _
    unfold f_X11_rise
    rw [pm_6, Option.bind_some, rm, Option.bind_some, e1, Option.bind_some, rm, Option.bind_some, em, Option.bind_some]
end RIS
