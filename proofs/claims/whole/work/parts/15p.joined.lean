/-! joined -/
section JOI
variable {A V : Nat → Nat → Int32} {R : Nat → Nat → Option Nat} {B : Nat → Nat → Int64} {J : List En}
/-- a row tells another town's numbers -/
def TW (n : Nat) (v : Nat → Int32) : Prop := (1 ≤ n ∧ n ≤ 20) ∧ ∀ i, i < n → (1 : Int32) ≤ v i
theorem c_isTown {v : Nat → Int32} {d n : Nat} (hd : d < 8) (hn : n ≤ 100) (s4 : V (29 + 2 * d) 2 = nN n) (hv : ∀ i, i < n → A (29 + 2 * d + 1) i = v i) {h' : Hp} (hh : h' = mk A V R B J) : f_X10_isTown h' (some (29 + 2 * d)) = some (bz (TW n v)) := by
  subst hh
  have ht := isSh_d hd
  unfold f_X10_isTown
  rw [gh_2 ht, Option.bind_some, s4, Option.bind_some]
  by_cases c1 : 1 ≤ n
  · by_cases c2 : n ≤ 20
    · rw [if_neg (show ¬ nN n < 1 from lt_n c1 (by omega)), if_pos (show nN n ≤ 20 from le_y c2 (by decide))]
      have h : ∃ y, f_X10_isTown_21 (mk A V R B J) 10000 (some (29 + 2 * d)) (nN 0) = some y ∧ y = bz (TW n v) := by
        refine lpF (S := Unit) (fun m _ i => f_X10_isTown_21 (mk A V R B J) m (some (29 + 2 * d)) i) (fun i _ => ∀ j, j < i → (1 : Int32) ≤ v j) (fun y => y = bz (TW n v)) n (i := 0) (s := ()) (by omega) (by omega) (fun j hj => absurd hj (Nat.not_lt_zero j)) ?_ ?_
        · rintro m i _ hi hs
          rw [f_X10_isTown_21, gh_2 ht, Option.bind_some, s4, if_neg (le_n hi (by omega)), rh ht, Option.bind_some, c_at ht hn s4 (by omega), if_pos hi, Option.bind_some, hv i hi]
          by_cases c : (1 : Int32) ≤ v i
          · rw [if_pos c]
            refine Or.inr ⟨(), rfl, fun j hj => ?_⟩
            by_cases e : j = i
            · rw [e]; exact c
            · exact hs j (by omega)
          · rw [if_neg c]
            exact Or.inl ⟨0, rfl, (bz_n (fun z => c (z.2 i hi))).symm⟩
        · rintro m _ hs
          rw [f_X10_isTown_21, gh_2 ht, Option.bind_some, s4, if_pos (Int32.le_refl _)]
          exact ⟨1, rfl, (bz_y ⟨⟨c1, c2⟩, hs⟩).symm⟩
      obtain ⟨y, e1, e2⟩ := h
      rw [e2] at e1
      exact e1
    · rw [if_neg (show ¬ nN n < 1 from lt_n c1 (by omega)), if_neg (show ¬ nN n ≤ 20 from le_n (b := 20) (by omega) (by omega)), bz_n (fun z => c2 z.1.2)]
      rfl
  · rw [if_pos (show nN n < 1 from lt_y (b := 1) (by omega) (by decide)), bz_n (fun z => c1 z.1.1)]
    rfl
theorem m_town {v : Nat → Int32} {d n : Nat} {x : Int32} (hd : d < 8) (hn : n ≤ 100) (s7 : A 64 d = nN n) (s8 : ∀ i, i < n → B 65 (100 * d + i) = (v i).toInt64) : f_X11_joined_25 45 (mk A V R B J) (nN d) x 0 = f_X11_joined_97 45 (mk A V R B J) (nN d) x (bz (TW n v)) := by
  have cd : (nN d).toNatClampNeg = d := cn (by omega)
  have id8 : inB (nN d) 8 = true := ib hd (by decide)
  have i20 : f_X11_in (mk A V R B J) (nN n).toInt64 (1 : Int64) (20 : Int64) = some (bz (1 ≤ n ∧ n ≤ 20)) := by
    have e := m_in (h := mk A V R B J) (x := nN n) (a := 1) (b := 20)
    refine Eq.trans e (congrArg some ?_)
    by_cases c : 1 ≤ n ∧ n ≤ 20
    · rw [bz_y c, if_pos ⟨le_y c.1 (by omega), le_y c.2 (by decide)⟩]
    · rw [bz_n c, if_neg]
      rintro ⟨g1, g2⟩
      refine c ⟨?_, ?_⟩
      · have := (n_le (a := 1) (b := n) (by decide) (by omega)).mp g1
        exact this
      · have := (n_le (a := n) (b := 20) (by omega) (by decide)).mp g2
        exact this
  unfold f_X11_joined_25
  rw [if_pos (by decide), gm_32, Option.bind_some, am_64, id8, if_pos rfl, Option.bind_some, cd, s7, i20, Option.bind_some]
  have key : ∀ P : Prop, (P ↔ (1 ≤ n ∧ n ≤ 20)) → f_X11_joined_51 45 10000 (mk A V R B J) (nN d) x (bz P) (nN 0) = f_X11_joined_97 45 (mk A V R B J) (nN d) x (bz (TW n v)) := by
    intro P hP
    refine lpE (fun m s i => f_X11_joined_51 45 m (mk A V R B J) (nN d) x s i) (fun i s => s = bz ((1 ≤ n ∧ n ≤ 20) ∧ ∀ j, j < i → (1 : Int32) ≤ v j)) (fun o => o = f_X11_joined_97 45 (mk A V R B J) (nN d) x (bz (TW n v))) n (i := 0) (s := bz P) (by omega) (by omega) (bz_c (hP.trans ⟨fun g => ⟨g, fun j hj => absurd hj (Nat.not_lt_zero j)⟩, fun g => g.1⟩)) ?_ ?_
    · rintro m i s hi hs
      have ib2 : inB (nN (100 * d + i)) 800 = true := ib (show 100 * d + i < 800 by omega) (by decide)
      rw [f_X11_joined_51, gm_32, Option.bind_some, am_64, id8, if_pos rfl, Option.bind_some, cd, s7, if_neg (le_n hi (by omega))]
      unfold f_X11_joined_89
      by_cases c : (1 ≤ n ∧ n ≤ 20) ∧ ∀ j, j < i → (1 : Int32) ≤ v j
      · have cz : ∀ y : Int32, (lg_cmp y.toInt64 (0 : Int64) ≤ 0) = (y ≤ 0) := fun y => by
          have h1 := cmp_gt (x := y) (y := 0)
          have h1' : (0 < lg_cmp y.toInt64 (0 : Int64)) = ((0 : Int32) < y) := h1
          refine propext ⟨fun z => ?_, fun z => ?_⟩
          · exact not_lt' (fun q => by rw [← h1'] at q; exact not_le_lt z q)
          · exact not_lt' (fun q => by rw [h1'] at q; exact not_le_lt z q)
        rw [hs, bz_y c, if_neg (by decide), gm_33, Option.bind_some, idx2, am_65, ib2, if_pos rfl, Option.bind_some, cn (show 100 * d + i < 2147483648 by omega), s8 i hi]
        simp only [cz]
        by_cases c2 : v i ≤ 0
        · have c3 : ¬ (1 : Int32) ≤ v i := fun q => by
            have h1 := Int32.le_iff_toInt_le.mp q
            have h2 := Int32.le_iff_toInt_le.mp c2
            have : (1 : Int32).toInt = 1 := rfl
            have : (0 : Int32).toInt = 0 := rfl
            omega
          rw [if_pos c2]
          exact Or.inr ⟨0, rfl, (bz_n (fun z => c3 (z.2 i (by omega)))).symm⟩
        · have c3 : (1 : Int32) ≤ v i := by
            have h1 := Int32.lt_iff_toInt_lt.mp (not_le' c2)
            refine Int32.le_iff_toInt_le.mpr ?_
            have : (1 : Int32).toInt = 1 := rfl
            have : (0 : Int32).toInt = 0 := rfl
            omega
          rw [if_neg c2]
          refine Or.inr ⟨1, rfl, (bz_y ⟨c.1, fun j hj => ?_⟩).symm⟩
          by_cases e : j = i
          · rw [e]; exact c3
          · exact c.2 j (by omega)
      · rw [hs, bz_n c, if_pos rfl]
        refine Or.inl ?_
        rw [bz_n (fun z => c ⟨z.1, fun j hj => z.2 j (by omega)⟩)]
    · rintro m s hs
      rw [f_X11_joined_51, gm_32, Option.bind_some, am_64, id8, if_pos rfl, Option.bind_some, cd, s7, if_pos (Int32.le_refl _), hs]
      rfl
  exact key _ Iff.rfl
/-- how many of a row's numbers, each raised by r, a house has -/
def jC (N u : Nat → Nat) (r : Nat) : Nat → Nat
  | 0 => 0
  | i + 1 => jC N u r i + if hb N (u i + r) 12 = true then 1 else 0
theorem jC_le {N u : Nat → Nat} {r : Nat} : ∀ i, jC N u r i ≤ i
  | 0 => Nat.le_refl _
  | i + 1 => by
    have h := jC_le (N := N) (u := u) (r := r) i
    show jC N u r i + (if hb N (u i + r) 12 = true then 1 else 0) ≤ i + 1
    split <;> omega
theorem gN_ge {N : Nat → Nat} : ∀ p q, q < p → N q ≤ gN N p
  | 0, q, h => by omega
  | p + 1, q, h => by
    show N q ≤ max (gN N p) (N p)
    by_cases c : q = p
    · rw [c]; omega
    · have := gN_ge (N := N) p q (by omega)
      omega
theorem jC_g {N u : Nat → Nat} : ∀ i, (∀ j, j < i → 1 ≤ u j) → jC N u (gN N 12) i = 0
  | 0, _ => rfl
  | i + 1, h => by
    show jC N u (gN N 12) i + (if hb N (u i + gN N 12) 12 = true then 1 else 0) = 0
    rw [jC_g i (fun j hj => h j (by omega)), if_neg]
    intro c
    obtain ⟨q, h1, h2⟩ := (hb_t 12).mp c
    have := gN_ge (N := N) 12 q h1
    have := h i (by omega)
    omega
theorem MT_hb {N : Nat → Nat} {a : Nat} (hN : ∀ p, p < 12 → N p < 1000) (h1 : 1 ≤ a) (h2 : a < 2147483648) : MT N (nN a) 0 11 ↔ hb N a 12 = true := by
  rw [hb_t]
  constructor
  · rintro ⟨j, d1, d2, d3, d4⟩
    rw [n_eq (by have := hN j (by omega); omega) h2] at d4
    exact ⟨j, by omega, d4⟩
  · rintro ⟨q, d1, d2⟩
    exact ⟨q, Nat.zero_le _, by omega, by omega, by rw [d2]⟩
theorem c_shared {N u : Nat → Nat} {d n r : Nat} (hd : d < 8) (hn : n ≤ 100) (s4 : V (29 + 2 * d) 2 = nN n) (hu : ∀ i, i < n → A (29 + 2 * d + 1) i = nN (u i) ∧ (1 ≤ u i ∧ u i < 100000)) (hr : r < 10000) (hN : ∀ p, p < 12 → N p < 1000 ∧ A (1 + 1) p = nN (N p)) : f_X10_sharedIfRaised (mk A V R B J) 0 (some (29 + 2 * d)) (nN r) = some (nN (jC N u r n)) := by
  have ht := isSh_d hd
  have h : ∃ y, f_X10_sharedIfRaised_5 (mk A V R B J) 0 10000 (some (29 + 2 * d)) (nN r) 0 (nN 0) = some y ∧ y = nN (jC N u r n) := by
    refine lpF (fun m s i => f_X10_sharedIfRaised_5 (mk A V R B J) 0 m (some (29 + 2 * d)) (nN r) s i) (fun i s => s = nN (jC N u r i)) (fun y => y = nN (jC N u r n)) n (i := 0) (s := 0) (by omega) (by omega) rfl ?_ ?_
    · rintro m i s hi hs
      refine Or.inr ?_
      obtain ⟨u1, u2, u3⟩ := hu i hi
      obtain ⟨b, e1, -, e2⟩ := c_pw (A := A) (V := V) (R := R) (B := B) (J := J) (x := nN (u i + r)) isT hN
      rw [pw_hb (fun p hp => (hN p hp).1) (by omega) (by omega)] at e2
      have hS : jC N u r (i + 1) = jC N u r i + if hb N (u i + r) 12 = true then 1 else 0 := rfl
      rw [f_X10_sharedIfRaised_5, gh_2 ht, Option.bind_some, s4, if_neg (le_n hi (by omega)), go_0, Option.bind_some, rh ht, Option.bind_some, c_at ht hn s4 (by omega), if_pos hi, Option.bind_some, u1, rs isT, Option.bind_some, n_add, e1, Option.bind_some, hS, hs]
      unfold f_X10_sharedIfRaised_35
      by_cases c : hb N (u i + r) 12 = true
      · rw [if_neg (fun z => by rw [e2.mp z] at c; cases c), if_pos c, n_s]
        exact ⟨_, rfl, rfl⟩
      · rw [if_pos (e2.mpr (by rwa [Bool.not_eq_true] at c)), if_neg c]
        exact ⟨_, rfl, rfl⟩
    · rintro m s hs
      rw [f_X10_sharedIfRaised_5, gh_2 ht, Option.bind_some, s4, if_pos (Int32.le_refl _)]
      exact ⟨_, rfl, hs⟩
  obtain ⟨y, e1, e2⟩ := h
  rw [e2] at e1
  exact e1
theorem m_had {N u : Nat → Nat} {d n r : Nat} (hd : d < 8) (hn : n ≤ 100) (s7 : A 64 d = nN n) (s8 : ∀ i, i < n → B 65 (100 * d + i) = (nN (u i)).toInt64) (hu : ∀ i, i < n → 1 ≤ u i ∧ u i < 100000) (hr : r < 10000) (hN : ∀ p, p < 12 → N p < 1000 ∧ A 48 p = nN (N p)) : f_X11_hadOf (mk A V R B J) 45 (nN d) (nN r) = some (nN (jC N u r n)) := by
  have cd : (nN d).toNatClampNeg = d := cn (by omega)
  have id8 : inB (nN d) 8 = true := ib hd (by decide)
  have h : ∃ y, f_X11_hadOf_5 (mk A V R B J) 45 10000 (nN d) (nN r) 0 (nN 0) = some y ∧ y = nN (jC N u r n) := by
    refine lpF (fun m s i => f_X11_hadOf_5 (mk A V R B J) 45 m (nN d) (nN r) s i) (fun i s => s = nN (jC N u r i)) (fun y => y = nN (jC N u r n)) n (i := 0) (s := 0) (by omega) (by omega) rfl ?_ ?_
    · rintro m i s hi hs
      refine Or.inr ?_
      obtain ⟨u2, u3⟩ := hu i hi
      have ib2 : inB (nN (100 * d + i)) 800 = true := ib (show 100 * d + i < 800 by omega) (by decide)
      have hS : jC N u r (i + 1) = jC N u r i + if hb N (u i + r) 12 = true then 1 else 0 := rfl
      have e64 : (nN (u i)).toInt64 + (nN r).toInt64 = (nN (u i + r)).toInt64 := by
        apply Int64.toInt_inj.mp
        rw [Int64.toInt_add, Int32.toInt_toInt64, Int32.toInt_toInt64, Int32.toInt_toInt64, Int32.toInt_ofNat_of_lt (by omega), Int32.toInt_ofNat_of_lt (by omega), Int32.toInt_ofNat_of_lt (by omega), Int.bmod_eq_of_le (by omega) (by omega)]
        omega
      have hi' := m_isIn (A := A) (V := V) (R := R) (B := B) (J := J) (x := nN (u i + r)) (lo := 0) (hi := 11) (by decide) (by decide) hN
      rw [bz_c (MT_hb (fun p hp => (hN p hp).1) (by omega) (by omega))] at hi'
      rw [f_X11_hadOf_5, gm_32, Option.bind_some, am_64, id8, if_pos rfl, Option.bind_some, cd, s7, if_neg (le_n hi (by omega)), gm_33, Option.bind_some, idx2, am_65, ib2, if_pos rfl, Option.bind_some, cn (show 100 * d + i < 2147483648 by omega), s8 i hi, rm, Option.bind_some, e64]
      show ∃ s', (f_X11_isIn (mk A V R B J) 45 (nN (u i + r)).toInt64 (nN 0) (nN 11)).bind _ = _ ∧ _
      rw [hi', Option.bind_some, hS, hs]
      unfold f_X11_hadOf_47
      by_cases c : hb N (u i + r) 12 = true
      · rw [bz_y c, if_neg (by decide), if_pos c, n_s]
        exact ⟨_, rfl, rfl⟩
      · rw [bz_n c, if_pos rfl, if_neg c, Int32.add_zero]
        exact ⟨_, rfl, rfl⟩
    · rintro m s hs
      rw [f_X11_hadOf_5, gm_32, Option.bind_some, am_64, id8, if_pos rfl, Option.bind_some, cd, s7, if_pos (Int32.le_refl _)]
      exact ⟨_, rfl, hs⟩
  obtain ⟨y, e1, e2⟩ := h
  rw [e2] at e1
  exact e1
/-- the least raise -/
def LR (N u : Nat → Nat) (n r : Nat) : Prop := jC N u r n = 0 ∧ ∀ r', r' < r → jC N u r' n ≠ 0
theorem LR.uq {N u : Nat → Nat} {n k l : Nat} (h : LR N u n k) (g : LR N u n l) : k = l := by
  rcases Nat.lt_trichotomy k l with c | c | c
  · exact absurd h.1 (g.2 k c)
  · exact c
  · exact absurd g.1 (h.2 l c)
theorem c_leastRaise {N u : Nat → Nat} {d n : Nat} (hd : d < 8) (hn : n ≤ 100) (s4 : V (29 + 2 * d) 2 = nN n) (hu : ∀ i, i < n → A (29 + 2 * d + 1) i = nN (u i) ∧ (1 ≤ u i ∧ u i < 100000)) (hN : ∀ p, p < 12 → N p < 1000 ∧ A (1 + 1) p = nN (N p)) : ∃ r, LR N u n r ∧ f_X10_leastRaise (mk A V R B J) 0 (some (29 + 2 * d)) = some (nN r) := by
  have hg : gN N 12 < 1000 := gN_lt N _ (by decide) 12 (fun p hp => (hN p hp).1)
  have h : ∃ y, f_X10_leastRaise_10 (mk A V R B J) 0 10000 (some (29 + 2 * d)) (nN (gN N 12)) (nN 0) = some y ∧ ∃ r, LR N u n r ∧ y = nN r := by
    refine lpF (S := Unit) (fun m _ i => f_X10_leastRaise_10 (mk A V R B J) 0 m (some (29 + 2 * d)) (nN (gN N 12)) i) (fun i _ => ∀ r', r' < i → jC N u r' n ≠ 0) (fun y => ∃ r, LR N u n r ∧ y = nN r) (gN N 12) (i := 0) (s := ()) (by omega) (by omega) (fun r' hr => absurd hr (Nat.not_lt_zero r')) ?_ ?_
    · rintro m i _ hi hs
      have hle := jC_le (N := N) (u := u) (r := i) n
      rw [f_X10_leastRaise_10, if_neg (le_n hi (by omega)), ro, Option.bind_some, c_shared hd hn s4 hu (by omega) hN, Option.bind_some]
      by_cases c : jC N u i n = 0
      · rw [c, if_pos (show nN 0 = 0 from rfl)]
        exact Or.inl ⟨_, rfl, i, ⟨c, hs⟩, rfl⟩
      · rw [if_neg (n_ne0 c (by omega))]
        refine Or.inr ⟨(), rfl, fun r' hr => ?_⟩
        by_cases e : r' = i
        · rw [e]; exact c
        · exact hs r' (by omega)
    · rintro m _ hs
      rw [f_X10_leastRaise_10, if_pos (Int32.le_refl _)]
      exact ⟨_, rfl, gN N 12, ⟨jC_g n (fun j hj => (hu j hj).2.1), hs⟩, rfl⟩
  obtain ⟨y, e1, r, hr, rfl⟩ := h
  refine ⟨r, hr, ?_⟩
  unfold f_X10_leastRaise
  rw [go_0, Option.bind_some, rs isT, Option.bind_some, c_greatN isT hN, Option.bind_some]
  exact e1
theorem m_leastRaise {N u : Nat → Nat} {d n : Nat} {z : Int32} (hd : d < 8) (hn : n ≤ 100) (s7 : A 64 d = nN n) (s8 : ∀ i, i < n → B 65 (100 * d + i) = (nN (u i)).toInt64) (hu : ∀ i, i < n → 1 ≤ u i ∧ u i < 100000) (hN : ∀ p, p < 12 → N p < 1000 ∧ A 48 p = nN (N p)) : ∃ r, LR N u n r ∧ f_X11_joined_116 45 10000 (mk A V R B J) (nN d) 1 0 z = some (nN r, mk A V R B J) := by
  have hg : gN N 12 < 1000 := gN_lt N _ (by decide) 12 (fun p hp => (hN p hp).1)
  have h : ∃ y, f_X11_joined_116 45 10000 (mk A V R B J) (nN d) 1 (nN 0) z = some y ∧ ∃ r, LR N u n r ∧ y = (nN r, mk A V R B J) := by
    refine lpF (S := Unit) (fun m _ i => f_X11_joined_116 45 m (mk A V R B J) (nN d) 1 i z) (fun i _ => ∀ r', r' < i → jC N u r' n ≠ 0) (fun y => ∃ r, LR N u n r ∧ y = (nN r, mk A V R B J)) (gN N 12) (i := 0) (s := ()) (by omega) (by omega) (fun r' hr => absurd hr (Nat.not_lt_zero r')) ?_ ?_
    · rintro m i _ hi hs
      have hle := jC_le (N := N) (u := u) (r := i) n
      rw [f_X11_joined_116, if_pos rfl, rm, Option.bind_some, m_had hd hn s7 s8 hu (by omega) hN, Option.bind_some]
      unfold f_X11_joined_137
      by_cases c : jC N u i n = 0
      · rw [if_pos (le0_y c), if_neg (by decide)]
        exact Or.inl ⟨_, rfl, i, ⟨c, hs⟩, rfl⟩
      · rw [if_neg (le0_n c (by omega))]
        refine Or.inr ⟨(), rfl, fun r' hr => ?_⟩
        by_cases e : r' = i
        · rw [e]; exact c
        · exact hs r' (by omega)
    · rintro m _ hs
      have c := jC_g (N := N) (u := u) n (fun j hj => (hu j hj).1)
      rw [f_X11_joined_116, if_pos rfl, rm, Option.bind_some, m_had hd hn s7 s8 hu (by omega) hN, Option.bind_some, if_pos (le0_y c)]
      unfold f_X11_joined_137
      rw [if_neg (by decide)]
      exact ⟨_, rfl, gN N 12, ⟨c, hs⟩, rfl⟩
  obtain ⟨y, e1, r, hr, rfl⟩ := h
  exact ⟨r, hr, e1⟩
theorem op_17 (x1 x2 : Int32) : Ok1 (fun h => f_X10_joined h 0 x1 x2) (fun h => f_X11_joined h 45 x1 x2) := by
  intro A V R B J h
  have h0 := h
  obtain ⟨⟨T, w, st, mo⟩, -, shs⟩ := h0
  rcases c_shelf x1 with ⟨d, hd, rfl, hc⟩ | ⟨hc, hn⟩
  · have ht := isSh_d hd
    by_cases cw : (0 : Int32) ≤ x2 ∧ x2 ≤ 1
    · have c0 : ¬ x2 < 0 := not_le_lt cw.1
      rcases sh_sort (s0 := 1) hd (by decide) (shs d hd) with ⟨r, hr, e1, e2⟩ | ⟨n, hn, s4, s7, s8, e1, e2⟩
      · refine ⟨r, A, upV V 45 6 0, R, B, ?_, ?_, h.thr⟩
        · show f_X10_joined (mk A V R B J) 0 (nN d) x2 = _
          unfold f_X10_joined
          rw [ro, Option.bind_some, hc, Option.bind_some, if_neg (by simp), if_neg c0, if_pos cw.2, rh ht, Option.bind_some, show (1 : Int32) = nN 1 from rfl, e1, Option.bind_some, if_neg (by rcases hr with rfl | rfl <;> decide)]
        · show f_X11_joined (mk A V R B J) 45 (nN d) x2 = _
          unfold f_X11_joined f_X11_joined_25
          rw [pm_6, Option.bind_some, m_in01, Option.bind_some, if_pos cw, if_neg (by decide), rm, Option.bind_some, show (1 : Int32) = nN 1 from rfl, e2, Option.bind_some, if_neg (by rcases hr with rfl | rfl <;> decide)]
      · have hN2 : ∀ p, p < 12 → tN T p < 1000 ∧ A (1 + 1) p = nN (tN T p) := fun p hp => ⟨w.num p hp, st.2.2.2.1 p hp⟩
        have hN48 : ∀ p, p < 12 → tN T p < 1000 ∧ A 48 p = nN (tN T p) := fun p hp => ⟨w.num p hp, mo.2.2 p hp⟩
        have e30 : 30 + 2 * d = 29 + 2 * d + 1 := by omega
        rw [e30] at s8
        have c1 := c_isTown (v := A (29 + 2 * d + 1)) hd hn s4 (fun i _ => rfl) (rfl : mk A V R B J = mk A V R B J)
        have m1 := m_town (A := A) (V := upV V 45 6 0) (R := R) (J := J) (x := x2) hd hn s7 (fun i hi => (s8 i hi).2)
        have ec : ∀ {y : Int32}, ((f_X10_isTown (mk A V R B J) (some (29 + 2 * d))).bind fun v37 => if v37 = 0 then some (-13) else if x2 = 0 then (rcv (mk A V R B J) (some 0) 10).bind fun a53 => (f_X10_sharedIfRaised (mk A V R B J) a53 (some (29 + 2 * d)) 0).bind fun v53 => some v53 else (rcv (mk A V R B J) (some 0) 10).bind fun a61 => (f_X10_leastRaise (mk A V R B J) a61 (some (29 + 2 * d))).bind fun v61 => some v61) = some y → f_X10_joined (mk A V R B J) 0 (nN d) x2 = some y := fun e => by
          unfold f_X10_joined
          rw [ro, Option.bind_some, hc, Option.bind_some, if_neg (by simp), if_neg c0, if_pos cw.2, rh ht, Option.bind_some, show (1 : Int32) = nN 1 from rfl, e1, Option.bind_some, if_pos rfl]
          exact e
        have em : ∀ {y : Int32 × Hp}, f_X11_joined_97 45 (mk A (upV V 45 6 0) R B J) (nN d) x2 (bz (TW n (A (29 + 2 * d + 1)))) = some y → f_X11_joined (mk A V R B J) 45 (nN d) x2 = some y := fun e => by
          unfold f_X11_joined
          rw [pm_6, Option.bind_some, m_in01, Option.bind_some, if_pos cw, if_neg (by decide), rm, Option.bind_some, show (1 : Int32) = nN 1 from rfl, e2, Option.bind_some, m1]
          exact e
        by_cases c : TW n (A (29 + 2 * d + 1))
        · have hu : ∀ i, i < n → A (29 + 2 * d + 1) i = nN (A (29 + 2 * d + 1) i).toNatClampNeg ∧ (1 ≤ (A (29 + 2 * d + 1) i).toNatClampNeg ∧ (A (29 + 2 * d + 1) i).toNatClampNeg < 100000) := by
            intro i hi
            have g1 := Int32.le_iff_toInt_le.mp (c.2 i hi)
            have g2 : (1 : Int32).toInt = 1 := rfl
            have g3 : (A (29 + 2 * d + 1) i).toInt16.toInt32 = A (29 + 2 * d + 1) i := (s8 i hi).1
            have g4 : (A (29 + 2 * d + 1) i).toInt < 32768 := by
              rw [← g3, Int16.toInt_toInt32]
              exact Int16.toInt_lt _
            obtain ⟨a, ha, hb'⟩ := nat_of (x := A (29 + 2 * d + 1) i) (Int32.le_iff_toInt_le.mpr (by have : (0 : Int32).toInt = 0 := rfl; omega))
            rw [ha] at g1 g4 ⊢
            rw [Int32.toInt_ofNat_of_lt (by omega)] at g1 g4
            rw [cn hb']
            exact ⟨rfl, by omega, by omega⟩
          have s8' : ∀ i, i < n → B 65 (100 * d + i) = (nN ((fun i => (A (29 + 2 * d + 1) i).toNatClampNeg) i)).toInt64 := fun i hi => by
            rw [(s8 i hi).2]
            exact congrArg Int32.toInt64 (hu i hi).1
          rcases two_of cw with q | q
          · have e3 := c_shared (R := R) (B := B) (J := J) (u := fun i => (A (29 + 2 * d + 1) i).toNatClampNeg) (r := 0) hd hn s4 hu (by decide) hN2
            have e4 := m_had (A := A) (V := upV V 45 6 0) (R := R) (J := J) (r := 0) hd hn s7 s8' (fun i hi => (hu i hi).2) (by decide) hN48
            refine ⟨_, A, upV V 45 6 0, R, B, ec (y := nN (jC (tN T) (fun i => (A (29 + 2 * d + 1) i).toNatClampNeg) 0 n)) ?_, em ?_, h.thr⟩
            · rw [c1, Option.bind_some, bz_y c, if_neg (by decide), if_pos q, ro, Option.bind_some]
              show (f_X10_sharedIfRaised (mk A V R B J) 0 (some (29 + 2 * d)) (nN 0)).bind _ = _
              rw [e3, Option.bind_some]
            · unfold f_X11_joined_97
              rw [bz_y c, if_neg (by decide), rm, Option.bind_some]
              show (f_X11_hadOf (mk A (upV V 45 6 0) R B J) 45 (nN d) (nN 0)).bind _ = _
              rw [e4, Option.bind_some]
              show f_X11_joined_116 45 (9999 + 1) _ _ _ _ _ = _
              rw [f_X11_joined_116, q, if_neg (by decide)]
              unfold f_X11_joined_137
              rw [if_pos rfl]
          · subst q
            obtain ⟨r, r1, e3⟩ := c_leastRaise (R := R) (B := B) (J := J) (u := fun i => (A (29 + 2 * d + 1) i).toNatClampNeg) hd hn s4 hu hN2
            have e5 := m_had (A := A) (V := upV V 45 6 0) (R := R) (J := J) (r := 0) hd hn s7 s8' (fun i hi => (hu i hi).2) (by decide) hN48
            obtain ⟨r', r2, e4⟩ := m_leastRaise (A := A) (V := upV V 45 6 0) (R := R) (J := J) (z := nN (jC (tN T) (fun i => (A (29 + 2 * d + 1) i).toNatClampNeg) 0 n)) hd hn s7 s8' (fun i hi => (hu i hi).2) hN48
            have er := r1.uq r2
            subst er
            refine ⟨_, A, upV V 45 6 0, R, B, ec (y := nN r) ?_, em ?_, h.thr⟩
            · rw [c1, Option.bind_some, bz_y c, if_neg (by decide), if_neg (by decide), ro, Option.bind_some, e3, Option.bind_some]
            · unfold f_X11_joined_97
              rw [bz_y c, if_neg (by decide), rm, Option.bind_some]
              show (f_X11_hadOf (mk A (upV V 45 6 0) R B J) 45 (nN d) (nN 0)).bind _ = _
              rw [e5, Option.bind_some]
              exact e4
        · refine ⟨-13, A, upV V 45 6 0, R, B, ec ?_, em ?_, h.thr⟩
          · rw [c1, Option.bind_some, bz_n c, if_pos rfl]
          · unfold f_X11_joined_97
            rw [bz_n c, if_pos rfl]
    · refine ⟨-1, A, upV V 45 6 0, R, B, ?_, ?_, h.thr⟩
      · show f_X10_joined (mk A V R B J) 0 (nN d) x2 = _
        unfold f_X10_joined
        rw [ro, Option.bind_some, hc, Option.bind_some, if_neg (by simp)]
        by_cases q : x2 < 0
        · rw [if_pos q]
        · rw [if_neg q, if_neg (fun q2 => cw ⟨not_lt' q, q2⟩)]
      · show f_X11_joined (mk A V R B J) 45 (nN d) x2 = _
        unfold f_X11_joined f_X11_joined_25
        rw [pm_6, Option.bind_some, m_in01, Option.bind_some, if_neg cw, if_pos rfl, if_neg (by decide)]
  · refine ⟨-1, A, upV V 45 6 0, R, B, ?_, ?_, h.thr⟩
    · show f_X10_joined (mk A V R B J) 0 x1 x2 = _
      unfold f_X10_joined
      rw [ro, Option.bind_some, hc, Option.bind_some, if_pos rfl]
    · show f_X11_joined (mk A V R B J) 45 x1 x2 = _
      unfold f_X11_joined f_X11_joined_25
      rw [pm_6, Option.bind_some, m_in01, Option.bind_some]
      by_cases cw : (0 : Int32) ≤ x2 ∧ x2 ≤ 1
      · rw [if_pos cw, if_neg (by decide), rm, Option.bind_some, m_wrongSortN hn, Option.bind_some, if_neg (by decide)]
      · rw [if_neg cw, if_pos rfl, if_neg (by decide)]
end JOI
