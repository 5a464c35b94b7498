/-! judge -/
section JUD
variable {A V A' V' : Nat → Nat → Int32} {R R' : Nat → Nat → Option Nat} {B B' : Nat → Nat → Int64} {J : List En}
theorem t64 {a b : Int32} : (a.toInt64 = b.toInt64) = (a = b) := propext (by rw [← Int64.toInt_inj, Int32.toInt_toInt64, Int32.toInt_toInt64, Int32.toInt_inj])
def lsS (s : Nat) : Int32 := match s with
  | 0 => -128
  | 1 => -32768
  | _ => -2147483648
theorem c_least {t s : Nat} (ht : isSh t) (hs : s ≤ 2) (hv : V t 1 = nN s) : f_X5_leastOfSort (mk A V R B J) t = some (lsS s) := by
  simp only [f_X5_leastOfSort, gh_1 ht, Option.bind_some, hv]
  match s, hs with
  | 0, _ | 1, _ | 2, _ => rfl
theorem m_skipped {d s : Nat} (hd : d < 8) (hs : s ≤ 2) (hv : A 63 d = nN s) : f_X11_skippedIn (mk A V R B J) 45 (nN d) = some (lsS s).toInt64 := by
  have cd : (Int32.ofNat d).toNatClampNeg = d := cn (by omega)
  have id8 : inB (Int32.ofNat d) 8 = true := ib hd (by decide)
  simp only [f_X11_skippedIn, gm_31, Option.bind_some, am_63, id8, if_true, cd, hv]
  match s, hs with
  | 0, _ | 1, _ | 2, _ => rfl
theorem jd_end {d n : Nat} (hd : d < 8) (hn : n ≤ 100) (s4 : V (29 + 2 * d) 2 = nN n) (s7 : A 64 d = nN n) {V2 : Nat → Nat → Int32} : ∃ y, f_X10_judge_86 (mk A V R B J) 0 (some (29 + 2 * d)) = some y ∧ f_X11_judge_80 45 (mk A V2 R B J) (nN d) = some (y, mk A V2 R B J) := by
  have ht := isSh_d hd
  have cd : (Int32.ofNat d).toNatClampNeg = d := cn (by omega)
  have id8 : inB (Int32.ofNat d) 8 = true := ib hd (by decide)
  have e1 : (nN n = 12) = (n = 12) := n_eq (b := 12) (by omega) (by decide)
  have e2 : ((12 : Int32) ≤ nN n) = (12 ≤ n) := n_le (a := 12) (by decide) (by omega)
  have e3 : (nN n ≤ (12 : Int32)) = (n ≤ 12) := n_le (b := 12) (by omega) (by decide)
  have e4 : ((12 : Int32) < nN n) = (12 < n) := n_lt (a := 12) (by decide) (by omega)
  simp only [f_X10_judge_86, gh_2 ht, Option.bind_some, s4, e1, f_X11_judge_80, gm_32, am_64, id8, if_true, cd, s7, e2, e3, mnI, e4]
  by_cases c : n = 12
  · refine ⟨-4, if_pos c, ?_⟩
    rw [if_pos (by omega), if_pos (by omega)]
  · by_cases c2 : 12 < n
    · refine ⟨12, ?_, ?_⟩
      · rw [if_neg c, if_pos c2]
      · rw [if_pos (by omega), if_neg (by omega)]
    · refine ⟨nN n, ?_, ?_⟩
      · rw [if_neg c, if_neg c2]
      · rw [if_neg (by omega)]
theorem jd_loop {d n s : Nat} {N : Nat → Nat} (hd : d < 8) (hn : n ≤ 100) (s0 : s ≤ 2) (s4 : V (29 + 2 * d) 2 = nN n) (s6 : A 63 d = nN s) (s7 : A 64 d = nN n) (s8 : ∀ i, i < n → B 65 (100 * d + i) = (A (30 + 2 * d) i).toInt64) (hN : ∀ p, p < 12 → A 2 p = nN (N p) ∧ A 48 p = nN (N p)) {V2 : Nat → Nat → Int32} :
    ∀ k i m, i + k = min 12 n → ∃ y, f_X10_judge_32 (mk A V R B J) 0 (m + k + 1) (some (29 + 2 * d)) (lsS s) (nN i) = some y ∧ f_X11_judge_19 45 (m + k + 1) (mk A V2 R B J) (nN d) (nN i) = some (y, mk A V2 R B J) := by
  have ht := isSh_d hd
  have cd : (Int32.ofNat d).toNatClampNeg = d := cn (by omega)
  have id8 : inB (Int32.ofNat d) 8 = true := ib hd (by decide)
  intro k
  induction k with
  | zero =>
    intro i m h
    obtain ⟨y, y1, y2⟩ := jd_end (R := R) (B := B) (J := J) (V2 := V2) hd hn s4 s7
    refine ⟨y, ?_, ?_⟩
    · show f_X10_judge_32 (mk A V R B J) 0 (m + 1) _ _ _ = _
      rw [f_X10_judge_32]
      by_cases c : 12 ≤ i
      · rw [if_pos (by rw [show (12 : Int32) = Int32.ofNat 12 from rfl, n_le (by decide) (by omega)]; exact c)]
        exact y1
      · rw [if_neg (fun q => by rw [show (12 : Int32) = Int32.ofNat 12 from rfl, n_le (by decide) (by omega)] at q; exact c q), gh_2 ht, Option.bind_some, s4, if_pos (by rw [n_le (by omega) (by omega)]; omega)]
        exact y1
    · show f_X11_judge_19 45 (m + 1) _ _ _ = _
      rw [f_X11_judge_19]
      by_cases c : 12 ≤ i
      · rw [if_pos (by rw [show (12 : Int32) = Int32.ofNat 12 from rfl, n_le (by decide) (by omega)]; exact c)]
        exact y2
      · rw [if_neg (fun q => by rw [show (12 : Int32) = Int32.ofNat 12 from rfl, n_le (by decide) (by omega)] at q; exact c q), gm_32, Option.bind_some, am_64, id8, if_pos rfl, Option.bind_some, cd, s7, if_pos (by rw [n_le (by omega) (by omega)]; omega)]
        exact y2
  | succ k ih =>
    intro i m h
    have hi : i < 12 := by omega
    have hin : i < n := by omega
    obtain ⟨y, y1, y2⟩ := ih (i + 1) m (by omega)
    have g12 : ¬ (12 : Int32) ≤ Int32.ofNat i := fun q => by rw [ge12 hi] at q; exact q
    have gn : ¬ Int32.ofNat n ≤ Int32.ofNat i := fun q => by rw [n_le (by omega) (by omega)] at q; omega
    have hat := c_at (A := A) (R := R) (B := B) (J := J) ht hn s4 (show i < 2147483648 by omega)
    rw [if_pos hin] at hat
    have hx : ∀ h, f_X10_isPlot h (nN i) = some 1 := fun h => by
      simp only [f_X10_isPlot, if_neg (show ¬ nN i < 0 from fun q => by
        have h1 := Int32.lt_iff_toInt_lt.mp q
        rw [Int32.toInt_ofNat_of_lt (by omega)] at h1
        have : (0 : Int32).toInt = 0 := rfl
        omega), ge12 hi, if_false]
      rfl
    have e30 : 30 + 2 * d = 29 + 2 * d + 1 := by omega
    have sb := s8 i hin
    rw [e30] at sb
    have ib2 : inB (nN (100 * d + i)) 800 = true := ib (show 100 * d + i < 800 by omega) (by decide)
    have key1 : ∀ z : Option Int32, (z = if A (29 + 2 * d + 1) i = lsS s then f_X10_judge_32 (mk A V R B J) 0 (m + k + 1) (some (29 + 2 * d)) (lsS s) (nN (i + 1)) else if A (29 + 2 * d + 1) i = nN (N i) then f_X10_judge_32 (mk A V R B J) 0 (m + k + 1) (some (29 + 2 * d)) (lsS s) (nN (i + 1)) else some (nN i)) → f_X10_judge_32 (mk A V R B J) 0 (m + (k + 1) + 1) (some (29 + 2 * d)) (lsS s) (nN i) = z := by
      intro z hz
      subst hz
      show f_X10_judge_32 (mk A V R B J) 0 ((m + k + 1) + 1) _ _ _ = _
      rw [f_X10_judge_32, if_neg g12, gh_2 ht, Option.bind_some, s4, if_neg gn, rh ht, Option.bind_some, hat, Option.bind_some]
      unfold f_X10_judge_80
      rw [n_s, go_0, Option.bind_some, rs isT, Option.bind_some, c_numberAt isT hi hx, Option.bind_some, (hN i hi).1]
    have key2 : ∀ z : Option (Int32 × Hp), (z = if A (29 + 2 * d + 1) i = lsS s then f_X11_judge_19 45 (m + k + 1) (mk A V2 R B J) (nN d) (nN (i + 1)) else if A (29 + 2 * d + 1) i = nN (N i) then f_X11_judge_19 45 (m + k + 1) (mk A V2 R B J) (nN d) (nN (i + 1)) else some (nN i, mk A V2 R B J)) → f_X11_judge_19 45 (m + (k + 1) + 1) (mk A V2 R B J) (nN d) (nN i) = z := by
      intro z hz
      subst hz
      show f_X11_judge_19 45 ((m + k + 1) + 1) _ _ _ = _
      rw [f_X11_judge_19, if_neg g12, gm_32, Option.bind_some, am_64, id8, if_pos rfl, Option.bind_some, cd, s7, if_neg gn, gm_33, Option.bind_some, idx, am_65, ib2, if_pos rfl, Option.bind_some, cn (show 100 * d + i < 2147483648 by omega), sb, rm, Option.bind_some, m_skipped hd s0 s6, Option.bind_some]
      unfold f_X11_judge_74
      simp only [cmp_0, t64]
      rw [n_s, gm_5, Option.bind_some, am_48, ib12 hi, if_pos rfl, Option.bind_some, c12 hi, (hN i hi).2]
    by_cases c1 : A (29 + 2 * d + 1) i = lsS s
    · exact ⟨y, key1 _ (by rw [if_pos c1]; exact y1.symm), key2 _ (by rw [if_pos c1]; exact y2.symm)⟩
    · by_cases c2 : A (29 + 2 * d + 1) i = nN (N i)
      · exact ⟨y, key1 _ (by rw [if_neg c1, if_pos c2]; exact y1.symm), key2 _ (by rw [if_neg c1, if_pos c2]; exact y2.symm)⟩
      · exact ⟨nN i, key1 _ (by rw [if_neg c1, if_neg c2]), key2 _ (by rw [if_neg c1, if_neg c2])⟩
theorem op_19 (x : Int32) : Ok1 (fun h => f_X10_judge h 0 x) (fun h => f_X11_judge h 45 x) := by
  intro A V R B J h
  obtain ⟨N, hN⟩ := h.num
  rcases c_shelf x with ⟨d, hd, rfl, hc⟩ | ⟨hc, hn⟩
  · have ht := isSh_d hd
    rcases h.2.2 d hd with ⟨s1, s2, s3⟩ | ⟨k, f, s1, s2, s3, s4, s5⟩ | ⟨s, n, s0, s1, s2, s3, s4, s5, s6, s7, s8⟩
    · refine ⟨-11, A, upV V 45 6 0, R, B, ?_, ?_, h.thr⟩
      · simp only [f_X10_judge, ro, Option.bind_some, hc, reduceCtorEq, if_false, rh ht, c_refRow ht, s1, s2, and_self, if_true]
        rfl
      · simp only [f_X11_judge, pm_6, Option.bind_some, rm, m_wrongRow hd, s3, if_true]
        rfl
    · have hne : ¬ R (29 + 2 * d) 0 = none := by
        obtain ⟨a, ha, -⟩ := law_at (A := A) (V := V) (R := R) (B := B) s1
        rw [ha]
        exact Option.some_ne_none a
      refine ⟨-12, A, upV V 45 6 0, R, B, ?_, ?_, h.thr⟩
      · simp only [f_X10_judge, ro, Option.bind_some, hc, reduceCtorEq, if_false, rh ht, c_refRow ht, hne, s2, false_and, if_true]
        rfl
      · simp only [f_X11_judge, pm_6, Option.bind_some, rm, m_wrongRow hd, s3]
        rfl
    · obtain ⟨y, y1, y2⟩ := jd_loop (R := R) (J := J) (N := N) (V2 := upV V 45 6 0) hd s1 s0 s4 s6 s7 (fun i hi => (s8 i hi).2) (fun p hp => (hN p hp).2) (min 12 n) 0 (9999 - min 12 n) (by omega)
      have ef : 9999 - min 12 n + min 12 n + 1 = 10000 := by omega
      rw [ef] at y1 y2
      have hm1 : f_X11_wrongRow (mk A (upV V 45 6 0) R B J) 45 (nN d) = some 0 := by
        rw [m_wrongRow hd, s5]
        rfl
      refine ⟨y, A, upV V 45 6 0, R, B, ?_, ?_, h.thr⟩
      · show f_X10_judge (mk A V R B J) 0 (nN d) = some y
        unfold f_X10_judge
        rw [ro, Option.bind_some, hc, Option.bind_some, if_neg (by simp), rh ht, Option.bind_some, c_refRow ht, Option.bind_some, if_pos (by simp only [s2, s3, sort_ne s0, and_false, if_false]), Option.bind_some, c_least ht s0 s3, Option.bind_some]
        exact y1
      · show f_X11_judge (mk A V R B J) 45 (nN d) = some (y, mk A (upV V 45 6 0) R B J)
        unfold f_X11_judge
        rw [pm_6, Option.bind_some, rm, Option.bind_some, hm1, Option.bind_some, if_pos (by decide)]
        exact y2
  · refine ⟨-1, A, upV V 45 6 0, R, B, ?_, ?_, h.thr⟩
    · simp only [f_X10_judge, ro, Option.bind_some, hc, if_true]
    · simp only [f_X11_judge, pm_6, Option.bind_some, rm, m_wrongRowN hn]
      rfl
end JUD
