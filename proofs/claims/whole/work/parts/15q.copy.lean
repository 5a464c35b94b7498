/-! copy -/
section COP
variable {A V : Nat → Nat → Int32} {R : Nat → Nat → Option Nat} {B : Nat → Nat → Int64} {J : List En}
theorem c_cpy {a b na nb i j n : Nat} (ha : LA a = na) (hb : LA b = nb) (h1 : na ≠ 0) (h2 : nb ≠ 0) (hi : i + n ≤ na) (hj : j + n ≤ nb) (ga : na ≤ 1000) (gb : nb ≤ 1000) : cpI (mk A V R B J) (some a) (nN i) (some b) (nN j) (nN n) = some (mk (upA A b (va_cpy (A a) (A b) i j n)) V R B J) := by
  unfold cpI
  rw [hA_mk a (by omega), hA_mk b (by omega)]
  dsimp only
  rw [ha, hb, cn (by omega), cn (by omega), cn (by omega), if_pos ⟨n_lt0 i (by omega), n_lt0 j (by omega), n_lt0 n (by omega), hi, hj⟩]
  have hs := set_A (A := A) (V := V) (R := R) (B := B) (J := J) (f := va_cpy (A a) (A b) i j n) b (by omega)
  rw [hb] at hs
  rw [hs]
/-- so many places from there on -/
def OKp (x y : Int32) (s : Nat) : Prop := ∃ i n, x = nN i ∧ (y = nN n ∧ i + n ≤ s)
theorem pl_1 {s i n : Nat} (hs : s ≤ 100) (hi : i < 2147483648) (hn : n < 2147483648) : (nN s - nN n < nN i) = (s < i + n) := by
  have e1 : (nN s - nN n).toInt = (s : Int) - n := by
    rw [Int32.toInt_sub, Int32.toInt_ofNat_of_lt (by omega), Int32.toInt_ofNat_of_lt (by omega), Int.bmod_eq_of_le (by omega) (by omega)]
  refine propext ⟨fun h => ?_, fun h => ?_⟩
  · have h1 := Int32.lt_iff_toInt_lt.mp h
    rw [e1, Int32.toInt_ofNat_of_lt (by omega)] at h1
    omega
  · refine Int32.lt_iff_toInt_lt.mpr ?_
    rw [e1, Int32.toInt_ofNat_of_lt (by omega)]
    omega
theorem OKp_iff {x y : Int32} {s : Nat} (hs : s ≤ 100) : OKp x y s ↔ ¬ y < 0 ∧ (¬ x < 0 ∧ ¬ nN s - y < x) := by
  constructor
  · rintro ⟨i, n, rfl, rfl, h⟩
    refine ⟨n_lt0 n (by omega), n_lt0 i (by omega), ?_⟩
    rw [pl_1 hs (by omega) (by omega)]
    omega
  · rintro ⟨h1, h2, h3⟩
    obtain ⟨i, rfl, hi⟩ := nat_of (not_lt' h2)
    obtain ⟨n, rfl, hn⟩ := nat_of (not_lt' h1)
    rw [pl_1 hs hi hn] at h3
    exact ⟨i, n, rfl, rfl, by omega⟩
theorem c_places {t s : Nat} {x y : Int32} (ht : isSh t) (hs : s ≤ 100) (hv : V t 2 = nN s) : f_X5_hasPlaces (mk A V R B J) t x y = some (bz (OKp x y s)) := by
  have hp := OKp_iff (x := x) (y := y) hs
  unfold f_X5_hasPlaces f_X5_hasPlaces_30
  by_cases c1 : y < 0
  · rw [if_pos c1, bz_n (fun z => (hp.mp z).1 c1)]
    rfl
  · rw [if_neg c1, gh_2 ht, Option.bind_some, hv]
    by_cases c2 : nN s < y
    · have no : ¬ OKp x y s := by
        rintro ⟨i, n, rfl, rfl, h⟩
        exact lt_n (show n ≤ s by omega) (by omega) c2
      rw [if_pos c2, bz_n no]
      rfl
    · rw [if_neg c2]
      by_cases c3 : x < 0
      · rw [if_pos c3, bz_n (fun z => (hp.mp z).2.1 c3)]
        rfl
      · rw [if_neg c3, Option.bind_some]
        by_cases c4 : nN s - y < x
        · rw [if_pos c4, bz_n (fun z => (hp.mp z).2.2 c4)]
          rfl
        · rw [if_neg c4, bz_y (hp.mpr ⟨c1, c3, c4⟩)]
          rfl
theorem updL_eq' {f : Nat → Int64} {i : Nat} {x : Int64} : vp_updL f i x i = x := by simp [vp_updL]
theorem updL_ne' {f : Nat → Int64} {i j : Nat} {x : Int64} (h : j ≠ i) : vp_updL f i x j = f j := by simp [vp_updL, h]
/-- the model's copy: out of a row, and into one -/
theorem m_copy {d e i j n : Nat} (hd : d < 8) (he : e < 8) (hi : i + n ≤ 100) (hj : j + n ≤ 100) : ∃ B2, f_X11_copy_137 45 10000 (mk A V R B J) (nN d) (nN i) (nN e) (nN j) (nN n) 0 = some (nN n, mk A V R B2 J) ∧ ∀ k, B2 65 k = if 100 * e + j ≤ k ∧ k < 100 * e + j + n then B 65 (100 * d + i + (k - (100 * e + j))) else B 65 k := by
  have h2 : ∀ f : Nat → Int64, (∀ k, k < n → f k = B 65 (100 * d + i + k)) → ∃ y, f_X11_copy_174 45 10000 (mk A V R (upB B 66 f) J) (nN e) (nN j) (nN n) (nN 0) = some y ∧ ∃ B2, y = (nN n, mk A V R B2 J) ∧ ∀ k, B2 65 k = if 100 * e + j ≤ k ∧ k < 100 * e + j + n then B 65 (100 * d + i + (k - (100 * e + j))) else B 65 k := by
    intro f hf
    have e0 : upB (upB B 66 f) 65 (B 65) = upB B 66 f := by
      funext x
      unfold upB
      by_cases c : x = 65
      · rw [if_pos c, c, if_neg (by decide)]
      · rw [if_neg c]
    have h : ∃ y, f_X11_copy_174 45 10000 (mk A V R (upB (upB B 66 f) 65 (B 65)) J) (nN e) (nN j) (nN n) (nN 0) = some y ∧ ∃ B2, y = (nN n, mk A V R B2 J) ∧ ∀ k, B2 65 k = if 100 * e + j ≤ k ∧ k < 100 * e + j + n then B 65 (100 * d + i + (k - (100 * e + j))) else B 65 k := by
      refine lpF (fun m (s : Nat → Int64) q => f_X11_copy_174 45 m (mk A V R (upB (upB B 66 f) 65 s) J) (nN e) (nN j) (nN n) q) (fun q s => ∀ k, s k = if 100 * e + j ≤ k ∧ k < 100 * e + j + q then B 65 (100 * d + i + (k - (100 * e + j))) else B 65 k) (fun y => ∃ B2, y = (nN n, mk A V R B2 J) ∧ ∀ k, B2 65 k = if 100 * e + j ≤ k ∧ k < 100 * e + j + n then B 65 (100 * d + i + (k - (100 * e + j))) else B 65 k) n (i := 0) (s := B 65) (by omega) (by omega) (fun k => by rw [if_neg (by omega)]) ?_ ?_
      · rintro m q s hq hs
        refine Or.inr ⟨vp_updL s (100 * e + j + q) (f q), ?_, fun k => ?_⟩
        · have i100 : inB (nN q) 100 = true := ib (show q < 100 by omega) (by decide)
          have i800 : inB (nN (100 * e + j + q)) 800 = true := ib (show 100 * e + j + q < 800 by omega) (by decide)
          have eq6 : upB (upB B 66 f) 65 s 66 = f := by unfold upB; rw [if_neg (by decide), if_pos rfl]
          rw [f_X11_copy_174, if_neg (le_n hq (by omega)), gm_33, Option.bind_some, gm_34, Option.bind_some, am_66, i100, if_pos rfl, Option.bind_some, cn (show q < 2147483648 by omega), eq6, idx2, n_add, wm_65, i800, if_pos rfl, Option.bind_some, cn (show 100 * e + j + q < 2147483648 by omega), uB_uB, uB_eq]
        · by_cases c : k = 100 * e + j + q
          · subst c
            rw [updL_eq', if_pos (by omega), hf q hq]
            congr 1
            omega
          · rw [updL_ne' c, hs k]
            by_cases c2 : 100 * e + j ≤ k ∧ k < 100 * e + j + q
            · rw [if_pos c2, if_pos (by omega)]
            · rw [if_neg c2, if_neg (by omega)]
      · rintro m s hs
        rw [f_X11_copy_174, if_pos (Int32.le_refl _)]
        exact ⟨_, rfl, _, rfl, fun k => by rw [uB_eq]; exact hs k⟩
    rw [e0] at h
    exact h
  have h1 : ∃ y, f_X11_copy_137 45 10000 (mk A V R (upB B 66 (B 66)) J) (nN d) (nN i) (nN e) (nN j) (nN n) (nN 0) = some y ∧ ∃ B2, y = (nN n, mk A V R B2 J) ∧ ∀ k, B2 65 k = if 100 * e + j ≤ k ∧ k < 100 * e + j + n then B 65 (100 * d + i + (k - (100 * e + j))) else B 65 k := by
    refine lpF (fun m (s : Nat → Int64) q => f_X11_copy_137 45 m (mk A V R (upB B 66 s) J) (nN d) (nN i) (nN e) (nN j) (nN n) q) (fun q s => ∀ k, k < q → s k = B 65 (100 * d + i + k)) (fun y => ∃ B2, y = (nN n, mk A V R B2 J) ∧ ∀ k, B2 65 k = if 100 * e + j ≤ k ∧ k < 100 * e + j + n then B 65 (100 * d + i + (k - (100 * e + j))) else B 65 k) n (i := 0) (s := B 66) (by omega) (by omega) (fun k hk => absurd hk (Nat.not_lt_zero k)) ?_ ?_
    · rintro m q s hq hs
      refine Or.inr ⟨vp_updL s q (B 65 (100 * d + i + q)), ?_, fun k hk => ?_⟩
      · have i100 : inB (nN q) 100 = true := ib (show q < 100 by omega) (by decide)
        have i800 : inB (nN (100 * d + i + q)) 800 = true := ib (show 100 * d + i + q < 800 by omega) (by decide)
        have eq5 : upB B 66 s 65 = B 65 := by unfold upB; rw [if_neg (by decide)]
        rw [f_X11_copy_137, if_neg (le_n hq (by omega)), gm_34, Option.bind_some, gm_33, Option.bind_some, idx2, n_add, am_65, i800, if_pos rfl, Option.bind_some, cn (show 100 * d + i + q < 2147483648 by omega), eq5, wm_66, i100, if_pos rfl, Option.bind_some, cn (show q < 2147483648 by omega), uB_uB, uB_eq]
      · by_cases c : k = q
        · subst c
          exact updL_eq'
        · rw [updL_ne' c]
          exact hs k (by omega)
    · rintro m s hs
      rw [f_X11_copy_137, if_pos (Int32.le_refl _)]
      exact h2 s hs
  obtain ⟨y, e1, B2, rfl, e3⟩ := h1
  refine ⟨B2, ?_, e3⟩
  have e0 : upB B 66 (B 66) = B := by
    funext x
    unfold upB
    by_cases c : x = 66
    · rw [if_pos c, c]
    · rw [if_neg c]
  rw [e0] at e1
  exact e1
/-- what a shelf holds, on both sides -/
theorem sh_any {d : Nat} (hd : d < 8) (sh : ShRep A V R B J d) : ((∀ J', f_X5_holdsNothing (mk A V R B J') (29 + 2 * d) = some 1) ∧ A 60 d = 0) ∨ (((∀ J', f_X5_holdsNothing (mk A V R B J') (29 + 2 * d) = some 0) ∧ ((∀ J', f_X5_holdsRow (mk A V R B J') (29 + 2 * d) = some 0) ∧ (V (29 + 2 * d) 1 = -1 ∧ A 60 d = 1)))
    ∨ ∃ s n, s ≤ 2 ∧ (n ≤ 100 ∧ ((∀ J', f_X5_holdsNothing (mk A V R B J') (29 + 2 * d) = some 0) ∧ ((∀ J', f_X5_holdsRow (mk A V R B J') (29 + 2 * d) = some 1) ∧ (R (29 + 2 * d) 0 = none ∧ (V (29 + 2 * d) 1 = nN s ∧ (V (29 + 2 * d) 2 = nN n ∧ (A 60 d = 2 ∧ (A 63 d = nN s ∧ (A 64 d = nN n ∧ ∀ i, i < n → inSort s (A (30 + 2 * d) i) ∧ B 65 (100 * d + i) = (A (30 + 2 * d) i).toInt64)))))))))) := by
  have ht := isSh_d hd
  have nm : ∀ s, s ≤ 2 → ¬ nN s = -1 := by
    intro s h
    match s, h with
    | 0, _ | 1, _ | 2, _ => decide
  have hr : ∀ J', f_X5_holdsRow (mk A V R B J') (29 + 2 * d) = some (if V (29 + 2 * d) 1 = -1 then 0 else 1) := fun J' => by
    unfold f_X5_holdsRow
    rw [gh_1 ht, Option.bind_some]
    by_cases c : V (29 + 2 * d) 1 = -1
    · rw [if_pos c, if_pos c]
      rfl
    · rw [if_neg c, if_neg c]
      rfl
  rcases sh with ⟨s1, s2, s3⟩ | ⟨k, f, s1, s2, s3, s4, s5⟩ | ⟨s, n, g0, s1, s2, s3, s4, s5, s6, s7, s8⟩
  · exact Or.inl ⟨fun J' => by rw [c_nothing ht, if_pos ⟨s1, s2⟩], s3⟩
  · obtain ⟨a, ha, -⟩ := law_at (A := A) (V := V) (R := R) (B := B) s1
    exact Or.inr (Or.inl ⟨fun J' => by rw [c_nothing ht, if_neg (fun z => by rw [ha] at z; exact absurd z.1 (by simp))], fun J' => by rw [hr, if_pos s2], s2, s3⟩)
  · exact Or.inr (Or.inr ⟨s, n, g0, s1, fun J' => by rw [c_nothing ht, if_neg (fun z => nm s g0 (s3.symm.trans z.2))], fun J' => by rw [hr, s3, if_neg (nm s g0)], s2, s3, s4, s5, s6, s7, s8⟩)
end COP
