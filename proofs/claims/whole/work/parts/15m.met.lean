/-! What lies on a way: a row of numbers met between two plots. -/
section MET
variable {A V : Nat → Nat → Int32} {R : Nat → Nat → Option Nat} {B : Nat → Nat → Int64} {J : List En}
noncomputable def bz (P : Prop) : Int32 := @ite Int32 P (Classical.propDecidable P) 1 0
theorem bz_y {P : Prop} (h : P) : bz P = 1 := by unfold bz; rw [if_pos h]
theorem bz_n {P : Prop} (h : ¬ P) : bz P = 0 := by unfold bz; rw [if_neg h]
theorem bz_ok {P : Prop} : okZ (bz P) = some (bz P) := by
  by_cases h : P
  · rw [bz_y h]; rfl
  · rw [bz_n h]; rfl
theorem bz_c {P Q : Prop} (h : P ↔ Q) : bz P = bz Q := by
  by_cases c : P
  · rw [bz_y c, bz_y (h.mp c)]
  · rw [bz_n c, bz_n (fun z => c (h.mpr z))]
/-- a house between two plots has this number -/
def MT (N : Nat → Nat) (x : Int32) (lo hi : Nat) : Prop := ∃ j, lo ≤ j ∧ (j ≤ hi ∧ (N j ≠ 0 ∧ nN (N j) = x))
/-- all of a row are met between two plots -/
def AM (N : Nat → Nat) (v : Nat → Int32) (n lo hi : Nat) : Prop := ∀ i, i < n → MT N (v i) lo hi
theorem MT.mono {N : Nat → Nat} {x : Int32} {lo hi lo' hi' : Nat} (h : MT N x lo hi) (h1 : lo' ≤ lo) (h2 : hi ≤ hi') : MT N x lo' hi' := by
  obtain ⟨j, a, b, c⟩ := h
  exact ⟨j, by omega, by omega, c⟩
theorem m_isIn {N : Nat → Nat} {x : Int32} {lo hi : Nat} (h12 : hi < 12) (hlo : lo ≤ hi + 1) (hN : ∀ p, p < 12 → N p < 1000 ∧ A 48 p = nN (N p)) : f_X11_isIn (mk A V R B J) 45 x.toInt64 (nN lo) (nN hi) = some (bz (MT N x lo hi)) := by
  have h : ∃ y, f_X11_isIn_6 (mk A V R B J) 45 10000 x.toInt64 (nN hi) 0 (nN lo) = some y ∧ y = bz (MT N x lo hi) := by
    refine lpF (fun n s i => f_X11_isIn_6 (mk A V R B J) 45 n x.toInt64 (nN hi) s i) (fun i s => lo ≤ i ∧ s = bz (∃ j, lo ≤ j ∧ (j < i ∧ (N j ≠ 0 ∧ nN (N j) = x)))) (fun y => y = bz (MT N x lo hi)) (hi + 1) (i := lo) (s := 0) hlo (by omega) ⟨Nat.le_refl _, (bz_n (by rintro ⟨j, h1, h2, -⟩; omega)).symm⟩ ?_ ?_
    · rintro n i s hi' ⟨hl, hs⟩
      refine Or.inr ?_
      have hi12 : i < 12 := by omega
      obtain ⟨b1, b2⟩ := hN i hi12
      rw [f_X11_isIn_6, if_neg (lt_n (show i ≤ hi by omega) (by omega))]
      unfold f_X11_isIn_41 f_X11_isIn_45 f_X11_isIn_46
      by_cases c : ∃ j, lo ≤ j ∧ (j < i ∧ (N j ≠ 0 ∧ nN (N j) = x))
      · rw [hs, bz_y c, if_neg (by decide)]
        obtain ⟨j, d1, d2, d3⟩ := c
        exact ⟨1, rfl, by omega, (bz_y ⟨j, d1, by omega, d3⟩).symm⟩
      · have no : ¬ (N i ≠ 0 ∧ nN (N i) = x) → ¬ ∃ j, lo ≤ j ∧ (j < i + 1 ∧ (N j ≠ 0 ∧ nN (N j) = x)) := by
          rintro hn ⟨j, d1, d2, d3⟩
          by_cases e : j = i
          · subst e; exact hn d3
          · exact c ⟨j, d1, by omega, d3⟩
        rw [hs, bz_n c, if_pos rfl, gm_5, Option.bind_some, am_48, ib12 hi12, if_pos rfl, Option.bind_some, c12 hi12, b2]
        by_cases d : N i = 0
        · rw [if_pos (le0_y d)]
          exact ⟨0, rfl, by omega, (bz_n (no (fun z => z.1 d))).symm⟩
        · rw [if_neg (le0_n d (by omega)), Option.bind_some, am_48, ib12 hi12, if_pos rfl, Option.bind_some, c12 hi12, b2]
          simp only [cmp_0, t64]
          by_cases e : nN (N i) = x
          · rw [if_pos e]
            exact ⟨1, rfl, by omega, (bz_y ⟨i, hl, by omega, d, e⟩).symm⟩
          · rw [if_neg e]
            exact ⟨0, rfl, by omega, (bz_n (no (fun z => e z.2))).symm⟩
    · rintro n s ⟨-, hs⟩
      rw [f_X11_isIn_6, if_pos (lt_y (show hi < hi + 1 by omega) (by omega)), hs, bz_ok]
      refine ⟨_, rfl, bz_c ⟨?_, ?_⟩⟩
      · rintro ⟨j, d1, d2, d3⟩
        exact ⟨j, d1, by omega, d3⟩
      · rintro ⟨j, d1, d2, d3⟩
        exact ⟨j, d1, by omega, d3⟩
  obtain ⟨y, e1, e2⟩ := h
  rw [e2] at e1
  exact e1
theorem idx2 {d i : Nat} : (100 : Int32) * nN d + nN i = nN (100 * d + i) := by
  rw [show (100 : Int32) = nN 100 from rfl, n_mul, n_add]
theorem m_areMet {N : Nat → Nat} {v : Nat → Int32} {d n lo hi : Nat} (hd : d < 8) (hn : n ≤ 100) (s7 : A 64 d = nN n) (s8 : ∀ i, i < n → B 65 (100 * d + i) = (v i).toInt64) (h12 : hi < 12) (hlo : lo ≤ hi + 1) (hN : ∀ p, p < 12 → N p < 1000 ∧ A 48 p = nN (N p)) : f_X11_areMet (mk A V R B J) 45 (nN d) (nN lo) (nN hi) = some (bz (AM N v n lo hi)) := by
  have cd : (nN d).toNatClampNeg = d := cn (by omega)
  have id8 : inB (nN d) 8 = true := ib hd (by decide)
  have h : ∃ y, f_X11_areMet_6 (mk A V R B J) 45 10000 (nN d) (nN lo) (nN hi) 1 (nN 0) = some y ∧ y = bz (AM N v n lo hi) := by
    refine lpF (fun m s i => f_X11_areMet_6 (mk A V R B J) 45 m (nN d) (nN lo) (nN hi) s i) (fun i s => s = bz (AM N v i lo hi)) (fun y => y = bz (AM N v n lo hi)) n (i := 0) (s := 1) (by omega) (by omega) (bz_y (fun i hi => absurd hi (Nat.not_lt_zero i))).symm ?_ ?_
    · rintro m i s hi' hs
      refine Or.inr ?_
      have ib2 : inB (nN (100 * d + i)) 800 = true := ib (show 100 * d + i < 800 by omega) (by decide)
      rw [f_X11_areMet_6, gm_32, Option.bind_some, am_64, id8, if_pos rfl, Option.bind_some, cd, s7, if_neg (le_n hi' (by omega))]
      unfold f_X11_areMet_47 f_X11_areMet_48
      by_cases c : AM N v i lo hi
      · rw [hs, bz_y c, if_neg (by decide), gm_33, Option.bind_some, idx2, am_65, ib2, if_pos rfl, Option.bind_some, cn (show 100 * d + i < 2147483648 by omega), s8 i hi', rm, Option.bind_some, m_isIn h12 hlo hN, Option.bind_some]
        by_cases e : MT N (v i) lo hi
        · rw [bz_y e, if_neg (by decide)]
          refine ⟨1, rfl, (bz_y (fun j hj => ?_)).symm⟩
          by_cases q : j = i
          · rw [q]; exact e
          · exact c j (by omega)
        · rw [bz_n e, if_pos rfl]
          exact ⟨0, rfl, (bz_n (fun z => e (z i (by omega)))).symm⟩
      · rw [hs, bz_n c, if_pos rfl]
        exact ⟨0, rfl, (bz_n (fun z => c (fun j hj => z j (by omega)))).symm⟩
    · rintro m s hs
      rw [f_X11_areMet_6, gm_32, Option.bind_some, am_64, id8, if_pos rfl, Option.bind_some, cd, s7, if_pos (Int32.le_refl _), hs, bz_ok]
      exact ⟨_, rfl, rfl⟩
  obtain ⟨y, e1, e2⟩ := h
  rw [e2] at e1
  exact e1
/-- the plots between two, as bits -/
def pb (lo hi : Nat) : Int32 := ((4095 : Int32) >>> (((11 : Int32) - nN hi) &&& 31)) &&& ((4095 : Int32) <<< (nN lo &&& 31))
theorem pb_tab : ∀ lo, lo < 12 → ∀ hi, hi < 12 → ∀ j, j < 12 → ((((1 : Int32) <<< (nN j &&& 31)) &&& pb lo hi) = 0 ↔ ¬ (lo ≤ j ∧ j ≤ hi)) := by decide +kernel
theorem c_comes {N : Nat → Nat} {v : Nat → Int32} {d n lo hi : Nat} (hd : d < 8) (hn : n ≤ 100) (s4 : V (29 + 2 * d) 2 = nN n) (hv : ∀ i, i < n → A (29 + 2 * d + 1) i = v i) (hlo : lo < 12) (h12 : hi < 12) (hN : ∀ p, p < 12 → N p < 1000 ∧ A (1 + 1) p = nN (N p)) : f_X10_comesByAll (mk A V R B J) 0 (some (29 + 2 * d)) (pb lo hi) = some (bz (AM N v n lo hi)) := by
  have ht := isSh_d hd
  have h : ∃ y, f_X10_comesByAll_2 (mk A V R B J) 0 10000 (some (29 + 2 * d)) (pb lo hi) (nN 0) = some y ∧ y = bz (AM N v n lo hi) := by
    refine lpF (S := Unit) (fun m _ i => f_X10_comesByAll_2 (mk A V R B J) 0 m (some (29 + 2 * d)) (pb lo hi) i) (fun i _ => AM N v i lo hi) (fun y => y = bz (AM N v n lo hi)) n (i := 0) (s := ()) (by omega) (by omega) (fun i hi => absurd hi (Nat.not_lt_zero i)) ?_ ?_
    · rintro m i _ hi' hs
      obtain ⟨b, e1, e2, -⟩ := c_pw (A := A) (V := V) (R := R) (B := B) (J := J) (x := v i) isT hN
      rw [f_X10_comesByAll_2, gh_2 ht, Option.bind_some, s4, if_neg (le_n hi' (by omega)), go_0, Option.bind_some, rh ht, Option.bind_some, c_at ht hn s4 (by omega), if_pos hi', Option.bind_some, rs isT, Option.bind_some, hv i hi', e1, Option.bind_some]
      have e3 : (b &&& pb lo hi) = 0 ↔ ¬ MT N (v i) lo hi := by
        rw [e2]
        constructor
        · rintro g ⟨j, d1, d2, d3, d4⟩
          exact (pb_tab lo hlo hi h12 j (by omega)).mp (g j (by omega) d3 d4) ⟨d1, d2⟩
        · rintro g j hj d3 d4
          exact (pb_tab lo hlo hi h12 j hj).mpr (fun z => g ⟨j, z.1, z.2, d3, d4⟩)
      by_cases c : MT N (v i) lo hi
      · rw [if_neg (fun z => e3.mp z c)]
        refine Or.inr ⟨(), rfl, fun j hj => ?_⟩
        by_cases q : j = i
        · rw [q]; exact c
        · exact hs j (by omega)
      · rw [if_pos (e3.mpr c)]
        exact Or.inl ⟨0, rfl, (bz_n (fun z => c (z i hi'))).symm⟩
    · rintro m _ hs
      rw [f_X10_comesByAll_2, gh_2 ht, Option.bind_some, s4, if_pos (Int32.le_refl _)]
      exact ⟨1, rfl, (bz_y hs).symm⟩
  obtain ⟨y, e1, e2⟩ := h
  rw [e2] at e1
  exact e1
end MET
