/-! street: the model reads all; a statement comes -/
section RDL
variable {A V : Nat → Nat → Int32} {R : Nat → Nat → Option Nat} {B : Nat → Nat → Int64} {J : List En}
variable {V0 : Nat → Nat → Int32} {d n : Nat} {v : Nat → Int32}
theorem m_51 (hd : d < 8) (hn : n ≤ 100) (hB : ∀ i, i < n → B 65 (100 * d + i) = (v i).toInt64) (hb : ∀ i, i < n → (v i).toInt8.toInt32 = v i) : ∀ (q a k m : Nat) (A V : Nat → Nat → Int32), q + 1 < m → PV V0 V d n a 0 k → (a < n ∨ (a = n ∧ 1 ≤ k)) → n ≤ a + 4 * q → 4 * k ≤ a → ∃ A' V', f_X11_street_51 45 m (mk A V R B J) = f_X11_street_83 45 (mk A' V' R B J) ∧ ((∀ x, ¬ (51 ≤ x ∧ x ≤ 54) → A' x = A x) ∧ ((∀ x i, i < k → A' x i = A x i) ∧ ((psK (ct n v) n q a = none ∧ (PV V0 V' d n n 0 (k + (psL (ct n v) n q a).length) ∧ ∀ i, i < (psL (ct n v) n q a).length → DR (ct n v) A' (k + i) ((psL (ct n v) n q a).getD i 0))) ∨ ∃ j k', psK (ct n v) n q a = some j ∧ PV V0 V' d n j 1 k'))) := by
  have fin : ∀ (q k m : Nat) (A V : Nat → Nat → Int32), 0 < m → PV V0 V d n n 0 k → 1 ≤ k → k < 1000 → ∃ A' V', f_X11_street_51 45 m (mk A V R B J) = f_X11_street_83 45 (mk A' V' R B J) ∧ ((∀ x, ¬ (51 ≤ x ∧ x ≤ 54) → A' x = A x) ∧ ((∀ x i, i < k → A' x i = A x i) ∧ ((psK (ct n v) n q n = none ∧ (PV V0 V' d n n 0 (k + (psL (ct n v) n q n).length) ∧ ∀ i, i < (psL (ct n v) n q n).length → DR (ct n v) A' (k + i) ((psL (ct n v) n q n).getD i 0))) ∨ ∃ j k', psK (ct n v) n q n = some j ∧ PV V0 V' d n j 1 k'))) := by
    intro q k m A V hm h h1 hk
    obtain ⟨m, rfl⟩ : ∃ m', m = m' + 1 := ⟨m - 1, by omega⟩
    obtain ⟨p1, p2, p3, p4, p5, p6⟩ := id h
    refine ⟨A, V, ?_, fun _ _ => rfl, fun _ _ _ => rfl, Or.inl ⟨psK_e (Nat.le_refl _), ?_, ?_⟩⟩
    · rw [f_X11_street_51, gm_12, Option.bind_some, p4, if_pos rfl, gm_13, Option.bind_some, p5, if_neg (n_ne0 (by omega) (by omega)), gm_11, Option.bind_some, gm_10, Option.bind_some, p3, p2, if_pos (Int32.le_refl _)]
    · rw [psL_e (Nat.le_refl _)]
      exact h
    · rw [psL_e (Nat.le_refl _)]
      exact fun i hi => absurd hi (Nat.not_lt_zero i)
  intro q
  induction q with
  | zero =>
    intro a k m A V hm h h1 h2 h3
    have ea : a = n := by omega
    subst ea
    exact fin 0 k m A V (by omega) h (by omega) (by omega)
  | succ q ih =>
    intro a k m A V hm h h1 h2 h3
    by_cases c : a < n
    · obtain ⟨m, rfl⟩ : ∃ m', m = m' + 1 := ⟨m - 1, by omega⟩
      obtain ⟨p1, p2, p3, p4, p5, p6⟩ := id h
      obtain ⟨A1, V1, e1, k1, r1⟩ := m_stmt (A := A) (R := R) (J := J) hd hn hB hb h (by omega) (by omega)
      have st : f_X11_street_51 45 (m + 1) (mk A V R B J) = f_X11_street_51 45 m (mk A1 V1 R B J) := by
        rw [f_X11_street_51, gm_12, Option.bind_some, p4, if_pos rfl, gm_13, Option.bind_some, p5]
        unfold f_X11_street_76
        by_cases k0 : k = 0
        · rw [if_pos (by rw [k0]; rfl), rm, Option.bind_some, e1, Option.bind_some]
        · rw [if_neg (n_ne0 k0 (by omega)), gm_11, Option.bind_some, gm_10, Option.bind_some, p3, p2, if_neg (le_n c (by omega)), rm, Option.bind_some, e1, Option.bind_some]
      rcases r1 with ⟨s1, g1, g2⟩ | ⟨j, s1, g1⟩
      · obtain ⟨d1, d2, -⟩ := stk_none s1
        obtain ⟨A2, V2, e2, f2, f3, r2⟩ := ih (a + dg (ct n v a) + 2) (k + 1) m A1 V1 (by omega) g1 (by omega) (by omega) (by omega)
        refine ⟨A2, V2, st.trans e2, fun x hx => (f2 x hx).trans (k1.1 x hx), fun x i hi => (f3 x i (by omega)).trans (k1.2 x i (by omega)), ?_⟩
        rw [psK_n c s1, psL_n c]
        rcases r2 with ⟨t1, t2, t3⟩ | ⟨j, k', t1, t2⟩
        · refine Or.inl ⟨t1, ?_, fun i hi => ?_⟩
          · rw [List.length_cons, show k + ((psL (ct n v) n q (a + dg (ct n v a) + 2)).length + 1) = k + 1 + (psL (ct n v) n q (a + dg (ct n v a) + 2)).length by omega]
            exact t2
          · rw [List.length_cons] at hi
            by_cases i0 : i = 0
            · subst i0
              obtain ⟨u1, u2, u3, u4⟩ := g2
              exact ⟨(f3 51 k (by omega)).trans u1, (f3 52 k (by omega)).trans u2, (f3 53 k (by omega)).trans u3, (f3 54 k (by omega)).trans u4⟩
            · obtain ⟨i', rfl⟩ : ∃ i', i = i' + 1 := ⟨i - 1, by omega⟩
              have := t3 i' (by omega)
              rw [show k + 1 + i' = k + (i' + 1) by omega] at this
              exact this
        · exact Or.inr ⟨j, k', t1, t2⟩
      · obtain ⟨m, rfl⟩ : ∃ m', m = m' + 1 := ⟨m - 1, by omega⟩
        refine ⟨A1, V1, st.trans ?_, k1.1, fun x i hi => k1.2 x i (by omega), Or.inr ⟨j, k + 1, psK_s c s1, g1⟩⟩
        obtain ⟨q1, q2, q3, q4, q5, q6⟩ := id g1
        rw [f_X11_street_51, gm_12, Option.bind_some, q4, if_neg (by decide)]
    · have ea : a = n := by omega
      subst ea
      exact fin (q + 1) k m A V (by omega) h (by omega) (by omega)
/-- a town under another law -/
def lwT (T : Tn) (k f : Nat) : Tn := (k, f, T.2.2)
/-- what a statement makes of a town -/
def apS (T : Tn) (x : Int32) (F S : Nat) : Option Tn :=
  if x = 98 then (if F < 12 ∧ (1 ≤ S ∧ (tE T < 30 ∧ tN T F = 0)) then some (rsT T F S) else none)
  else if x = 102 then (if F < 12 ∧ (tE T < 30 ∧ tN T F ≠ 0) then some (rzT T F) else none)
  else if F < 8 then some (lwT T F S) else none
theorem Wf.ap {T T' : Tn} {x : Int32} {F S : Nat} (w : Wf T) (hS : S ≤ 9) (h : apS T x F S = some T') : Wf T' := by
  unfold apS at h
  by_cases c1 : x = 98
  · rw [if_pos c1] at h
    by_cases c : F < 12 ∧ (1 ≤ S ∧ (tE T < 30 ∧ tN T F = 0))
    · rw [if_pos c] at h
      rw [← Option.some.inj h]
      exact w.rs c.1 c.2.1 hS c.2.2.1 c.2.2.2
    · rw [if_neg c] at h
      cases h
  · rw [if_neg c1] at h
    by_cases c2 : x = 102
    · rw [if_pos c2] at h
      by_cases c : F < 12 ∧ (tE T < 30 ∧ tN T F ≠ 0)
      · rw [if_pos c] at h
        rw [← Option.some.inj h]
        exact w.rz c.1 c.2.1 c.2.2
      · rw [if_neg c] at h
        cases h
    · rw [if_neg c2] at h
      by_cases c : F < 8
      · rw [if_pos c] at h
        rw [← Option.some.inj h]
        exact ⟨by show F ≤ 7; omega, hS, w.2.2⟩
      · rw [if_neg c] at h
        cases h
/-- the model's rows and fields of its town alone change -/
def FrmW (A V A' V' : Nat → Nat → Int32) : Prop := (∀ a, ¬ (46 ≤ a ∧ a ≤ 50) → A' a = A a) ∧ ∀ a k, ¬ (a = 45 ∧ k < 3) → V' a k = V a k
theorem FrmW.tr {A1 V1 A2 V2 A3 V3 : Nat → Nat → Int32} (h : FrmW A1 V1 A2 V2) (g : FrmW A2 V2 A3 V3) : FrmW A1 V1 A3 V3 := ⟨fun a ha => (g.1 a ha).trans (h.1 a ha), fun a k ha => (g.2 a k ha).trans (h.2 a k ha)⟩
theorem m_comes {T : Tn} {i F S : Nat} {x : Int32} (w : Wf T) (mo : MoRep A V T) (hi : i < 51) (hF : F < 100) (hS : S ≤ 9) (r52 : A 52 i = x) (r53 : A 53 i = nN F) (r54 : A 54 i = nN S) (hx : x = 98 ∨ (x = 102 ∨ x = 108)) : (apS T x F S = none ∧ f_X11_comes (mk A V R B J) 45 (nN i) = some (0, mk A V R B J)) ∨ ∃ T' A' V', apS T x F S = some T' ∧ (f_X11_comes (mk A V R B J) 45 (nN i) = some (1, mk A' V' R B J) ∧ (FrmW A V A' V' ∧ MoRep A' V' T')) := by
  have ic : (nN i).toNatClampNeg = i := cn (by omega)
  have hE := w.2.2.1.1
  have hd : ∀ y : Option (Int32 × Hp), (if x = 98 then (if (12 : Int32) ≤ nN F then f_X11_comes_90 45 (mk A V R B J) (nN F) (nN S) else if nN S ≤ 0 then f_X11_comes_90 45 (mk A V R B J) (nN F) (nN S) else if (30 : Int32) ≤ nN (tE T) then f_X11_comes_90 45 (mk A V R B J) (nN F) (nN S) else if (12 : Int32) ≤ nN F then f_X11_comes_82 45 (mk A V R B J) (nN F) (nN S) 0 (some 48) else f_X11_comes_82 45 (mk A V R B J) (nN F) (nN S) (nN F) (some 48)) else if x = 102 then (if (12 : Int32) ≤ nN F then f_X11_comes_145 45 (mk A V R B J) (nN F) else if (30 : Int32) ≤ nN (tE T) then f_X11_comes_145 45 (mk A V R B J) (nN F) else if (12 : Int32) ≤ nN F then f_X11_comes_137 45 (mk A V R B J) (nN F) 0 (some 48) else f_X11_comes_137 45 (mk A V R B J) (nN F) (nN F) (some 48)) else if (8 : Int32) ≤ nN F then f_X11_comes_172 45 (mk A V R B J) (nN F) (nN S) 0 else f_X11_comes_172 45 (mk A V R B J) (nN F) (nN S) 1) = y → f_X11_comes (mk A V R B J) 45 (nN i) = y := by
    intro y hy
    unfold f_X11_comes
    rw [gm_16, Option.bind_some, am_53, ib51 hi, if_pos rfl, Option.bind_some, ic, r53, gm_17, Option.bind_some, am_54, ib51 hi, if_pos rfl, Option.bind_some, ic, r54, gm_15, Option.bind_some, am_52, ib51 hi, if_pos rfl, Option.bind_some, ic, r52, gm_2, Option.bind_some, mo.1.2.2, gm_5, Option.bind_some, Option.bind_some, Option.bind_some]
    exact hy
  have e90 : f_X11_comes_90 45 (mk A V R B J) (nN F) (nN S) = some (0, mk A V R B J) := by
    unfold f_X11_comes_90 f_X11_comes_91
    rw [if_pos rfl, okZ0, Option.bind_some]
  have e145 : f_X11_comes_145 45 (mk A V R B J) (nN F) = some (0, mk A V R B J) := by
    unfold f_X11_comes_145 f_X11_comes_146
    rw [if_pos rfl, okZ0, Option.bind_some]
  unfold apS
  rcases hx with hx | hx | hx
  · rw [if_pos hx]
    by_cases c : F < 12 ∧ (1 ≤ S ∧ (tE T < 30 ∧ tN T F = 0))
    · obtain ⟨c1, c2, c3, c4⟩ := c
      obtain ⟨A2, e2, f2, mo2⟩ := m_builds (R := R) (B := B) (J := J) (x := S) w mo c1 c3
      rw [if_pos ⟨c1, c2, c3, c4⟩]
      refine Or.inr ⟨_, A2, upV V 45 2 (nN (tE T + 1)), rfl, hd _ ?_, ⟨f2, fun a k ha => uV_ne (fun q => ha ⟨q.1, by omega⟩)⟩, mo2⟩
      rw [if_pos hx, if_neg (show ¬ (12 : Int32) ≤ nN F from le_n (a := 12) c1 (by decide)), if_neg (le0_n (by omega) (by omega)), if_neg (ge30 c3), if_neg (show ¬ (12 : Int32) ≤ nN F from le_n (a := 12) c1 (by decide))]
      unfold f_X11_comes_82 f_X11_comes_91
      rw [am_48, ib12 c1, if_pos rfl, Option.bind_some, c12 c1, mo.2.2 F c1, c4, if_pos (show nN 0 = 0 from rfl), if_neg (by decide), rm, Option.bind_some, e2, Option.bind_some, okZ1, Option.bind_some]
    · rw [if_neg c]
      refine Or.inl ⟨rfl, hd _ ?_⟩
      rw [if_pos hx]
      by_cases c1 : F < 12
      · rw [if_neg (show ¬ (12 : Int32) ≤ nN F from le_n (a := 12) c1 (by decide)), if_neg (show ¬ (12 : Int32) ≤ nN F from le_n (a := 12) c1 (by decide))]
        by_cases c2 : S = 0
        · rw [if_pos (le0_y c2)]
          exact e90
        · rw [if_neg (le0_n c2 (by omega))]
          by_cases c3 : tE T < 30
          · rw [if_neg (ge30 c3)]
            unfold f_X11_comes_82
            rw [am_48, ib12 c1, if_pos rfl, Option.bind_some, c12 c1, mo.2.2 F c1, if_neg (n_ne0 (fun z => c ⟨c1, by omega, c3, z⟩) (by have := w.num F c1; omega))]
            exact e90
          · rw [if_pos (show (30 : Int32) ≤ nN (tE T) from le_y (a := 30) (by omega) (by omega))]
            exact e90
      · rw [if_pos (show (12 : Int32) ≤ nN F from le_y (a := 12) (by omega) (by omega))]
        exact e90
  · have n98 : ¬ x = 98 := by rw [hx]; decide
    rw [if_neg n98, if_pos hx]
    by_cases c : F < 12 ∧ (tE T < 30 ∧ tN T F ≠ 0)
    · obtain ⟨c1, c3, c4⟩ := c
      obtain ⟨A2, e2, f2, mo2⟩ := m_burns (R := R) (B := B) (J := J) mo c1 c3
      rw [if_pos ⟨c1, c3, c4⟩]
      refine Or.inr ⟨_, A2, upV V 45 2 (nN (tE T + 1)), rfl, hd _ ?_, ⟨f2, fun a k ha => uV_ne (fun q => ha ⟨q.1, by omega⟩)⟩, mo2⟩
      rw [if_neg n98, if_pos hx, if_neg (show ¬ (12 : Int32) ≤ nN F from le_n (a := 12) c1 (by decide)), if_neg (ge30 c3), if_neg (show ¬ (12 : Int32) ≤ nN F from le_n (a := 12) c1 (by decide))]
      unfold f_X11_comes_137 f_X11_comes_146
      rw [am_48, ib12 c1, if_pos rfl, Option.bind_some, c12 c1, mo.2.2 F c1, if_neg (le0_n c4 (by have := w.num F c1; omega)), if_neg (by decide), rm, Option.bind_some, e2, Option.bind_some, okZ1, Option.bind_some]
    · rw [if_neg c]
      refine Or.inl ⟨rfl, hd _ ?_⟩
      rw [if_neg n98, if_pos hx]
      by_cases c1 : F < 12
      · rw [if_neg (show ¬ (12 : Int32) ≤ nN F from le_n (a := 12) c1 (by decide)), if_neg (show ¬ (12 : Int32) ≤ nN F from le_n (a := 12) c1 (by decide))]
        by_cases c3 : tE T < 30
        · have z : tN T F = 0 := by
            by_cases z : tN T F = 0
            · exact z
            · exact absurd ⟨c1, c3, z⟩ c
          rw [if_neg (ge30 c3)]
          unfold f_X11_comes_137
          rw [am_48, ib12 c1, if_pos rfl, Option.bind_some, c12 c1, mo.2.2 F c1, if_pos (le0_y z)]
          exact e145
        · rw [if_pos (show (30 : Int32) ≤ nN (tE T) from le_y (a := 30) (by omega) (by omega))]
          exact e145
      · rw [if_pos (show (12 : Int32) ≤ nN F from le_y (a := 12) (by omega) (by omega))]
        exact e145
  · have n98 : ¬ x = 98 := by rw [hx]; decide
    have n102 : ¬ x = 102 := by rw [hx]; decide
    rw [if_neg n98, if_neg n102]
    by_cases c : F < 8
    · rw [if_pos c]
      refine Or.inr ⟨_, A, upV (upV V 45 0 (nN F)) 45 1 (nN S), rfl, hd _ ?_, ⟨fun _ _ => rfl, fun a k ha => (uV_ne (fun q => ha ⟨q.1, by omega⟩)).trans (uV_ne (fun q => ha ⟨q.1, by omega⟩))⟩, ⟨(uV_ne (by decide)).trans uV_eq, uV_eq, (uV_ne (by decide)).trans ((uV_ne (by decide)).trans mo.1.2.2)⟩, mo.2.1, mo.2.2⟩
      rw [if_neg n98, if_neg n102, if_neg (show ¬ (8 : Int32) ≤ nN F from le_n (a := 8) c (by decide))]
      unfold f_X11_comes_172 f_X11_comes_188
      rw [if_neg (by decide), pm_0, Option.bind_some, if_neg (by decide), pm_1, Option.bind_some, okZ1, Option.bind_some]
    · rw [if_neg c]
      refine Or.inl ⟨rfl, hd _ ?_⟩
      rw [if_neg n98, if_neg n102, if_pos (show (8 : Int32) ≤ nN F from le_y (a := 8) (by omega) (by omega))]
      unfold f_X11_comes_172 f_X11_comes_188
      rw [if_pos rfl, gm_0, Option.bind_some, pm_0, Option.bind_some, if_pos rfl, gm_1, Option.bind_some, pm_1, Option.bind_some, okZ0, Option.bind_some, uV_put rfl, uV_put rfl]
end RDL
