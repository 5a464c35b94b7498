/-! street: the model reads statements -/
section RDS
variable {A V : Nat → Nat → Int32} {R : Nat → Nat → Option Nat} {B : Nat → Nat → Int64} {J : List En}
variable {V0 : Nat → Nat → Int32} {d n : Nat} {v : Nat → Int32}
theorem m_78 {p k : Nat} {b x2 s0 s1 : Int32} (hd : d < 8) (hn : n ≤ 100) (hB : ∀ i, i < n → B 65 (100 * d + i) = (v i).toInt64) (hb : ∀ i, i < n → (v i).toInt8.toInt32 = v i) {a : Nat} (h : PV V0 V d n a b k) (hs : s1 + s0 = nN p) (hp : p < 600) (hk : k < 51) (hb01 : b = 0 ∨ b = 1) (D : Nat) (hD : D = if x2 = 98 then 3 else 2) : ∃ A' V', f_X11_readStatement_78 45 (mk A V R B J) (nN k) x2 s0 s1 (some 45) = some (mk A' V' R B J) ∧ (RK k A A' ∧ ((∀ x, x ≠ 53 → x ≠ 54 → A' x = A x) ∧ (PV V0 V' d n (rn (ct n v) D p b).1 (rn (ct n v) D p b).2 (k + 1) ∧ ((rn (ct n v) D p b).2 = 0 → A' 53 k = (if x2 = 98 ∨ x2 = 102 then 10 * (ct n v p - 48) + (ct n v (p + 1) - 48) else ct n v p - 48) ∧ A' 54 k = if x2 = 98 then ct n v (p + 2) - 48 else if x2 = 102 then 0 else ct n v (p + 1) - 48)))) := by
  have kc : (nN k).toNatClampNeg = k := cn (by omega)
  have p1 : PV V0 (upV V 45 11 (nN p)) d n p b k := h.at
  obtain ⟨V1, r, e1, g1⟩ := m_digit (A := A) (R := R) (J := J) hd hn hB hb p1 (by omega) hb01
  unfold f_X11_readStatement_78
  rw [hs, pm_11, Option.bind_some, gm_16, Option.bind_some, rm, Option.bind_some, e1, Option.bind_some]
  dsimp only
  rw [wm_53, ib51 hk, if_pos rfl, Option.bind_some, kc]
  have fin : ∀ (b1 : Int32) (p2 : Nat) (V1 : Nat → Nat → Int32), PV V0 V1 d n p2 b1 k → p2 ≤ p + 1 → (b1 = 0 ∨ b1 = 1) → (∀ e, rn (ct n v) (e + 1) p b = rn (ct n v) e p2 b1) → ((∃ e, (rn (ct n v) (e + 1) p b).2 = 0) → r = ct n v p - 48 ∧ p2 = p + 1) → ∃ A' V', (if x2 = 98 then f_X11_readStatement_104 45 (mk (upA A 53 (upd (A 53) k r)) V1 R B J) (nN k) x2 else if x2 = 102 then f_X11_readStatement_104 45 (mk (upA A 53 (upd (A 53) k r)) V1 R B J) (nN k) x2 else f_X11_readStatement_124 45 (mk (upA A 53 (upd (A 53) k r)) V1 R B J) (nN k) x2) = some (mk A' V' R B J) ∧ (RK k A A' ∧ ((∀ x, x ≠ 53 → x ≠ 54 → A' x = A x) ∧ (PV V0 V' d n (rn (ct n v) D p b).1 (rn (ct n v) D p b).2 (k + 1) ∧ ((rn (ct n v) D p b).2 = 0 → A' 53 k = (if x2 = 98 ∨ x2 = 102 then 10 * (ct n v p - 48) + (ct n v (p + 1) - 48) else ct n v p - 48) ∧ A' 54 k = if x2 = 98 then ct n v (p + 2) - 48 else if x2 = 102 then 0 else ct n v (p + 1) - 48)))) := by
    intro b1 p2 V1 g3 hp2 hb1 hrn hok
    by_cases c1 : x2 = 98
    · have n102 : x2 ≠ 102 := by rw [c1]; decide
      obtain ⟨A', V', e2, k2, f2, q2, w2⟩ := m_104 (A := upA A 53 (upd (A 53) k r)) (R := R) (J := J) (x2 := x2) hd hn hB hb g3 (by omega) hk hb1 1 (Or.inr ⟨n102, rfl⟩)
      rw [← hrn] at q2 w2
      have eD : D = 3 := by rw [hD, if_pos c1]
      subst eD
      rw [if_pos c1]
      refine ⟨A', V', e2, (RK.up (by decide)).tr k2, fun x h1 h2 => (f2 x h1 h2).trans (uA_ne h1), q2, fun z => ?_⟩
      obtain ⟨w3, w4⟩ := w2 z
      obtain ⟨o1, o2⟩ := hok ⟨_, z⟩
      rw [uA_eq, upd_eq, o1, o2] at w3
      rw [if_neg n102, o2] at w4
      exact ⟨by rw [if_pos (Or.inl c1)]; exact w3, by rw [if_pos c1]; exact w4⟩
    · rw [if_neg c1]
      have eD : D = 2 := by rw [hD, if_neg c1]
      subst eD
      by_cases c2 : x2 = 102
      · obtain ⟨A', V', e2, k2, f2, q2, w2⟩ := m_104 (A := upA A 53 (upd (A 53) k r)) (R := R) (J := J) (x2 := x2) hd hn hB hb g3 (by omega) hk hb1 0 (Or.inl ⟨c2, rfl⟩)
        rw [← hrn] at q2 w2
        rw [if_pos c2]
        refine ⟨A', V', e2, (RK.up (by decide)).tr k2, fun x h1 h2 => (f2 x h1 h2).trans (uA_ne h1), q2, fun z => ?_⟩
        obtain ⟨w3, w4⟩ := w2 z
        obtain ⟨o1, o2⟩ := hok ⟨_, z⟩
        rw [uA_eq, upd_eq, o1, o2] at w3
        rw [if_pos c2] at w4
        exact ⟨by rw [if_pos (Or.inr c2)]; exact w3, by rw [if_neg c1, if_pos c2]; exact w4⟩
      · obtain ⟨A', V', e2, k2, f2, q2, w2⟩ := m_124 (A := upA A 53 (upd (A 53) k r)) (R := R) (J := J) (x2 := x2) hd hn hB hb g3 (by omega) hk hb1 1 (Or.inr ⟨c2, rfl⟩)
        rw [← hrn] at q2 w2
        rw [if_neg c2]
        refine ⟨A', V', e2, (RK.up (by decide)).tr k2, fun x h1 h2 => (f2 x h2).trans (uA_ne h1), q2, fun z => ?_⟩
        have w4 := w2 z
        obtain ⟨o1, o2⟩ := hok ⟨_, z⟩
        rw [if_neg c2, o2] at w4
        refine ⟨?_, by rw [if_neg c1, if_neg c2]; exact w4⟩
        rw [if_neg (fun z => z.elim c1 c2), f2 53 (by decide), uA_eq, upd_eq, o1]
  rcases g1 with ⟨g1, g2, g3, g4⟩ | ⟨g1, g3, g4⟩
  · exact fin 0 (p + 1) V1 g3 (Nat.le_refl _) (Or.inl rfl) (fun e => rn_y ⟨g1, g2⟩) (fun _ => ⟨g4, rfl⟩)
  · exact fin 1 p V1 g3 (by omega) (Or.inr rfl) (fun e => rn_n g1) (fun z => by
      obtain ⟨e, z⟩ := z
      exact absurd (rn_0 z).1 g1)
/-- a digit's worth -/
def dv (x : Int32) : Nat := x.toNatClampNeg - 48
theorem dv_e {x : Int32} (h : isD x) : x - 48 = nN (dv x) ∧ dv x ≤ 9 := by
  rcases rng x 48 57 (by decide) (by decide) with ⟨m, h1, h2, rfl⟩ | c
  · unfold dv
    rw [cn (by omega), show (48 : Int32) = nN 48 from rfl, n_sub h1]
    exact ⟨rfl, by omega⟩
  · exact absurd h c
def sF (c : Nat → Int32) (a : Nat) : Nat := if c a = 108 then dv (c (a + 1)) else 10 * dv (c (a + 1)) + dv (c (a + 2))
def sS (c : Nat → Int32) (a : Nat) : Nat := if c a = 98 then dv (c (a + 3)) else if c a = 102 then 0 else dv (c (a + 2))
/-- what the rows tell of a statement -/
def DR (c : Nat → Int32) (A : Nat → Nat → Int32) (i a : Nat) : Prop := A 51 i = nN a ∧ (A 52 i = c a ∧ (A 53 i = nN (sF c a) ∧ A 54 i = nN (sS c a)))
theorem dg_let {x : Int32} (h : dg x ≠ 0) : (x = 98 ∧ dg x = 3) ∨ ((x = 102 ∧ dg x = 2) ∨ (x = 108 ∧ dg x = 2)) := by
  unfold dg at h ⊢
  by_cases c1 : x = 98
  · exact Or.inl ⟨c1, by rw [if_pos c1]⟩
  · rw [if_neg c1] at h ⊢
    by_cases c2 : x = 102
    · exact Or.inr (Or.inl ⟨c2, by rw [if_pos c2]⟩)
    · rw [if_neg c2] at h ⊢
      by_cases c3 : x = 108
      · exact Or.inr (Or.inr ⟨c3, by rw [if_pos c3]⟩)
      · rw [if_neg c3] at h
        exact absurd rfl h
theorem m_stmt {a k : Nat} (hd : d < 8) (hn : n ≤ 100) (hB : ∀ i, i < n → B 65 (100 * d + i) = (v i).toInt64) (hb : ∀ i, i < n → (v i).toInt8.toInt32 = v i) (h : PV V0 V d n a 0 k) (ha : a < 500) (hk : k < 51) : ∃ A' V', f_X11_readStatement (mk A V R B J) 45 = some (mk A' V' R B J) ∧ (RK k A A' ∧ ((stk (ct n v) a = none ∧ (PV V0 V' d n (a + dg (ct n v a) + 2) 0 (k + 1) ∧ DR (ct n v) A' k a)) ∨ ∃ j, stk (ct n v) a = some j ∧ PV V0 V' d n j 1 (k + 1))) := by
  have kc : (nN k).toNatClampNeg = k := cn (by omega)
  obtain ⟨h1, h2, h3, h4, h5, h6⟩ := id h
  have he := hr_e hb a
  unfold f_X11_readStatement
  rw [gm_13, Option.bind_some, h5, rm, Option.bind_some, m_here hd hn hB h (by omega), Option.bind_some, gm_14, Option.bind_some, gm_11, Option.bind_some, h3, wm_51, ib51 hk, if_pos rfl, Option.bind_some, kc, gm_15, Option.bind_some, wm_52, ib51 hk, if_pos rfl, Option.bind_some, kc, gm_12, Option.bind_some, h4, if_pos rfl]
  have rk0 : RK k A (upA (upA A 51 (upd (A 51) k (nN a))) 52 (upd (upA A 51 (upd (A 51) k (nN a)) 52) k (hr n v a))) := (RK.up (by decide)).tr (RK.up (by decide))
  unfold f_X11_readStatement_57 f_X11_readStatement_53 f_X11_readStatement_58
  by_cases c0 : dg (ct n v a) = 0
  · have nl : ¬ hr n v a = 98 ∧ (¬ hr n v a = 102 ∧ ¬ hr n v a = 108) := by
      rw [he.1.1, he.1.2, he.2.1.1]
      unfold dg at c0
      refine ⟨fun z => ?_, fun z => ?_, fun z => ?_⟩
      · rw [if_pos z] at c0
        exact absurd c0 (by decide)
      · rw [z, if_neg (by decide), if_pos rfl] at c0
        exact absurd c0 (by decide)
      · rw [z, if_neg (by decide), if_neg (by decide), if_pos rfl] at c0
        exact absurd c0 (by decide)
    rw [if_neg nl.1, if_neg nl.2.1, if_neg nl.2.2, okZ1, Option.bind_some, pm_12, Option.bind_some, gm_11, Option.bind_some, uV_ne (by decide), h3, gm_12, Option.bind_some, uV_eq, if_neg (by decide)]
    obtain ⟨A', V', e1, k1, f1, p1, -⟩ := m_78 (A := upA (upA A 51 (upd (A 51) k (nN a))) 52 (upd (upA A 51 (upd (A 51) k (nN a)) 52) k (hr n v a))) (R := R) (J := J) (x2 := hr n v a) (s0 := 0) (s1 := nN a) hd hn hB hb (h.bad (b' := 1)) (p := a) (Int32.add_zero _) (by omega) hk (Or.inr rfl) _ rfl
    rw [rn_bad] at p1
    refine ⟨A', V', e1, rk0.tr k1, Or.inr ⟨a, ?_, p1⟩⟩
    unfold stk
    rw [if_pos c0]
  · have hD : dg (ct n v a) = if hr n v a = 98 then 3 else 2 := by
      rcases dg_let c0 with ⟨z, z2⟩ | ⟨z, z2⟩ | ⟨z, z2⟩
      · rw [z2, if_pos (he.1.1.mpr z)]
      · rw [z2, if_neg (fun y => by rw [he.1.1, z] at y; exact absurd y (by decide))]
      · rw [z2, if_neg (fun y => by rw [he.1.1, z] at y; exact absurd y (by decide))]
    have ehr : hr n v a = ct n v a := by
      rcases dg_let c0 with ⟨z, z2⟩ | ⟨z, z2⟩ | ⟨z, z2⟩
      · rw [z, he.1.1.mpr z]
      · rw [z, he.1.2.mpr z]
      · rw [z, he.2.1.1.mpr z]
    obtain ⟨A', V', e1, k1, f1, p1, w1⟩ := m_78 (A := upA (upA A 51 (upd (A 51) k (nN a))) 52 (upd (upA A 51 (upd (A 51) k (nN a)) 52) k (hr n v a))) (R := R) (J := J) (x2 := hr n v a) (s0 := 1) (s1 := nN a) hd hn hB hb (h.bad (b' := 0)) (p := a + 1) (n_s a) (by omega) hk (Or.inl rfl) _ hD
    have e2 : (okZ 0).bind (fun z58 => (pF (mk (upA (upA A 51 (upd (A 51) k (nN a))) 52 (upd (upA A 51 (upd (A 51) k (nN a)) 52) k (hr n v a))) V R B J) (some 45) [11] 12 (vI 0)).bind fun h58 => (gI h58 (some 45) [11] 11).bind fun v63 => (gI h58 (some 45) [11] 12).bind fun v67 => if v67 = 0 then f_X11_readStatement_78 45 h58 (nN k) (hr n v a) 1 v63 (some 45) else f_X11_readStatement_78 45 h58 (nN k) (hr n v a) 0 v63 (some 45)) = some (mk A' V' R B J) := by
      rw [okZ0, Option.bind_some, pm_12, Option.bind_some, gm_11, Option.bind_some, uV_ne (by decide), h3, gm_12, Option.bind_some, uV_eq, if_pos rfl]
      exact e1
    refine ⟨A', V', ?_, rk0.tr k1, ?_⟩
    · rcases dg_let c0 with ⟨z, z2⟩ | ⟨z, z2⟩ | ⟨z, z2⟩
      · rw [if_pos (he.1.1.mpr z)]
        exact e2
      · rw [if_neg (fun y => by rw [he.1.1, z] at y; exact absurd y (by decide)), if_pos (he.1.2.mpr z)]
        exact e2
      · rw [if_neg (fun y => by rw [he.1.1, z] at y; exact absurd y (by decide)), if_neg (fun y => by rw [he.1.2, z] at y; exact absurd y (by decide)), if_pos (he.2.1.1.mpr z)]
        exact e2
    · have es : stk (ct n v) a = sc (ct n v) (dg (ct n v a)) (a + 1) := by
        unfold stk
        rw [if_neg c0]
      have er := rn_sc (c := ct n v) (dg (ct n v a)) (a + 1)
      cases hs : sc (ct n v) (dg (ct n v a)) (a + 1) with
      | some j =>
        rw [hs] at er
        rw [er] at p1
        exact Or.inr ⟨j, es.trans hs, p1⟩
      | none =>
        rw [hs] at er
        rw [er] at p1 w1
        obtain ⟨w2, w3⟩ := w1 rfl
        obtain ⟨-, hds⟩ := sc_none _ _ hs
        refine Or.inl ⟨es.trans hs, ?_, ?_, ?_, ?_, ?_⟩
        · rw [show a + dg (ct n v a) + 2 = a + 1 + dg (ct n v a) + 1 by omega]
          exact p1
        · rw [f1 51 (by decide) (by decide), uA_ne (by decide), uA_eq, upd_eq]
        · rw [f1 52 (by decide) (by decide), uA_eq, upd_eq]
          exact ehr
        · rw [w2, ehr]
          unfold sF
          rcases dg_let c0 with ⟨z, z2⟩ | ⟨z, z2⟩ | ⟨z, z2⟩
          · have d0 := dv_e (hds 0 (by omega))
            have d1 := dv_e (hds 1 (by omega))
            rw [if_pos (Or.inl z), z, if_neg (by decide), show ct n v (a + 1) - 48 = nN (dv (ct n v (a + 1))) from d0.1, show ct n v (a + 1 + 1) - 48 = nN (dv (ct n v (a + 2))) from d1.1, show (10 : Int32) = nN 10 from rfl, n_mul, n_add]
          · have d0 := dv_e (hds 0 (by omega))
            have d1 := dv_e (hds 1 (by omega))
            rw [if_pos (Or.inr z), z, if_neg (by decide), show ct n v (a + 1) - 48 = nN (dv (ct n v (a + 1))) from d0.1, show ct n v (a + 1 + 1) - 48 = nN (dv (ct n v (a + 2))) from d1.1, show (10 : Int32) = nN 10 from rfl, n_mul, n_add]
          · have d0 := dv_e (hds 0 (by omega))
            rw [if_neg (fun y => by rw [z] at y; exact absurd y (by decide)), if_pos z]
            exact d0.1
        · rw [w3, ehr]
          unfold sS
          rcases dg_let c0 with ⟨z, z2⟩ | ⟨z, z2⟩ | ⟨z, z2⟩
          · have d2 := dv_e (hds 2 (by omega))
            rw [if_pos z, if_pos z]
            exact d2.1
          · rw [z, if_neg (by decide), if_pos rfl, if_neg (by decide), if_pos rfl]
            rfl
          · have d1 := dv_e (hds 1 (by omega))
            rw [z, if_neg (by decide), if_neg (by decide), if_neg (by decide), if_neg (by decide)]
            exact d1.1
end RDS
