/-! street -/
section STR
variable {A V : Nat → Nat → Int32} {R : Nat → Nat → Option Nat} {B : Nat → Nat → Int64} {J : List En}
variable {d n : Nat} {v : Nat → Int32}
/-- what the model's street changes -/
def FrmX (A V : Nat → Nat → Int32) (R : Nat → Nat → Option Nat) (A' V' : Nat → Nat → Int32) (R' : Nat → Nat → Option Nat) : Prop := (∀ a, ¬ (46 ≤ a ∧ a ≤ 55) → A' a = A a) ∧ ((∀ x y, ¬ (x = 45 ∧ (y < 3 ∨ (y = 6 ∨ ((9 ≤ y ∧ y ≤ 13) ∨ (y = 21 ∨ y = 22))))) → V' x y = V x y) ∧ ∀ x y, x ≠ 45 → R' x y = R x y)
def stV (V : Nat → Nat → Int32) (d n : Nat) : Nat → Nat → Int32 := upV (upV (upV (upV (upV (upV V 45 6 0) 45 9 (nN (100 * d))) 45 10 (nN n)) 45 11 0) 45 12 0) 45 13 0
theorem stV_e {x y : Nat} (h : ¬ (x = 45 ∧ (y = 6 ∨ (9 ≤ y ∧ y ≤ 13)))) : stV V d n x y = V x y := by
  unfold stV
  rw [uV_ne (fun q => h ⟨q.1, by omega⟩), uV_ne (fun q => h ⟨q.1, by omega⟩), uV_ne (fun q => h ⟨q.1, by omega⟩), uV_ne (fun q => h ⟨q.1, by omega⟩), uV_ne (fun q => h ⟨q.1, by omega⟩), uV_ne (fun q => h ⟨q.1, by omega⟩)]
theorem stV_p : PV (stV V d n) (stV V d n) d n 0 0 0 := by
  unfold PV stV
  refine ⟨?_, ?_, ?_, ?_, uV_eq, fun _ _ _ => rfl⟩
  · rw [uV_ne (by decide), uV_ne (by decide), uV_ne (by decide), uV_ne (by decide), uV_eq]
  · rw [uV_ne (by decide), uV_ne (by decide), uV_ne (by decide), uV_eq]
  · rw [uV_ne (by decide), uV_ne (by decide), uV_eq]
    rfl
  · rw [uV_ne (by decide), uV_eq]
theorem m_start (hd : d < 8) (hn : n ≤ 100) (s7 : A 64 d = nN n) (hws : f_X11_wrongSort (mk A (upV V 45 6 0) R B J) 45 (nN d) (nN 0) = some 0) : f_X11_street (mk A V R B J) 45 (nN d) = f_X11_street_51 45 10000 (mk A (stV V d n) R B J) := by
  have cd : (nN d).toNatClampNeg = d := cn (by omega)
  have id8 : inB (nN d) 8 = true := ib hd (by decide)
  have e100 : (100 : Int32) * nN d = nN (100 * d) := n_mul 100 d
  unfold f_X11_street
  rw [pm_6, Option.bind_some, rm, Option.bind_some]
  show ((f_X11_wrongSort (mk A (upV V 45 6 0) R B J) 45 (nN d) (nN 0)).bind _) = _
  rw [hws, Option.bind_some, if_pos (by decide), e100, pm_9, Option.bind_some, gm_32, Option.bind_some, am_64, id8, if_pos rfl, Option.bind_some, cd, s7, pm_10, Option.bind_some, pm_11, Option.bind_some, okZ0, Option.bind_some, pm_12, Option.bind_some, pm_13, Option.bind_some]
  rfl
theorem MoRep.stt {T : Tn} {A' V' : Nat → Nat → Int32} {a k : Nat} {b : Int32} (mo : MoRep A V T) (hA : ∀ x, ¬ (51 ≤ x ∧ x ≤ 54) → A' x = A x) (h : PV (stV V d n) V' d n a b k) : MoRep A' V' T := by
  obtain ⟨-, -, -, -, -, h6⟩ := h
  exact mo.cong ⟨hA _ (by decide), hA _ (by decide), hA _ (by decide)⟩ ⟨(h6 _ _ (by decide)).trans (stV_e (by decide)), (h6 _ _ (by decide)).trans (stV_e (by decide)), (h6 _ _ (by decide)).trans (stV_e (by decide))⟩
theorem PV.frm {A' V' : Nat → Nat → Int32} {a k : Nat} {b : Int32} (hA : ∀ x, ¬ (51 ≤ x ∧ x ≤ 54) → A' x = A x) (h : PV (stV V d n) V' d n a b k) : FrmX A V R A' V' R := by
  obtain ⟨-, -, -, -, -, h6⟩ := h
  exact ⟨fun x hx => hA x (by omega), fun x y hx => (h6 x y (by omega)).trans (stV_e (by omega)), fun _ _ _ => rfl⟩
theorem m_fault {A' V' : Nat → Nat → Int32} {V0 : Nat → Nat → Int32} {j k : Nat} (h : PV V0 V' d n j 1 k) : f_X11_street_83 45 (mk A' V' R B J) = some (-1000 - nN j, mk A' V' R B J) := by
  obtain ⟨h1, h2, h3, h4, h5, h6⟩ := h
  unfold f_X11_street_83
  rw [gm_12, Option.bind_some, h4, if_neg (by decide), gm_11, Option.bind_some, h3]
theorem m_st0 {T : Tn} (mo : MoRep A V T) (hd : d < 8) (hn : n = 0) (s7 : A 64 d = nN n) (hB : ∀ i, i < n → B 65 (100 * d + i) = (v i).toInt64) (hb : ∀ i, i < n → (v i).toInt8.toInt32 = v i) (hws : f_X11_wrongSort (mk A (upV V 45 6 0) R B J) 45 (nN d) (nN 0) = some 0) : ∃ A' V', f_X11_street (mk A V R B J) 45 (nN d) = some (-1000 - nN 0, mk A' V' R B J) ∧ (FrmX A V R A' V' R ∧ MoRep A' V' T) := by
  subst hn
  obtain ⟨A1, V1, e1, k1, r1⟩ := m_stmt (A := A) (R := R) (J := J) hd (by decide) hB hb (stV_p (V := V)) (by decide) (by decide)
  have hs : stk (ct 0 v) 0 = some 0 := by
    unfold stk
    have e : ct 0 v 0 = 0 := by unfold ct; rw [if_neg (by decide)]
    rw [e, if_pos (by decide)]
  rcases r1 with ⟨s1, -⟩ | ⟨j, s1, g1⟩
  · rw [hs] at s1
    cases s1
  · rw [hs] at s1
    have ej := Option.some.inj s1
    subst ej
    refine ⟨A1, V1, ?_, PV.frm k1.1 g1, mo.stt k1.1 g1⟩
    rw [m_start hd (by decide) s7 hws]
    obtain ⟨p1, p2, p3, p4, p5, p6⟩ := stV_p (V := V) (d := d) (n := 0)
    obtain ⟨q1, q2, q3, q4, q5, q6⟩ := id g1
    show f_X11_street_51 45 (9999 + 1) _ = _
    rw [f_X11_street_51, gm_12, Option.bind_some, p4, if_pos rfl, gm_13, Option.bind_some, p5, if_pos (show nN 0 = 0 from rfl)]
    unfold f_X11_street_76
    rw [rm, Option.bind_some, e1, Option.bind_some]
    show f_X11_street_51 45 (9998 + 1) _ = _
    rw [f_X11_street_51, gm_12, Option.bind_some, q4, if_neg (by decide)]
    exact m_fault g1
theorem m_st1 {T : Tn} {j : Nat} (mo : MoRep A V T) (hd : d < 8) (hn : n ≤ 100) (h0 : 0 < n) (s7 : A 64 d = nN n) (hB : ∀ i, i < n → B 65 (100 * d + i) = (v i).toInt64) (hb : ∀ i, i < n → (v i).toInt8.toInt32 = v i) (hws : f_X11_wrongSort (mk A (upV V 45 6 0) R B J) 45 (nN d) (nN 0) = some 0) (hp : psK (ct n v) n 25 0 = some j) : ∃ A' V', f_X11_street (mk A V R B J) 45 (nN d) = some (-1000 - nN j, mk A' V' R B J) ∧ (FrmX A V R A' V' R ∧ MoRep A' V' T) := by
  obtain ⟨A1, V1, e1, k1, -, r1⟩ := m_51 (R := R) (J := J) hd hn hB hb 25 0 0 10000 A _ (by decide) (stV_p (V := V)) (Or.inl h0) (by omega) (by decide)
  rcases r1 with ⟨t1, -⟩ | ⟨j', k', t1, t2⟩
  · rw [hp] at t1
    cases t1
  · rw [hp] at t1
    have ej := Option.some.inj t1
    subst ej
    refine ⟨A1, V1, ?_, PV.frm k1 t2, mo.stt k1 t2⟩
    rw [m_start hd hn s7 hws, e1]
    exact m_fault t2
theorem psL_len {c : Nat → Int32} : ∀ (q a : Nat), (psL c n q a).length ≤ q
  | 0, _ => Nat.le_refl _
  | q + 1, a => by
    have h := psL_len (c := c) q (a + dg (c a) + 2)
    show (if n ≤ a then [] else a :: psL c n q (a + dg (c a) + 2)).length ≤ q + 1
    split
    · exact Nat.zero_le _
    · rw [List.length_cons]; omega
theorem m_st2 {T : Tn} (w : Wf T) (mo : MoRep A V T) (hd : d < 8) (hn : n ≤ 100) (h0 : 0 < n) (s7 : A 64 d = nN n) (hB : ∀ i, i < n → B 65 (100 * d + i) = (v i).toInt64) (hb : ∀ i, i < n → (v i).toInt8.toInt32 = v i) (hws : f_X11_wrongSort (mk A (upV V 45 6 0) R B J) 45 (nN d) (nN 0) = some 0) (hp : psK (ct n v) n 25 0 = none) : (∃ j A' V' R', apK (ct n v) T (psL (ct n v) n 25 0) = some j ∧ (f_X11_street (mk A V R B J) 45 (nN d) = some (-2000 - nN j, mk A' V' R' B J) ∧ (FrmX A V R A' V' R' ∧ MoRep A' V' T))) ∨ (apK (ct n v) T (psL (ct n v) n 25 0) = none ∧ ∃ A' V' R', f_X11_street (mk A V R B J) 45 (nN d) = some (nN (psL (ct n v) n 25 0).length, mk A' V' R' B J) ∧ (FrmX A V R A' V' R' ∧ MoRep A' V' (apT (ct n v) T (psL (ct n v) n 25 0)))) := by
  obtain ⟨A1, V1, e1, k1, -, r1⟩ := m_51 (R := R) (J := J) hd hn hB hb 25 0 0 10000 A _ (by decide) (stV_p (V := V)) (Or.inl h0) (by omega) (by decide)
  rcases r1 with ⟨-, t2, t3⟩ | ⟨j', k', t1, -⟩
  · have mo1 := mo.stt k1 t2
    have fx := PV.frm (R := R) k1 t2
    obtain ⟨p1, p2, p3, p4, p5, p6⟩ := id t2
    obtain ⟨s, e2, ⟨x0, x1, x2⟩, x3, x4⟩ := m_take (A := A1) (V := V1) (R := R) (B := B) (J := J) (r := 55) rfl (by decide) (by decide) (by decide)
    have hE30 := w.2.2.1.1
    have kp : Kp (upA A1 55 s) T := by
      unfold Kp
      rw [uA_eq]
      exact ⟨⟨x0.trans mo1.1.1, x1.trans mo1.1.2.1, x2.trans mo1.1.2.2⟩, fun e he => ⟨((x3 e (by omega)).1).trans (mo1.2.1 e he).1, ((x3 e (by omega)).2).trans (mo1.2.1 e he).2⟩, fun p hp => (x4 p hp).trans (mo1.2.2 p hp)⟩
    have mo2 : MoRep (upA A1 55 s) (upV (upV V1 45 22 1) 45 21 (nN 75)) T := mo1.cong ⟨uA_ne (by decide), uA_ne (by decide), uA_ne (by decide)⟩ ⟨(uV_ne (by decide)).trans (uV_ne (by decide)), (uV_ne (by decide)).trans (uV_ne (by decide)), (uV_ne (by decide)).trans (uV_ne (by decide))⟩
    have v13 : upV (upV V1 45 22 1) 45 21 (nN 75) 45 13 = nN (0 + (psL (ct n v) n 25 0).length) := (uV_ne (by decide)).trans ((uV_ne (by decide)).trans p5)
    have hll := psL_len (c := ct n v) (n := n) 25 0
    have hok := psL_ok 25 0 hp (by omega) (fun b hb' => (stk_none hb').1)
    have e3 : f_X11_street (mk A V R B J) 45 (nN d) = f_X11_street_110 45 10000 (mk (upA A1 55 s) (upV (upV V1 45 22 1) 45 21 (nN 75)) (upR R 45 23 (some 55)) B J) (nN 0) := by
      rw [m_start hd hn s7 hws, e1]
      unfold f_X11_street_83
      rw [gm_12, Option.bind_some, p4, if_pos rfl, gm_18, Option.bind_some, rm, Option.bind_some, e2, Option.bind_some]
      rfl
    have fx1 : ∀ A' V' R', (∀ a, ¬ (46 ≤ a ∧ a ≤ 50) → A' a = upA A1 55 s a) → (∀ a k, ¬ (a = 45 ∧ (k < 3 ∨ (k = 21 ∨ k = 22))) → V' a k = upV (upV V1 45 22 1) 45 21 (nN 75) a k) → (∀ x y, x ≠ 45 → R' x y = R x y) → FrmX A V R A' V' R' := fun A' V' R' hA hV hR =>
      ⟨fun a ha => (hA a (by omega)).trans ((uA_ne (by omega)).trans (fx.1 a ha)), fun x y hx => (hV x y (by omega)).trans ((uV_ne (by omega)).trans ((uV_ne (by omega)).trans (fx.2.1 x y hx))), hR⟩
    have hR1 : ∀ x y, x ≠ 45 → upR R 45 23 (some 55) x y = R x y := fun x y hx => if_neg (fun q => hx q.1)
    rcases m_all (R := upR R 45 23 (some 55)) (B := B) (J := J) (c := ct n v) w kp v13 (by omega) (psL (ct n v) n 25 0) 0 10000 T _ _ (by omega) rfl w mo2 ⟨fun _ _ => rfl, fun _ _ _ => rfl⟩ (fun j hj => by
      obtain ⟨u1, u2, u3, u4⟩ := t3 j hj
      exact ⟨by rw [uA_ne (by decide)]; exact u1, by rw [uA_ne (by decide)]; exact u2, by rw [uA_ne (by decide)]; exact u3, by rw [uA_ne (by decide)]; exact u4⟩) (fun a ha => by
      obtain ⟨f1, f2, f3, -⟩ := stm (hok a ha).1
      exact ⟨f1, f2, f3⟩) with ⟨j, A2, V2, g1, g2, g3, g4, g5⟩ | ⟨g1, A2, V2, g2, g3, g4⟩
    · refine Or.inl ⟨j, A2, V2, _, g1, e3.trans g2, fx1 _ _ _ g3 g4 (fun x y hx => (if_neg (fun q => hx q.1)).trans (hR1 x y hx)), g5⟩
    · rw [Nat.zero_add] at g2
      exact Or.inr ⟨g1, A2, V2, _, e3.trans g2, fx1 _ _ _ g3.1 (fun a k hk => g3.2 a k (fun q => hk ⟨q.1, Or.inl q.2⟩)) hR1, g4⟩
  · rw [hp] at t1
    cases t1
theorem psK_lt {c : Nat → Int32} : ∀ (q a j : Nat), psK c n q a = some j → j ≤ n + 4
  | 0, _, _, h => by cases h
  | q + 1, a, j, h => by
    by_cases z : n ≤ a
    · rw [psK_e z] at h
      cases h
    · cases hs : stk c a with
      | some i =>
        rw [psK_s (by omega) hs] at h
        have e := Option.some.inj h
        have := stk_lt hs
        omega
      | none =>
        rw [psK_n (by omega) hs] at h
        exact psK_lt q _ j h
theorem n_neg1 {j : Nat} (h : j < 2147483648) : ¬ nN j = -1 := fun z => by
  have := congrArg Int32.toInt z
  rw [Int32.toInt_ofNat_of_lt (by omega)] at this
  have e : (-1 : Int32).toInt = -1 := rfl
  omega
/-- the invariant behind a street -/
theorem Inv.str {A1 V1 A2 V2 : Nat → Nat → Int32} {R1 R2 : Nat → Nat → Option Nat} {J2 : List En} {T : Tn} (h : Inv A V R B J) (a1 : ∀ a, ¬ (11 ≤ a ∧ a ≤ 17) → ¬ (2 ≤ a ∧ a ≤ 7) → A1 a = A a) (v1 : ∀ a k, a ≠ 10 → a ≠ 1 → V1 a k = V a k) (r1 : ∀ a k, a ≠ 10 → a ≠ 1 → R1 a k = R a k) (fx : FrmX A1 V1 R1 A2 V2 R2) (w : Wf T) (st : StRep A1 V1 R1 (J ++ J2) 1 T) (mo : MoRep A2 V2 T) : Inv A2 V2 R2 B (J ++ J2) := by
  have st2 : StRep A2 V2 R2 (J ++ J2) 1 T := st.far (fun j hj => fx.1 _ (by omega)) (fx.2.1 _ _ (by omega)) (fx.2.1 _ _ (by omega)) (fx.2.2 _ _ (by decide))
  refine h.town J2 ⟨fun a b1 b2 b3 => ?_, fun a k b1 b2 b3 => ?_, fun a k b1 b2 => ?_, rfl⟩ T w st2 mo
  · have hne : ∀ x, x ∈ scA → a ≠ x := fun x hx q => b2 (by rw [q]; exact hx)
    have n9 := hne 49 (by decide)
    have n0 := hne 50 (by decide)
    have n1 := hne 51 (by decide)
    have n2 := hne 52 (by decide)
    have n3 := hne 53 (by decide)
    have n4 := hne 54 (by decide)
    have n5 := hne 55 (by decide)
    exact (fx.1 a (by omega)).trans (a1 a (by omega) (by omega))
  · have hk : ∀ x, x ∈ [6, 9, 10, 11, 12, 13, 21, 22, 27] → ¬ (a = 45 ∧ k = x) := fun x hx q => b1 (Or.inr ⟨q.1, by rw [q.2]; exact hx⟩)
    have k6 := hk 6 (by decide)
    have k9 := hk 9 (by decide)
    have k10 := hk 10 (by decide)
    have k11 := hk 11 (by decide)
    have k12 := hk 12 (by decide)
    have k13 := hk 13 (by decide)
    have k21 := hk 21 (by decide)
    have k22 := hk 22 (by decide)
    exact (fx.2.1 a k (by omega)).trans (v1 a k (fun q => b1 (Or.inl q)) b2)
  · exact (fx.2.2 a k (fun q => b1 (Or.inr q))).trans (r1 a k (fun q => b1 (Or.inl q)) b2)
theorem op_0 (x1 : Int32) : Ok2 (fun h => f_X10_street h 0 x1) (fun h => f_X11_street h 45 x1) := by
  intro A V R B J h
  have h0 := h
  obtain ⟨⟨T, w, st, mo⟩, -, shs⟩ := h0
  have hE30 := w.2.2.1.1
  rcases c_shelf x1 with ⟨d, hd, rfl, hc⟩ | ⟨hc, hn⟩
  · have ht := isSh_d hd
    rcases sh_sort (s0 := 0) hd (by decide) (shs d hd) with ⟨r, hr, e1, e2⟩ | ⟨n, hn, s4, s7, s8, e1, e2⟩
    · refine no2 (fc := fun h => f_X10_street h 0 (nN d)) (fm := fun h => f_X11_street h 45 (nN d)) (x := r) h ?_ ?_
      · show f_X10_street (mk A V R B J) 0 (nN d) = _
        unfold f_X10_street
        rw [ro, Option.bind_some, hc, Option.bind_some, if_neg (by simp), rh ht, Option.bind_some, show (0 : Int32) = nN 0 from rfl, e1, Option.bind_some, if_neg (by rcases hr with rfl | rfl <;> decide)]
      · show f_X11_street (mk A V R B J) 45 (nN d) = _
        unfold f_X11_street
        rw [pm_6, Option.bind_some, rm, Option.bind_some]
        show ((f_X11_wrongSort (mk A (upV V 45 6 0) R B J) 45 (nN d) (nN 0)).bind _) = _
        rw [e2, Option.bind_some, if_neg (by rcases hr with rfl | rfl <;> decide)]
    · have e30 : 30 + 2 * d = 29 + 2 * d + 1 := by omega
      rw [e30] at s8
      have hB : ∀ i, i < n → B 65 (100 * d + i) = (A (29 + 2 * d + 1) i).toInt64 := fun i hi => (s8 i hi).2
      have hb : ∀ i, i < n → (A (29 + 2 * d + 1) i).toInt8.toInt32 = A (29 + 2 * d + 1) i := fun i hi => (s8 i hi).1
      have ca := c_stuckAt (R := R) (B := B) (J := J) (v := A (29 + 2 * d + 1)) ht hn s4 (fun i _ => rfl) 25 0 0 10000 (by decide) (by decide) (by omega) (by omega)
      have pre : ∀ y : Option (Int32 × Hp), ((f_X10_stuckAt_4 (mk A V R B J) 10000 (some (29 + 2 * d)) (nN 0) (nN 0)).bind fun v25 => if v25 = -1 then (f_X10_carryOut (mk A V R B J) 0 (some (29 + 2 * d))).bind fun q45 => some (q45.1, q45.2) else some (-1000 - v25, mk A V R B J)) = y → f_X10_street (mk A V R B J) 0 (nN d) = y := by
        intro y hy
        unfold f_X10_street f_X10_stuckAt
        rw [ro, Option.bind_some, hc, Option.bind_some, if_neg (by simp), rh ht, Option.bind_some]
        show ((f_X5_refusalAsRowOf (mk A V R B J) (29 + 2 * d) (nN 0)).bind _) = _
        rw [e1, Option.bind_some, if_pos rfl, Option.bind_some]
        exact hy
      have st0 : StRep A V R (J ++ []) 1 T := by
        rw [List.append_nil]
        exact st
      by_cases n0 : n = 0
      · obtain ⟨A2, V2, em, fx, mo2⟩ := m_st0 (R := R) (J := J) mo hd n0 s7 hB hb (e2 _ _ _ _)
        refine yes2 (fc := fun h => f_X10_street h 0 (nN d)) (fm := fun h => f_X11_street h 45 (nN d)) (x := -1000 - nN 0) (A1 := A) (V1 := V) (R1 := R) (B1 := B) (pre _ ?_) em (h.str (fun _ _ _ => rfl) (fun _ _ _ _ => rfl) (fun _ _ _ _ => rfl) fx w st0 mo2)
        rw [ca, Option.bind_some, psK_e (by omega)]
        dsimp only
        rw [if_pos n0, if_neg (by decide)]
        rfl
      · cases hp : psK (ct n (A (29 + 2 * d + 1))) n 25 0 with
        | some j =>
          have hj := psK_lt 25 0 j hp
          obtain ⟨A2, V2, em, fx, mo2⟩ := m_st1 (R := R) (J := J) mo hd hn (by omega) s7 hB hb (e2 _ _ _ _) hp
          refine yes2 (fc := fun h => f_X10_street h 0 (nN d)) (fm := fun h => f_X11_street h 45 (nN d)) (x := -1000 - nN j) (A1 := A) (V1 := V) (R1 := R) (B1 := B) (pre _ ?_) em (h.str (fun _ _ _ => rfl) (fun _ _ _ _ => rfl) (fun _ _ _ _ => rfl) fx w st0 mo2)
          rw [ca, Option.bind_some, hp]
          dsimp only
          rw [if_neg (n_neg1 (by omega))]
        | none =>
          have fr0 : FrmM A V R (bcA A 10 1) (upV (upV V 10 7 (V 1 7)) 10 8 (V 1 8)) (upR R 10 9 (R 1 9)) := ⟨fun a ha => bcA_ne (by omega), fun a k hk => (uV_ne (fun q => hk q.1)).trans (uV_ne (fun q => hk q.1)), fun a k hk => if_neg (fun q => hk q.1)⟩
          have sb := StRep.bec (t := 10) hE30 st
          have hcar : f_X10_carryOut (mk A V R B J) 0 (some (29 + 2 * d)) = f_X10_carryOut_15 0 10000 (mk (bcA A 10 1) (upV (upV V 10 7 (V 1 7)) 10 8 (V 1 8)) (upR R 10 9 (R 1 9)) B (J ++ [])) (some (29 + 2 * d)) (nN 0) (nN 0) := by
            unfold f_X10_carryOut
            rw [go_1, Option.bind_some, go_0, Option.bind_some, rs isM, Option.bind_some, c_become isM isT (by decide), Option.bind_some, List.append_nil]
            rfl
          have hcl : ∀ y : Int32 × Hp, f_X10_carryOut (mk A V R B J) 0 (some (29 + 2 * d)) = some y → f_X10_street (mk A V R B J) 0 (nN d) = some y := by
            intro y hy
            refine pre _ ?_
            rw [ca, Option.bind_some, hp]
            dsimp only
            rw [if_neg n0, if_pos rfl, hy, Option.bind_some]
          have wsm : ∀ (A1 : Nat → Nat → Int32) V2 R2 B2 J2, A1 60 = A 60 → A1 63 = A 63 → f_X11_wrongSort (mk A1 V2 R2 B2 J2) 45 (nN d) (nN 0) = some 0 := by
            intro A1 V2 R2 B2 J2 h60 h63
            have g1 := m_wrongSort (A := A1) (V := V2) (R := R2) (B := B2) (J := J2) (s0 := 0) hd
            have g2 := m_wrongSort (A := A) (V := V2) (R := R2) (B := B2) (J := J2) (s0 := 0) hd
            rw [h60, h63] at g1
            exact g1.trans (g2.symm.trans (e2 _ _ _ _))
          rcases c_all (B := B) (J := J) (A0 := A) (V0 := V) (R0 := R) (v := A (29 + 2 * d + 1)) hd hn s4 (fun i _ => rfl) 25 0 0 10000 T _ _ _ [] (by decide) hp (by omega) (by omega) (by decide) w (by rw [List.append_nil]; exact sb) fr0 (Nat.le_refl _) (Nat.le_refl _) with ⟨j, A1, V1, R1, J2, g1, g2, g3, g4, g5⟩ | ⟨g1, A1, V1, R1, J2, g2, g3, g4, g5, g6, g7⟩
          · have mo1 : MoRep A1 V1 T := mo.mind g3
            have st1 : StRep A1 V1 R1 (J ++ J2) 1 T := st.mind (Or.inl rfl) g3
            have q64 : A1 64 d = nN n := by rw [g3.1 64 (by decide)]; exact s7
            rcases m_st2 (R := R1) (B := B) (J := J ++ J2) w mo1 hd hn (by omega) q64 hB hb (wsm A1 _ _ _ _ (g3.1 60 (by decide)) (g3.1 63 (by decide))) hp with ⟨j', A2, V2, R2, k1, k2, fx, mo2⟩ | ⟨k1, -⟩
            · rw [g1] at k1
              have ej := Option.some.inj k1
              subst ej
              exact ⟨-2000 - nN j, A1, V1, R1, B, J2, A2, V2, R2, B, hcl _ (hcar.trans g2), k2, h.str (fun a q1 _ => g3.1 a q1) (fun a k q1 _ => g3.2.1 a k q1) (fun a k q1 _ => g3.2.2 a k q1) fx w st1 mo2, by omega, by omega⟩
            · rw [g1] at k1
              cases k1
          · have hE1 := g5.2.2.1.1
            have eb : f_X10_carryOut_63 0 (mk A1 V1 R1 B (J ++ J2)) (nN (0 + (psL (ct n (A (29 + 2 * d + 1))) n 25 0).length)) = some (nN (psL (ct n (A (29 + 2 * d + 1))) n 25 0).length, mk (bcA A1 1 10) (upV (upV V1 1 7 (V1 10 7)) 1 8 (V1 10 8)) (upR R1 1 9 (R1 10 9)) B (J ++ J2)) := by
              unfold f_X10_carryOut_63
              rw [go_0, Option.bind_some, go_1, Option.bind_some, rs isT, Option.bind_some, c_become isT isM (by decide), Option.bind_some, Nat.zero_add]
            have st1 := StRep.bec (t := 1) hE1 g4
            have ra : ∀ a, ¬ (11 ≤ a ∧ a ≤ 17) → ¬ (2 ≤ a ∧ a ≤ 7) → bcA A1 1 10 a = A a := fun a q1 q2 => (bcA_ne (by omega)).trans (g3.1 a q1)
            have va : ∀ a k, a ≠ 10 → a ≠ 1 → upV (upV V1 1 7 (V1 10 7)) 1 8 (V1 10 8) a k = V a k := fun a k q1 q2 => (uV_ne (fun q => q2 q.1)).trans ((uV_ne (fun q => q2 q.1)).trans (g3.2.1 a k q1))
            have rra : ∀ a k, a ≠ 10 → a ≠ 1 → upR R1 1 9 (R1 10 9) a k = R a k := fun a k q1 q2 => (if_neg (fun q => q2 q.1)).trans (g3.2.2 a k q1)
            have mo1 : MoRep (bcA A1 1 10) (upV (upV V1 1 7 (V1 10 7)) 1 8 (V1 10 8)) T := mo.cong ⟨ra _ (by decide) (by decide), ra _ (by decide) (by decide), ra _ (by decide) (by decide)⟩ ⟨va _ _ (by decide) (by decide), va _ _ (by decide) (by decide), va _ _ (by decide) (by decide)⟩
            have q64 : bcA A1 1 10 64 d = nN n := by rw [ra 64 (by decide) (by decide)]; exact s7
            rcases m_st2 (R := upR R1 1 9 (R1 10 9)) (B := B) (J := J ++ J2) w mo1 hd hn (by omega) q64 hB hb (wsm _ _ _ _ _ (ra 60 (by decide) (by decide)) (ra 63 (by decide) (by decide))) hp with ⟨j', A2, V2, R2, k1, -⟩ | ⟨k1, A2, V2, R2, k2, fx, mo2⟩
            · rw [g1] at k1
              cases k1
            · exact ⟨nN (psL (ct n (A (29 + 2 * d + 1))) n 25 0).length, bcA A1 1 10, upV (upV V1 1 7 (V1 10 7)) 1 8 (V1 10 8), upR R1 1 9 (R1 10 9), B, J2, A2, V2, R2, B, hcl _ (hcar.trans (g2.trans eb)), k2, h.str ra va rra fx g5 st1 mo2, by omega, by omega⟩
  · refine no2 (fc := fun h => f_X10_street h 0 x1) (fm := fun h => f_X11_street h 45 x1) (x := -1) h ?_ ?_
    · show f_X10_street (mk A V R B J) 0 x1 = _
      unfold f_X10_street
      rw [ro, Option.bind_some, hc, Option.bind_some, if_pos rfl]
    · show f_X11_street (mk A V R B J) 45 x1 = _
      unfold f_X11_street
      rw [pm_6, Option.bind_some, rm, Option.bind_some, m_wrongSortN hn, Option.bind_some, if_neg (by decide)]
end STR
