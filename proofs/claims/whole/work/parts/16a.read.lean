/-! street: the model reads -/
section RDM
variable {A V : Nat → Nat → Int32} {R : Nat → Nat → Option Nat} {B : Nat → Nat → Int64} {J : List En}
theorem byt : ∀ i, i < 256 → (((Int8.ofNat i).toInt32 &&& 255 = 98 ↔ (Int8.ofNat i).toInt32 = 98) ∧ ((Int8.ofNat i).toInt32 &&& 255 = 102 ↔ (Int8.ofNat i).toInt32 = 102)) ∧ (((Int8.ofNat i).toInt32 &&& 255 = 108 ↔ (Int8.ofNat i).toInt32 = 108) ∧ ((Int8.ofNat i).toInt32 &&& 255 = 59 ↔ (Int8.ofNat i).toInt32 = 59)) ∧ ((48 ≤ (Int8.ofNat i).toInt32 &&& 255 ∧ (Int8.ofNat i).toInt32 &&& 255 ≤ 57) ↔ (48 ≤ (Int8.ofNat i).toInt32 ∧ (Int8.ofNat i).toInt32 ≤ 57)) := by decide +kernel
def hr (n : Nat) (v : Nat → Int32) (a : Nat) : Int32 := if a < n then v a &&& 255 else -1
theorem hr_e {n : Nat} {v : Nat → Int32} (hb : ∀ i, i < n → (v i).toInt8.toInt32 = v i) (a : Nat) : ((hr n v a = 98 ↔ ct n v a = 98) ∧ (hr n v a = 102 ↔ ct n v a = 102)) ∧ ((hr n v a = 108 ↔ ct n v a = 108) ∧ (hr n v a = 59 ↔ ct n v a = 59)) ∧ ((48 ≤ hr n v a ∧ hr n v a ≤ 57) ↔ isD (ct n v a)) := by
  unfold hr ct isD
  by_cases c : a < n
  · rw [if_pos c, if_pos c]
    have e : Int8.ofNat (v a).toInt8.toBitVec.toNat = (v a).toInt8 := by
      apply Int8.toBitVec_inj.mp
      show BitVec.ofNat 8 _ = _
      exact BitVec.ofNat_toNat ..
    have h := byt (v a).toInt8.toBitVec.toNat (v a).toInt8.toBitVec.isLt
    rw [e, hb a c] at h
    exact h
  · rw [if_neg c, if_neg c]
    decide
def PV (V0 V : Nat → Nat → Int32) (d n a : Nat) (b : Int32) (k : Nat) : Prop := V 45 9 = nN (100 * d) ∧ V 45 10 = nN n ∧ V 45 11 = nN a ∧ V 45 12 = b ∧ V 45 13 = nN k ∧ ∀ x y, ¬ (x = 45 ∧ (y = 11 ∨ (y = 12 ∨ y = 13))) → V x y = V0 x y
theorem PV.at {V0 V : Nat → Nat → Int32} {d n a a' k : Nat} {b : Int32} (h : PV V0 V d n a b k) : PV V0 (upV V 45 11 (nN a')) d n a' b k := by
  obtain ⟨h1, h2, h3, h4, h5, h6⟩ := h
  exact ⟨(uV_ne (by decide)).trans h1, (uV_ne (by decide)).trans h2, uV_eq, (uV_ne (by decide)).trans h4, (uV_ne (by decide)).trans h5, fun x y g => (uV_ne (fun q => g ⟨q.1, Or.inl q.2⟩)).trans (h6 x y g)⟩
theorem PV.bad {V0 V : Nat → Nat → Int32} {d n a k : Nat} {b b' : Int32} (h : PV V0 V d n a b k) : PV V0 (upV V 45 12 b') d n a b' k := by
  obtain ⟨h1, h2, h3, h4, h5, h6⟩ := h
  exact ⟨(uV_ne (by decide)).trans h1, (uV_ne (by decide)).trans h2, (uV_ne (by decide)).trans h3, uV_eq, (uV_ne (by decide)).trans h5, fun x y g => (uV_ne (fun q => g ⟨q.1, Or.inr (Or.inl q.2)⟩)).trans (h6 x y g)⟩
theorem PV.st {V0 V : Nat → Nat → Int32} {d n a k k' : Nat} {b : Int32} (h : PV V0 V d n a b k) : PV V0 (upV V 45 13 (nN k')) d n a b k' := by
  obtain ⟨h1, h2, h3, h4, h5, h6⟩ := h
  exact ⟨(uV_ne (by decide)).trans h1, (uV_ne (by decide)).trans h2, (uV_ne (by decide)).trans h3, (uV_ne (by decide)).trans h4, uV_eq, fun x y g => (uV_ne (fun q => g ⟨q.1, Or.inr (Or.inr q.2)⟩)).trans (h6 x y g)⟩
section M
variable {V0 : Nat → Nat → Int32} {d n : Nat} {v : Nat → Int32} (hd : d < 8) (hn : n ≤ 100) (hB : ∀ i, i < n → B 65 (100 * d + i) = (v i).toInt64) (hb : ∀ i, i < n → (v i).toInt8.toInt32 = v i)
theorem m_here {a k : Nat} {b : Int32} (hd : d < 8) (hn : n ≤ 100) (hB : ∀ i, i < n → B 65 (100 * d + i) = (v i).toInt64) (h : PV V0 V d n a b k) (ha : a < 1000) : f_X11_here (mk A V R B J) 45 = some (hr n v a) := by
  obtain ⟨h1, h2, h3, h4, h5, h6⟩ := h
  unfold f_X11_here hr
  rw [gm_11, Option.bind_some, gm_10, Option.bind_some, h3, h2]
  by_cases c : a < n
  · have i8 : inB (nN (100 * d + a)) 800 = true := ib (show 100 * d + a < 800 by omega) (by decide)
    rw [if_pos (lt_y c (by omega)), if_pos c, gm_33, Option.bind_some, gm_9, Option.bind_some, h1, Option.bind_some, n_add, am_65, i8, if_pos rfl, Option.bind_some, cn (by omega), hB a c, Int32.toInt32_toInt64]
  · rw [if_neg (lt_n (by omega) (by omega)), if_neg c]
theorem m_in48 {h : Hp} {x : Int32} : f_X11_in h x.toInt64 (48 : Int64) (57 : Int64) = some (bz (48 ≤ x ∧ x ≤ 57)) := by
  have e := m_in (h := h) (x := x) (a := 48) (b := 57)
  refine Eq.trans e (congrArg some ?_)
  by_cases c : 48 ≤ x ∧ x ≤ 57
  · rw [bz_y c, if_pos c]
  · rw [bz_n c, if_neg c]
theorem m_digit {a k : Nat} {b : Int32} (hd : d < 8) (hn : n ≤ 100) (hB : ∀ i, i < n → B 65 (100 * d + i) = (v i).toInt64) (hb : ∀ i, i < n → (v i).toInt8.toInt32 = v i) (h : PV V0 V d n a b k) (ha : a < 900) (hb01 : b = 0 ∨ b = 1) : ∃ V' r, f_X11_readDigit (mk A V R B J) 45 = some (r, mk A V' R B J) ∧ ((b = 0 ∧ (isD (ct n v a) ∧ (PV V0 V' d n (a + 1) 0 k ∧ r = ct n v a - 48))) ∨ (¬ (b = 0 ∧ isD (ct n v a)) ∧ (PV V0 V' d n a 1 k ∧ r = 0))) := by
  have h' := h
  obtain ⟨h1, h2, h3, h4, h5, h6⟩ := h'
  unfold f_X11_readDigit
  rw [gm_12, Option.bind_some, h4]
  by_cases c0 : b = 0
  · rw [if_pos c0, rm, Option.bind_some, m_here hd hn hB h (by omega), Option.bind_some, m_in48, Option.bind_some]
    by_cases c : 48 ≤ hr n v a ∧ hr n v a ≤ 57
    · have cd := (hr_e hb a).2.2.mp c
      have han : a < n := by
        by_cases z : a < n
        · exact z
        · unfold hr at c
          rw [if_neg z] at c
          exact absurd c (by decide)
      have ec : ct n v a = v a := by unfold ct; rw [if_pos han]
      have p1 := (h.bad (b' := 0)).at (a' := a + 1)
      have i8 : inB (nN (100 * d + a)) 800 = true := ib (show 100 * d + a < 800 by omega) (by decide)
      refine ⟨upV (upV V 45 12 0) 45 11 (nN (a + 1)), ct n v a - 48, ?_, Or.inl ⟨c0, cd, p1, rfl⟩⟩
      rw [bz_y c, if_neg (by decide)]
      unfold f_X11_readDigit_30
      rw [okZ0, Option.bind_some, pm_12, Option.bind_some, gm_12, Option.bind_some, uV_eq, if_pos rfl, gm_11, Option.bind_some, uV_ne (by decide), h3, n_s, pm_11, Option.bind_some, gm_33, Option.bind_some, gm_9, Option.bind_some, p1.1, gm_11, Option.bind_some, uV_eq, n_add, n_pred (by omega), show 100 * d + (a + 1) - 1 = 100 * d + a by omega, am_65, i8, if_pos rfl, Option.bind_some, cn (by omega), hB a han, Int32.toInt32_toInt64, ec]
    · have cd : ¬ isD (ct n v a) := fun z => c ((hr_e hb a).2.2.mpr z)
      refine ⟨upV V 45 12 1, 0, ?_, Or.inr ⟨fun z => cd z.2, h.bad, rfl⟩⟩
      rw [bz_n c, if_pos rfl]
      unfold f_X11_readDigit_25 f_X11_readDigit_30
      rw [okZ1, Option.bind_some, pm_12, Option.bind_some, gm_12, Option.bind_some, uV_eq, if_neg (by decide)]
  · refine ⟨upV V 45 12 1, 0, ?_, Or.inr ⟨fun z => c0 z.1, h.bad, rfl⟩⟩
    rw [if_neg c0]
    unfold f_X11_readDigit_25 f_X11_readDigit_30
    rw [okZ1, Option.bind_some, pm_12, Option.bind_some, gm_12, Option.bind_some, uV_eq, if_neg (by decide)]
/-- where reading stands behind so many digits and a ; -/
noncomputable def rn (c : Nat → Int32) : Nat → Nat → Int32 → Nat × Int32
  | 0, p, b => if b = 0 ∧ c p = 59 then (p + 1, 0) else (p, 1)
  | k + 1, p, b => @ite _ (b = 0 ∧ isD (c p)) (Classical.propDecidable _) (rn c k (p + 1) 0) (rn c k p 1)
theorem rn_y {c : Nat → Int32} {k p : Nat} {b : Int32} (h : b = 0 ∧ isD (c p)) : rn c (k + 1) p b = rn c k (p + 1) 0 := by
  show @ite _ (b = 0 ∧ isD (c p)) (Classical.propDecidable _) (rn c k (p + 1) 0) (rn c k p 1) = _
  rw [if_pos h]
theorem rn_n {c : Nat → Int32} {k p : Nat} {b : Int32} (h : ¬ (b = 0 ∧ isD (c p))) : rn c (k + 1) p b = rn c k p 1 := by
  show @ite _ (b = 0 ∧ isD (c p)) (Classical.propDecidable _) (rn c k (p + 1) 0) (rn c k p 1) = _
  rw [if_neg h]
theorem rn_bad {c : Nat → Int32} : ∀ k p, rn c k p 1 = (p, 1)
  | 0, p => by
    show (if (1 : Int32) = 0 ∧ c p = 59 then (p + 1, (0 : Int32)) else (p, 1)) = (p, 1)
    rw [if_neg (fun z => absurd z.1 (by decide))]
  | k + 1, p => by
    rw [rn_n (fun z => absurd z.1 (by decide)), rn_bad k p]
theorem rn_sc {c : Nat → Int32} : ∀ k j, rn c k j 0 = match sc c k j with | none => (j + k + 1, 0) | some i => (i, 1)
  | 0, j => by
    show (if (0 : Int32) = 0 ∧ c j = 59 then (j + 1, (0 : Int32)) else (j, 1)) = match (if c j = 59 then none else some j) with | none => (j + 0 + 1, 0) | some i => (i, 1)
    by_cases q : c j = 59
    · rw [if_pos ⟨rfl, q⟩, if_pos q]
    · rw [if_neg (fun z => q z.2), if_neg q]
  | k + 1, j => by
    by_cases q : isD (c j)
    · rw [rn_y ⟨rfl, q⟩, sc_y q, rn_sc k (j + 1), show j + (k + 1) + 1 = j + 1 + k + 1 by omega]
    · rw [rn_n (fun z => q z.2), sc_n q, rn_bad]
theorem rn_0 {c : Nat → Int32} {k p : Nat} {b : Int32} (h : (rn c (k + 1) p b).2 = 0) : (b = 0 ∧ isD (c p)) ∧ (rn c k (p + 1) 0).2 = 0 := by
  by_cases q : b = 0 ∧ isD (c p)
  · rw [rn_y q] at h
    exact ⟨q, h⟩
  · rw [rn_n q, rn_bad] at h
    have h : (1 : Int32) = 0 := h
    exact absurd h (by decide)
/-- only place k of the rows of statements changes -/
def RK (k : Nat) (A A' : Nat → Nat → Int32) : Prop := (∀ x, ¬ (51 ≤ x ∧ x ≤ 54) → A' x = A x) ∧ ∀ x i, i ≠ k → A' x i = A x i
theorem RK.tr {k : Nat} {A A1 A2 : Nat → Nat → Int32} (h : RK k A A1) (g : RK k A1 A2) : RK k A A2 := ⟨fun x hx => (g.1 x hx).trans (h.1 x hx), fun x i hi => (g.2 x i hi).trans (h.2 x i hi)⟩
theorem RK.up {k x : Nat} {y : Int32} (hx : 51 ≤ x ∧ x ≤ 54) : RK k A (upA A x (upd (A x) k y)) := by
  refine ⟨fun z hz => uA_ne (fun q => hz (by rw [q]; exact hx)), fun z i hi => ?_⟩
  by_cases q : z = x
  · subst q
    rw [uA_eq, upd_ne hi]
  · rw [uA_ne q]
theorem RK.rf {k : Nat} : RK k A A := ⟨fun _ _ => rfl, fun _ _ _ => rfl⟩
theorem ib51 {i : Nat} (h : i < 51) : inB (nN i) 51 = true := ib h (by decide)
theorem m_143 {p k : Nat} {b s0 : Int32} (hd : d < 8) (hn : n ≤ 100) (hB : ∀ i, i < n → B 65 (100 * d + i) = (v i).toInt64) (hb : ∀ i, i < n → (v i).toInt8.toInt32 = v i) (h : PV V0 V d n p b k) (hp : p < 900) (hk : k < 51) (hb01 : b = 0 ∨ b = 1) : ∃ V', f_X11_readStatement_143 45 (mk A V R B J) s0 (nN k) (some 54) = some (mk (upA A 54 (upd (A 54) k s0)) V' R B J) ∧ PV V0 V' d n (rn (ct n v) 0 p b).1 (rn (ct n v) 0 p b).2 (k + 1) := by
  have h' := h
  obtain ⟨h1, h2, h3, h4, h5, h6⟩ := h'
  have kc : (nN k).toNatClampNeg = k := cn (by omega)
  have tl : ∀ {b' : Int32} (p' : Nat), (b' = 0 ∧ p' = p + 1) ∨ (b' = 1 ∧ p' = p) → ∃ V', f_X11_readStatement_166 45 (mk (upA A 54 (upd (A 54) k s0)) V R B J) b' (some 45) = some (mk (upA A 54 (upd (A 54) k s0)) V' R B J) ∧ PV V0 V' d n p' b' (k + 1) := by
    intro b' p' hc
    have p1 := h.bad (b' := b')
    unfold f_X11_readStatement_166 f_X11_readStatement_186
    rcases hc with ⟨rfl, rfl⟩ | ⟨rfl, rfl⟩
    · refine ⟨_, ?_, (p1.at (a' := p + 1)).st (k' := k + 1)⟩
      rw [okZ0, Option.bind_some, pm_12, Option.bind_some, gm_11, Option.bind_some, uV_ne (by decide), h3, gm_12, Option.bind_some, uV_eq, if_pos rfl, n_s, pm_11, Option.bind_some, gm_13, Option.bind_some, uV_ne (by decide), uV_ne (by decide), h5, n_s, pm_13, Option.bind_some]
    · refine ⟨_, ?_, (p1.at).st (k' := k + 1)⟩
      rw [okZ1, Option.bind_some, pm_12, Option.bind_some, gm_11, Option.bind_some, uV_ne (by decide), h3, gm_12, Option.bind_some, uV_eq, if_neg (by decide), Int32.add_zero, pm_11, Option.bind_some, gm_13, Option.bind_some, uV_ne (by decide), uV_ne (by decide), h5, n_s, pm_13, Option.bind_some]
  unfold f_X11_readStatement_143 f_X11_readStatement_161
  rw [wm_54, ib51 hk, if_pos rfl, Option.bind_some, kc, gm_12, Option.bind_some, h4]
  show ∃ V', _ ∧ PV V0 V' d n (if b = 0 ∧ ct n v p = 59 then (p + 1, (0 : Int32)) else (p, 1)).1 (if b = 0 ∧ ct n v p = 59 then (p + 1, (0 : Int32)) else (p, 1)).2 (k + 1)
  by_cases c0 : b = 0
  · rw [if_pos c0, rm, Option.bind_some, m_here hd hn hB h (by omega), Option.bind_some]
    by_cases c : ct n v p = 59
    · rw [if_pos ((hr_e hb p).2.1.2.mpr c), if_pos ⟨c0, c⟩]
      exact tl _ (Or.inl ⟨rfl, rfl⟩)
    · rw [if_neg (fun z => c ((hr_e hb p).2.1.2.mp z)), if_neg (fun z => c z.2)]
      exact tl _ (Or.inr ⟨rfl, rfl⟩)
  · rw [if_neg c0, if_neg (fun z => c0 z.1)]
    exact tl _ (Or.inr ⟨rfl, rfl⟩)
theorem m_124 {p k : Nat} {b x2 : Int32} (hd : d < 8) (hn : n ≤ 100) (hB : ∀ i, i < n → B 65 (100 * d + i) = (v i).toInt64) (hb : ∀ i, i < n → (v i).toInt8.toInt32 = v i) (h : PV V0 V d n p b k) (hp : p < 800) (hk : k < 51) (hb01 : b = 0 ∨ b = 1) (e : Nat) (he : (x2 = 102 ∧ e = 0) ∨ (x2 ≠ 102 ∧ e = 1)) : ∃ A' V', f_X11_readStatement_124 45 (mk A V R B J) (nN k) x2 = some (mk A' V' R B J) ∧ (RK k A A' ∧ ((∀ x, x ≠ 54 → A' x = A x) ∧ (PV V0 V' d n (rn (ct n v) e p b).1 (rn (ct n v) e p b).2 (k + 1) ∧ ((rn (ct n v) e p b).2 = 0 → A' 54 k = if x2 = 102 then 0 else ct n v p - 48)))) := by
  unfold f_X11_readStatement_124
  rw [gm_17, Option.bind_some]
  rcases he with ⟨hx, rfl⟩ | ⟨hx, rfl⟩
  · obtain ⟨V', e1, p1⟩ := m_143 (A := A) (R := R) (J := J) (s0 := 0) hd hn hB hb h (by omega) hk hb01
    rw [if_pos hx]
    refine ⟨_, V', e1, RK.up (by decide), fun x hx => uA_ne hx, p1, fun _ => ?_⟩
    rw [uA_eq, upd_eq, if_pos hx]
  · obtain ⟨V1, r, e1, g1⟩ := m_digit (A := A) (R := R) (J := J) hd hn hB hb h (by omega) hb01
    rw [if_neg hx, rm, Option.bind_some, e1, Option.bind_some]
    rcases g1 with ⟨g1, g2, g3, g4⟩ | ⟨g1, g3, g4⟩
    · obtain ⟨V', e2, p2⟩ := m_143 (A := A) (R := R) (J := J) (s0 := r) hd hn hB hb g3 (by omega) hk (Or.inl rfl)
      refine ⟨_, V', e2, RK.up (by decide), fun x hx => uA_ne hx, ?_, fun _ => ?_⟩
      · rw [rn_y ⟨g1, g2⟩]
        exact p2
      · rw [uA_eq, upd_eq, if_neg hx, g4]
    · obtain ⟨V', e2, p2⟩ := m_143 (A := A) (R := R) (J := J) (s0 := r) hd hn hB hb g3 (by omega) hk (Or.inr rfl)
      refine ⟨_, V', e2, RK.up (by decide), fun x hx => uA_ne hx, ?_, fun z => ?_⟩
      · rw [rn_n g1]
        exact p2
      · exact absurd (rn_0 z).1 g1
theorem m_104 {p k : Nat} {b x2 : Int32} (hd : d < 8) (hn : n ≤ 100) (hB : ∀ i, i < n → B 65 (100 * d + i) = (v i).toInt64) (hb : ∀ i, i < n → (v i).toInt8.toInt32 = v i) (h : PV V0 V d n p b k) (hp : p < 700) (hk : k < 51) (hb01 : b = 0 ∨ b = 1) (e : Nat) (he : (x2 = 102 ∧ e = 0) ∨ (x2 ≠ 102 ∧ e = 1)) : ∃ A' V', f_X11_readStatement_104 45 (mk A V R B J) (nN k) x2 = some (mk A' V' R B J) ∧ (RK k A A' ∧ ((∀ x, x ≠ 53 → x ≠ 54 → A' x = A x) ∧ (PV V0 V' d n (rn (ct n v) (e + 1) p b).1 (rn (ct n v) (e + 1) p b).2 (k + 1) ∧ ((rn (ct n v) (e + 1) p b).2 = 0 → A' 53 k = 10 * A 53 k + (ct n v p - 48) ∧ A' 54 k = if x2 = 102 then 0 else ct n v (p + 1) - 48)))) := by
  have kc : (nN k).toNatClampNeg = k := cn (by omega)
  obtain ⟨V1, r, e1, g1⟩ := m_digit (A := A) (R := R) (J := J) hd hn hB hb h (by omega) hb01
  unfold f_X11_readStatement_104
  rw [gm_16, Option.bind_some, Option.bind_some, am_53, ib51 hk, if_pos rfl, Option.bind_some, kc, rm, Option.bind_some, e1, Option.bind_some]
  dsimp only
  rw [wm_53, ib51 hk, if_pos rfl, Option.bind_some, kc]
  rcases g1 with ⟨g1, g2, g3, g4⟩ | ⟨g1, g3, g4⟩
  · obtain ⟨A', V', e2, k2, f2, p2, q2⟩ := m_124 (A := upA A 53 (upd (A 53) k (10 * A 53 k + r))) (R := R) (J := J) (x2 := x2) hd hn hB hb g3 (by omega) hk (Or.inl rfl) e he
    refine ⟨A', V', e2, (RK.up (by decide)).tr k2, fun x h1 h2 => (f2 x h2).trans (uA_ne h1), ?_, fun z => ⟨?_, q2 (rn_0 z).2⟩⟩
    · rw [rn_y ⟨g1, g2⟩]
      exact p2
    · rw [f2 53 (by decide), uA_eq, upd_eq, g4]
  · obtain ⟨A', V', e2, k2, f2, p2, q2⟩ := m_124 (A := upA A 53 (upd (A 53) k (10 * A 53 k + r))) (R := R) (J := J) (x2 := x2) hd hn hB hb g3 (by omega) hk (Or.inr rfl) e he
    refine ⟨A', V', e2, (RK.up (by decide)).tr k2, fun x h1 h2 => (f2 x h2).trans (uA_ne h1), ?_, fun z => absurd (rn_0 z).1 g1⟩
    rw [rn_n g1]
    exact p2
end M
end RDM
