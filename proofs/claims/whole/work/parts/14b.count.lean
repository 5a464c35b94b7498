/-! count -/
section CNT
variable {A V A' V' : Nat → Nat → Int32} {R R' : Nat → Nat → Option Nat} {B B' : Nat → Nat → Int64} {J : List En}
/-- how many houses are ahead of a plot -/
def hn (N : Nat → Nat) : Nat → Nat
  | 0 => 0
  | p + 1 => hn N p + (if N p = 0 then 0 else 1)
theorem hn_le (N : Nat → Nat) : ∀ p, hn N p ≤ p
  | 0 => Nat.le_refl _
  | p + 1 => by
    have := hn_le N p
    unfold hn
    split <;> omega
theorem hn_mono (N : Nat → Nat) {p : Nat} : ∀ k, hn N p ≤ hn N (p + k)
  | 0 => Nat.le_refl _
  | k + 1 => by
    have := hn_mono N (p := p) k
    show hn N p ≤ hn N (p + k) + (if N (p + k) = 0 then 0 else 1)
    omega
theorem hn_lt (N : Nat → Nat) {p q : Nat} (h : p < q) (hp : N p ≠ 0) : hn N p < hn N q := by
  have h1 := hn_mono N (p := p + 1) (q - (p + 1))
  rw [show p + 1 + (q - (p + 1)) = q by omega] at h1
  have h2 : hn N (p + 1) = hn N p + 1 := by
    show hn N p + (if N p = 0 then 0 else 1) = _
    rw [if_neg hp]
  omega
theorem upd_self {f : Nat → Int32} {i : Nat} : upd f i (f i) = f := by
  funext j
  by_cases h : j = i
  · subst h; exact upd_eq
  · exact upd_ne h
theorem m_houses {N : Nat → Nat} (hN : ∀ p, p < 12 → N p < 1000 ∧ A 48 p = nN (N p)) : ∃ s, f_X11_houseMany (mk A V R B J) 45 = some (nN (hn N 12), mk (upA A 58 s) V R B J) ∧ ∀ p, p < 12 → N p ≠ 0 → s (hn N p) = nN p := by
  have hl := (loop (fun m (s : Int32 × (Nat → Int32)) i => f_X11_houseMany_4 45 m (mk (upA A 58 s.2) V R B J) s.1 i) (fun i s => s.1 = nN (hn N i) ∧ ∀ p, p < i → N p ≠ 0 → s.2 (hn N p) = nN p) (fun i s => (nN (hn N (i + 1)), if N i = 0 then s.2 else upd s.2 (hn N i) (nN i))) 12 (fun m i s hi hp => by
    obtain ⟨s1, s2⟩ := s
    obtain ⟨h1, h2⟩ := hp
    have h1 : s1 = nN (hn N i) := h1
    subst h1
    have hc := hn_le N i
    have hz := hN i hi
    have a48 : ∀ s : Nat → Int32, upA A 58 s 48 = A 48 := fun s => uA_ne (by decide)
    have g12 : ¬ (12 : Int32) ≤ Int32.ofNat i := fun q => by rw [ge12 hi] at q; exact q
    have gc : ¬ (12 : Int32) ≤ Int32.ofNat (hn N i) := fun q => by rw [ge12 (show hn N i < 12 by omega)] at q; exact q
    have ic : inB (Int32.ofNat (hn N i)) 12 = true := ib12 (by omega)
    have cc : (Int32.ofNat (hn N i)).toNatClampNeg = hn N i := c12 (by omega)
    have z := nN_le0 (show N i < 2147483648 by omega)
    refine ⟨?_, rfl, fun p hp hn' => ?_⟩
    · show f_X11_houseMany_4 45 (m + 1) (mk (upA A 58 s2) V R B J) (Int32.ofNat (hn N i)) (Int32.ofNat i) = f_X11_houseMany_4 45 m (mk (upA A 58 (if N i = 0 then s2 else upd s2 (hn N i) (nN i))) V R B J) (nN (hn N i + (if N i = 0 then 0 else 1))) (Int32.ofNat i + 1)
      rw [f_X11_houseMany_4, if_neg g12, gm_25, Option.bind_some, if_neg gc]
      unfold f_X11_houseMany_25
      rw [gm_5, Option.bind_some, am_48, ib12 hi, if_pos rfl, Option.bind_some, c12 hi, a48, hz.2]
      by_cases d : N i = 0
      · have z' : Int32.ofNat (N i) ≤ 0 := by rw [d]; decide
        rw [if_pos z', gm_25, Option.bind_some, if_neg gc, if_pos d, if_pos d]
        unfold f_X11_houseMany_53 f_X11_houseMany_54
        rw [am_58, ic, if_pos rfl, Option.bind_some, cc, uA_eq, wm_58, ic, if_pos rfl, Option.bind_some, gm_5, Option.bind_some, am_48, ib12 hi, if_pos rfl, Option.bind_some, c12 hi, uA_uA, uA_eq, cc, a48, hz.2, if_pos z', upd_self]
        unfold f_X11_houseMany_70
        rw [Int32.add_zero, Nat.add_zero]
      · have z' : ¬ Int32.ofNat (N i) ≤ 0 := fun q => d (by rw [z] at q; exact q)
        rw [if_neg z', if_neg d, if_neg d]
        unfold f_X11_houseMany_54
        rw [wm_58, ic, if_pos rfl, Option.bind_some, gm_5, Option.bind_some, am_48, ib12 hi, if_pos rfl, Option.bind_some, c12 hi, uA_uA, uA_eq, cc, a48, hz.2, if_neg z']
        unfold f_X11_houseMany_70
        rw [n_s]
    · show (if N i = 0 then s2 else upd s2 (hn N i) (nN i)) (hn N p) = nN p
      by_cases e : p = i
      · subst e
        rw [if_neg hn', upd_eq]
      · have hlt := hn_lt N (show p < i by omega) hn'
        have h2' := h2 p (by omega) hn'
        split
        · exact h2'
        · rw [upd_ne (by omega)]
          exact h2')) 12 0 9988 (0, A 58) rfl ⟨rfl, fun p hp => absurd hp (Nat.not_lt_zero p)⟩
  have e0 : f_X11_houseMany (mk A V R B J) 45 = f_X11_houseMany_4 45 (9988 + 12) (mk (upA A 58 (A 58)) V R B J) 0 (Int32.ofNat 0) := by
    rw [uA_id, show Int32.ofNat 0 = (0 : Int32) from rfl]
    unfold f_X11_houseMany
    rfl
  have e1 : ∀ (s : Int32 × (Nat → Int32)), f_X11_houseMany_4 45 9988 (mk (upA A 58 s.2) V R B J) s.1 (Int32.ofNat 12) = some (s.1, mk (upA A 58 s.2) V R B J) := by
    intro s
    show f_X11_houseMany_4 45 (9987 + 1) _ _ _ = _
    rw [f_X11_houseMany_4, if_pos (show (12 : Int32) ≤ Int32.ofNat 12 from Int32.le_refl _)]
  obtain ⟨g1, g2, g3⟩ := hl
  refine ⟨_, e0.trans (g1.trans ((e1 _).trans ?_)), g3⟩
  rw [g2]
theorem c_housesN {t : Nat} {N : Nat → Nat} (ht : isSt t) (hN : ∀ p, p < 12 → N p < 1000 ∧ A (t + 1) p = nN (N p)) : f_X8_houses (mk A V R B J) t = some (nN (hn N 12)) := by
  rw [c_houses ht]
  refine congrArg some ?_
  have h := itr_rel (f := hoC (A (t + 1))) (g := fun _ (_ : Unit) => ()) (fun i a _ => a = nN (hn N i)) 12 (fun i a b hi q => by
    show hoC (A (t + 1)) i a = nN (hn N i + (if N i = 0 then 0 else 1))
    unfold hoC
    rw [q, (hN i hi).2]
    by_cases d : N i = 0
    · rw [if_pos (by rw [d]; rfl), if_pos d, Nat.add_zero]
    · rw [if_neg (fun z => d (by rwa [nN_0 (show N i < 2147483648 by have := (hN i hi).1; omega)] at z)), if_neg d]
      exact n_s _) 12 0 0 () rfl rfl
  exact h
/-- the greatest -/
def gN (N : Nat → Nat) : Nat → Nat
  | 0 => 0
  | p + 1 => max (gN N p) (N p)
theorem gN_lt (N : Nat → Nat) (b : Nat) (hb : 0 < b) : ∀ p, (∀ q, q < p → N q < b) → gN N p < b
  | 0, _ => hb
  | p + 1, h => by
    have h1 := gN_lt N b hb p (fun q hq => h q (by omega))
    have h2 := h p (by omega)
    show max (gN N p) (N p) < b
    omega
theorem c_greatN {t : Nat} {N : Nat → Nat} (ht : isSt t) (hN : ∀ p, p < 12 → N p < 1000 ∧ A (t + 1) p = nN (N p)) : f_X8_greatest (mk A V R B J) t = some (nN (gN N 12)) := by
  rw [c_greatest ht]
  refine congrArg some ?_
  have h := itr_rel (f := grC (A (t + 1))) (g := fun _ (_ : Unit) => ()) (fun i a _ => a = nN (gN N i) ∧ gN N i < 1000) 12 (fun i a b hi q => by
    obtain ⟨q1, q2⟩ := q
    have h1 := (hN i hi).1
    refine ⟨?_, by show max (gN N i) (N i) < 1000; omega⟩
    show grC (A (t + 1)) i a = nN (max (gN N i) (N i))
    unfold grC mxI
    rw [q1, (hN i hi).2]
    by_cases d : N i ≤ gN N i
    · rw [Nat.max_eq_left d, if_neg (by rw [n_lt (by omega) (by omega)]; omega)]
    · rw [Nat.max_eq_right (by omega), if_pos (by rw [n_lt (by omega) (by omega)]; omega)]) 12 0 0 () rfl ⟨rfl, Nat.le_of_ble_eq_true rfl⟩
  exact h.1
theorem m_greatN {N : Nat → Nat} (hN : ∀ p, p < 12 → N p < 1000 ∧ A 49 p = nN (N p)) : f_X11_greatest (mk A V R B J) 45 = some (nN (gN N 12)) := by
  rw [m_greatest]
  refine congrArg some ?_
  have h := itr_rel (f := grM (A 49)) (g := fun _ (_ : Unit) => ()) (fun i a _ => a = nN (gN N i) ∧ gN N i < 1000) 12 (fun i a b hi q => by
    obtain ⟨q1, q2⟩ := q
    have h1 := (hN i hi).1
    refine ⟨?_, by show max (gN N i) (N i) < 1000; omega⟩
    show grM (A 49) i a = nN (max (gN N i) (N i))
    unfold grM
    rw [q1, (hN i hi).2]
    by_cases d : N i ≤ gN N i
    · rw [Nat.max_eq_left d, if_pos (by rw [n_le (by omega) (by omega)]; exact d)]
    · rw [Nat.max_eq_right (by omega), if_neg (by rw [n_le (by omega) (by omega)]; exact d)]) 12 0 0 () rfl ⟨rfl, Nat.le_of_ble_eq_true rfl⟩
  exact h.1
theorem cnt_sum {P H : Nat → Nat} {E : Nat} (hE : E ≤ 30) : ∀ q, cnt P H q E ≤ 30 := by
  intro q
  have : ∀ e, cnt P H q e ≤ e := by
    intro e
    induction e with
    | zero => exact Nat.le_refl _
    | succ e ih =>
      show cnt P H q e + (if H e ≠ 0 ∧ P e / 4 = q then 1 else 0) ≤ e + 1
      split <;> omega
  exact Nat.le_trans (this E) hE
theorem Wf.num {T : Tn} (w : Wf T) : ∀ p, p < 12 → tN T p < 1000 := by
  intro p hp
  have h1 := (w.2.2.2 p hp).2
  have h2 := w.2.2.1.1
  omega
theorem op_22 (x : Int32) : Ok1 (fun h => f_X10_count h 0 x) (fun h => f_X11_count h 45 x) := by
  intro A V R B J h
  have h0 := h
  obtain ⟨⟨T, w, st, mo⟩, -⟩ := h0
  have mo6 : MoRep A (upV V 45 6 0) T := mo.cong ⟨rfl, rfl, rfl⟩ ⟨uV_ne (by decide), uV_ne (by decide), uV_ne (by decide)⟩
  obtain ⟨A', e1, hA, lk⟩ := m_lookNow (R := R) (B := B) (J := J) w mo6
  have hw := w.num
  have sc : ∀ s, Frm A V R B (upA A' 58 s) (upV V 45 6 0) R B := fun s => ⟨fun a g => by
    have g1 : a ≠ 49 := fun q => g (by rw [q]; decide)
    have g2 : a ≠ 50 := fun q => g (by rw [q]; decide)
    have g3 : a ≠ 58 := fun q => g (by rw [q]; decide)
    rw [uA_ne g3, hA a g1 g2], fun a k g => uV_ne (fun q => g (Or.inr ⟨q.1, by rw [q.2]; decide⟩)), fun _ _ _ => rfl, rfl⟩
  have sc' : Frm A V R B A' (upV V 45 6 0) R B := by
    have := sc (A' 58)
    rwa [uA_id] at this
  have f48 : ∀ p, p < 12 → tN T p < 1000 ∧ A' 48 p = nN (tN T p) := fun p hp => ⟨hw p hp, by rw [hA 48 (by decide) (by decide)]; exact mo.2.2 p hp⟩
  have f2 : ∀ p, p < 12 → tN T p < 1000 ∧ A (1 + 1) p = nN (tN T p) := fun p hp => ⟨hw p hp, st.2.2.2.1 p hp⟩
  obtain ⟨s, e2, -⟩ := m_houses (V := upV V 45 6 0) (R := R) (B := B) (J := J) f48
  obtain ⟨b, hb, -, hb1, hb2⟩ := law_at (A := A) (V := V) (R := R) (B := B) st.2.2.2.2.2
  have hm : ∀ y : Int32 × Hp, (rcv (mk A (upV V 45 6 0) R B J) (some 45) 11).bind (fun a6 => f_X11_lookNow (mk A (upV V 45 6 0) R B J) a6) = some (mk A' (upV V 45 6 0) R B J) := fun _ => by rw [rm, Option.bind_some, e1]
  by_cases c0 : x = 0
  · refine ⟨nN (hn (tN T) 12), upA A' 58 s, upV V 45 6 0, R, B, ?_, ?_, h.f0 (sc s)⟩
    · simp only [f_X10_count, if_pos c0, go_0, Option.bind_some, rs isT, c_housesN isT f2]
    · simp only [f_X11_count, pm_6, Option.bind_some, rm, e1, if_pos c0, e2]
  · by_cases c1 : x = 1
    · refine ⟨nN (tE T), A', upV V 45 6 0, R, B, ?_, ?_, h.f0 sc'⟩
      · simp only [f_X10_count, if_neg c0, if_pos c1, go_0, Option.bind_some, gs_7 isT, st.1.1]
      · simp only [f_X11_count, pm_6, Option.bind_some, rm, e1, if_neg c0, if_pos c1, gm_2, mo6.1.2.2]
    · by_cases c2 : x = 2
      · refine ⟨nN (bui (tP T) (tH T) (tE T)), A', upV V 45 6 0, R, B, ?_, ?_, h.f0 sc'⟩
        · simp only [f_X10_count, if_neg c0, if_neg c1, if_pos c2, go_0, Option.bind_some, gs_8 isT, st.1.2]
        · have i0 : inB (0 : Int32) 3 = true := rfl
          have i1 : inB (1 : Int32) 3 = true := rfl
          have i2 : inB (2 : Int32) 3 = true := rfl
          have t0 : (0 : Int32).toNatClampNeg = 0 := rfl
          have t1 : (1 : Int32).toNatClampNeg = 1 := rfl
          have t2 : (2 : Int32).toNatClampNeg = 2 := rfl
          simp only [f_X11_count, pm_6, Option.bind_some, rm, e1, if_neg c0, if_neg c1, if_pos c2, gm_8, am_50, i0, i1, i2, if_true, t0, t1, t2, lk.2 0 (by decide), lk.2 1 (by decide), lk.2 2 (by decide), bui, Int32.ofNat_add]
      · by_cases c3' : x = 3
        · refine ⟨nN (gN (tN T) 12), A', upV V 45 6 0, R, B, ?_, ?_, h.f0 sc'⟩
          · simp only [f_X10_count, if_neg c0, if_neg c1, if_neg c2, if_pos c3', go_0, Option.bind_some, rs isT, c_greatN isT f2]
          · simp only [f_X11_count, pm_6, Option.bind_some, rm, e1, if_neg c0, if_neg c1, if_neg c2, if_pos c3', m_greatN (fun p hp => ⟨hw p hp, lk.1 p hp⟩)]
        · by_cases c4 : x = 4
          · refine ⟨nN (tK T), A', upV V 45 6 0, R, B, ?_, ?_, h.f0 sc'⟩
            · simp only [f_X10_count, if_neg c0, if_neg c1, if_neg c2, if_neg c3', if_pos c4, go_0, Option.bind_some, gs_9 isT, hb1]
            · simp only [f_X11_count, pm_6, Option.bind_some, rm, e1, if_neg c0, if_neg c1, if_neg c2, if_neg c3', if_pos c4, gm_0, mo6.1.1]
          · by_cases c5 : x = 5
            · refine ⟨nN (tF T), A', upV V 45 6 0, R, B, ?_, ?_, h.f0 sc'⟩
              · simp only [f_X10_count, if_neg c0, if_neg c1, if_neg c2, if_neg c3', if_neg c4, if_pos c5, go_0, Option.bind_some, gs_9 isT, hb2]
              · simp only [f_X11_count, pm_6, Option.bind_some, rm, e1, if_neg c0, if_neg c1, if_neg c2, if_neg c3', if_neg c4, if_pos c5, gm_1, mo6.1.2.1]
            · refine ⟨-1, A', upV V 45 6 0, R, B, ?_, ?_, h.f0 sc'⟩
              · simp only [f_X10_count, if_neg c0, if_neg c1, if_neg c2, if_neg c3', if_neg c4, if_neg c5]
              · simp only [f_X11_count, pm_6, Option.bind_some, rm, e1, if_neg c0, if_neg c1, if_neg c2, if_neg c3', if_neg c4, if_neg c5]
end CNT
