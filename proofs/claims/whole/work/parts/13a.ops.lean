/-! Each call: class and model answer alike. -/
section OPS
variable {A V : Nat → Nat → Int32} {R : Nat → Nat → Option Nat} {B : Nat → Nat → Int64} {J : List En}
theorem inv_0 : Inv A0 V0 R0 B0 [] := by
  refine ⟨⟨(0, 0, 0, fun _ => 0, fun _ => 0, fun _ => 0), ⟨by decide, by decide, ⟨by decide, fun e h => absurd h (Nat.not_lt_zero e)⟩, fun p _ => ⟨⟨fun h => absurd rfl h, fun h => by cases h⟩, Nat.zero_le _⟩⟩, ⟨⟨rfl, rfl⟩, fun q _ => rfl, fun e h => absurd h (Nat.not_lt_zero e), fun p _ => rfl, fun p _ h => absurd rfl h, by decide, by decide, Or.inl ⟨rfl, rfl, Or.inl rfl⟩⟩, ⟨rfl, rfl, rfl⟩, fun e h => absurd h (Nat.not_lt_zero e), fun p _ => rfl⟩, Or.inl ⟨rfl, rfl⟩, fun d hd => Or.inl ⟨?_, ?_, rfl⟩⟩
  · unfold R0
    rw [if_neg (by omega), if_neg (by omega), if_neg (by omega)]
  · unfold V0
    rw [if_pos ⟨rfl, by omega, by omega⟩]
theorem isT : isSt 1 := Or.inl rfl
theorem isM : isSt 10 := Or.inr (Or.inl rfl)
theorem isI : isSt 19 := Or.inr (Or.inr rfl)
/-- the model forgets what was thrown -/
theorem Inv.thr (h : Inv A V R B J) {x : Int32} : Inv A (upV V 45 6 x) R B J := by
  have := h.frm [] (Frm.v (x := 45) (k := 6) (y := x) (Or.inr ⟨rfl, by decide⟩))
  rwa [List.append_nil] at this
theorem Inv.f0 {A' V' : Nat → Nat → Int32} {R' : Nat → Nat → Option Nat} {B' : Nat → Nat → Int64} (h : Inv A V R B J) (g : Frm A V R B A' V' R' B') : Inv A' V' R' B' J := by
  have := h.frm [] g
  rwa [List.append_nil] at this
/-- numbers on both sides, and that they are 0 or above -/
theorem Inv.num (h : Inv A V R B J) : ∃ N : Nat → Nat, ∀ p, p < 12 → N p < 1000 ∧ A 2 p = nN (N p) ∧ A 48 p = nN (N p) := by
  obtain ⟨⟨T, w, s, m⟩, -⟩ := h
  refine ⟨tN T, fun p hp => ⟨?_, s.2.2.2.1 p hp, m.2.2 p hp⟩⟩
  have h1 := (w.2.2.2 p hp).2
  have h2 := w.2.2.1.1
  omega
theorem nN_0 {a : Nat} (ha : a < 2147483648) : (nN a = 0) = (a = 0) := n_eq ha (b := 0) (by decide)
theorem nN_le0 {a : Nat} (ha : a < 2147483648) : (nN a ≤ 0) = (a = 0) := by
  rw [show (nN a ≤ 0) = (a ≤ 0) from n_le ha (b := 0) (by decide)]
  exact propext ⟨by omega, by omega⟩
/-! have -/
theorem op_5 (x : Int32) : Ok1 (fun h => f_X10_have h 0 x) (fun h => f_X11_have h 45 x) := by
  intro A V R B J h
  obtain ⟨N, hN⟩ := h.num
  by_cases c : (1 : Int32) ≤ x
  · refine ⟨itr (bitsC (A 2) x) 0 12 0, A, upV V 45 6 0, R, B, ?_, ?_, h.thr⟩
    · simp only [f_X10_have, go_0, Option.bind_some, rs isT, c_plotsWith isT, if_pos c]
    · simp only [m_have, if_pos c]
      congr 2
      refine itr_eq 12 (fun i s hi => ?_) 12 0 0 rfl
      obtain ⟨h1, h2, h3⟩ := hN i hi
      have hx : x ≠ 0 := fun q => by rw [q] at c; exact absurd c (by decide)
      simp only [bitsM, bitsC, h2, h3]
      by_cases q : nN (N i) = x
      · have q2 : ¬ nN (N i) = 0 := fun z => hx (q.symm.trans z)
        simp only [if_pos q, if_neg q2]
      · rw [if_neg q, if_neg q, Int32.or_zero]
        split <;> rfl
  · refine ⟨-1, A, upV V 45 6 0, R, B, ?_, ?_, h.thr⟩
    · simp only [f_X10_have, if_neg c]
    · simp only [m_have, if_neg c]
/-! falls -/
def flC (f : Nat → Int32) : Nat → Int32 × Int32 → Int32 × Int32 := fun i s => if f i = 0 then s else if s.2 < f i then (s.1, f i) else (s.1 + 1, f i)
theorem c_falls {t : Nat} (ht : isSt t) : f_X8_pairsNotRising (mk A V R B J) t = some (itr (flC (A (t + 1))) 0 12 (0, 0)).1 := by
  have h := (loop (fun n s i => f_X8_pairsNotRising_6 (mk A V R B J) t n s.1 s.2 i) (fun _ _ => True) (flC (A (t + 1))) 12 (fun n i b hi _ => by
    refine ⟨?_, trivial⟩
    simp only [f_X8_pairsNotRising_6, f_X8_pairsNotRising_41, f_X8_pairsNotRising_34, gs_0 ht, as_0 ht, Option.bind_some, ib12 hi, c12 hi, ge12 hi, if_true, if_false, flC]
    repeat' first | rfl | split)) 12 0 9988 (0, 0) rfl trivial
  exact h.1
def flM (f : Nat → Int32) : Nat → Int32 × Int32 → Int32 × Int32 := fun i s => ((s.1 + if f i ≤ 0 then 0 else if s.2 < f i then 0 else 1), if f i ≤ 0 then s.2 else f i)
theorem m_falls : f_X11_falls (mk A V R B J) 45 = some ((itr (flM (A 48)) 0 12 (0, 0)).1, mk A (upV V 45 6 0) R B J) := by
  have h := (loop (fun n s i => f_X11_falls_11 45 n (mk A (upV V 45 6 0) R B J) s.1 s.2 i) (fun _ _ => True) (flM (A 48)) 12 (fun n i b hi _ => by
    refine ⟨?_, trivial⟩
    simp only [f_X11_falls_11, f_X11_falls_41, f_X11_falls_42, f_X11_falls_63, gm_5, am_48, Option.bind_some, ib12 hi, c12 hi, ge12 hi, if_true, if_false, flM]
    repeat' first | rfl | split)) 12 0 9988 (0, 0) rfl trivial
  have h1 := h.1
  unfold f_X11_falls
  rw [pm_6, Option.bind_some]
  exact h1
theorem op_13 : Ok1 (fun h => f_X10_falls h 0) (fun h => f_X11_falls h 45) := by
  intro A V R B J h
  obtain ⟨N, hN⟩ := h.num
  refine ⟨(itr (flC (A 2)) 0 12 (0, 0)).1, A, upV V 45 6 0, R, B, ?_, ?_, h.thr⟩
  · simp only [f_X10_falls, go_0, Option.bind_some, rs isT, c_falls isT]
  · simp only [m_falls]
    congr 2
    refine congrArg Prod.fst (itr_eq 12 (fun i s hi => ?_) 12 0 (0, 0) rfl)
    obtain ⟨h1, h2, h3⟩ := hN i hi
    simp only [flM, flC, h2, h3, nN_0 (show N i < 2147483648 by omega), nN_le0 (show N i < 2147483648 by omega)]
    by_cases q : N i = 0
    · simp only [if_pos q, Int32.add_zero]
    · simp only [if_neg q]
      split <;> simp only [Int32.add_zero]
/-! greatest, houses -/
def grC (f : Nat → Int32) : Nat → Int32 → Int32 := fun i s => mxI s (f i)
theorem c_greatest {t : Nat} (ht : isSt t) : f_X8_greatest (mk A V R B J) t = some (itr (grC (A (t + 1))) 0 12 0) := by
  have h := (loop (fun n s i => f_X8_greatest_4 (mk A V R B J) t n s i) (fun _ _ => True) (grC (A (t + 1))) 12 (fun n i b hi _ => by
    refine ⟨?_, trivial⟩
    simp only [f_X8_greatest_4, gs_0 ht, as_0 ht, Option.bind_some, ib12 hi, c12 hi, ge12 hi, if_true, if_false, grC])) 12 0 9988 0 rfl trivial
  exact h.1
def hoC (f : Nat → Int32) : Nat → Int32 → Int32 := fun i s => if f i = 0 then s else s + 1
theorem c_houses {t : Nat} (ht : isSt t) : f_X8_houses (mk A V R B J) t = some (itr (hoC (A (t + 1))) 0 12 0) := by
  have h := (loop (fun n s i => f_X8_houses_4 (mk A V R B J) t n s i) (fun _ _ => True) (hoC (A (t + 1))) 12 (fun n i b hi _ => by
    refine ⟨?_, trivial⟩
    simp only [f_X8_houses_4, f_X8_houses_22, gs_0 ht, as_0 ht, Option.bind_some, ib12 hi, c12 hi, ge12 hi, if_true, if_false, hoC]
    repeat' first | rfl | split)) 12 0 9988 0 rfl trivial
  exact h.1
def grM (f : Nat → Int32) : Nat → Int32 → Int32 := fun i s => if f i ≤ s then s else f i
theorem m_greatest : f_X11_greatest (mk A V R B J) 45 = some (itr (grM (A 49)) 0 12 0) := by
  have h := (loop (fun n s i => f_X11_greatest_4 (mk A V R B J) 45 n s i) (fun _ _ => True) (grM (A 49)) 12 (fun n i b hi _ => by
    refine ⟨?_, trivial⟩
    simp only [f_X11_greatest_4, f_X11_greatest_30, gm_7, am_49, Option.bind_some, ib12 hi, c12 hi, ge12 hi, if_true, if_false, grM]
    repeat' first | rfl | split)) 12 0 9988 0 rfl trivial
  exact h.1
def isHM (f : Nat → Int32) (x : Int32) : Nat → Int32 → Int32 := fun i s => if s = 0 then (if f i = x then 1 else 0) else 1
/-- whether a number is looked at -/
def had (N : Nat → Nat) (v : Nat) : Prop := ∃ p, p < 12 ∧ N p = v
theorem itr_had {f : Nat → Int32} {x : Int32} : ∀ (k i : Nat) (s : Int32), (s = 0 ∨ s = 1) → (itr (isHM f x) i k s = 0 ∨ itr (isHM f x) i k s = 1) ∧ (itr (isHM f x) i k s = 0 ↔ s = 0 ∧ ∀ p, i ≤ p → p < i + k → f p ≠ x) := by
  intro k
  induction k with
  | zero => intro i s h; exact ⟨h, ⟨fun q => ⟨q, fun p h1 h2 => by omega⟩, fun q => q.1⟩⟩
  | succ k ih =>
    intro i s h
    have hs : isHM f x i s = 0 ∨ isHM f x i s = 1 := by unfold isHM; split; split; exact Or.inr rfl; exact Or.inl rfl; exact Or.inr rfl
    obtain ⟨a, b⟩ := ih (i + 1) (isHM f x i s) hs
    refine ⟨a, b.trans ?_⟩
    constructor
    · intro q
      obtain ⟨q1, q2⟩ := q
      unfold isHM at q1
      split at q1
      · rename_i hz
        split at q1
        · exact absurd q1 (by decide)
        · rename_i hn
          refine ⟨hz, fun p h1 h2 => ?_⟩
          by_cases e : p = i
          · rw [e]; exact hn
          · exact q2 p (by omega) (by omega)
      · exact absurd q1 (by decide)
    · intro q
      refine ⟨?_, fun p h1 h2 => q.2 p (by omega) (by omega)⟩
      unfold isHM
      rw [if_pos q.1, if_neg (q.2 i (Nat.le_refl _) (by omega))]
theorem m_isHad {x : Int32} : ∃ b : Int32, f_X11_isHad (mk A V R B J) 45 x = some b ∧ ((b = 0 ∨ b = 1) ∧ (b = 0 ↔ ∀ p, p < 12 → A 49 p ≠ x)) := by
  have h := (loop (fun n s i => f_X11_isHad_4 (mk A V R B J) 45 n x s i) (fun _ _ => True) (isHM (A 49) x) 12 (fun n i b hi _ => by
    refine ⟨?_, trivial⟩
    simp only [f_X11_isHad_4, f_X11_isHad_24, f_X11_isHad_29, gm_7, am_49, Option.bind_some, ib12 hi, c12 hi, ge12 hi, if_true, if_false, isHM]
    repeat' first | rfl | split)) 12 0 9988 0 rfl trivial
  obtain ⟨a, b⟩ := itr_had (f := A 49) (x := x) 12 0 0 (Or.inl rfl)
  refine ⟨itr (isHM (A 49) x) 0 12 0, ?_, a, b.trans ⟨fun q p hp => q.2 p (Nat.zero_le _) (by omega), fun q => ⟨rfl, fun p _ hp => q p (by omega)⟩⟩⟩
  have h1 : ∀ s : Int32, f_X11_isHad_4 (mk A V R B J) 45 9988 x s (Int32.ofNat 12) = okZ s := fun s => rfl
  have h1 : f_X11_isHad (mk A V R B J) 45 x = okZ (itr (isHM (A 49) x) 0 12 0) := (show f_X11_isHad (mk A V R B J) 45 x = f_X11_isHad_4 (mk A V R B J) 45 9988 x (itr (isHM (A 49) x) 0 12 0) (Int32.ofNat 12) from h.1).trans (h1 _)
  rw [h1]
  unfold okZ
  rw [if_pos a]
end OPS
