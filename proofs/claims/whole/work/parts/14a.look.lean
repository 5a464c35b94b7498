/-! What the model looks at. -/
section LOOK
variable {A V A' V' : Nat → Nat → Int32} {R R' : Nat → Nat → Option Nat} {B B' : Nat → Nat → Int64} {J : List En}
theorem c3 {i : Nat} (h : i < 3) : (Int32.ofNat i).toNatClampNeg = i := cn (by omega)
theorem ge3 {i : Nat} (h : i < 3) : ((3 : Int32) ≤ Int32.ofNat i) = False := ge_no (m := 3) h (by decide)
theorem m_empty3 : f_X11_lookEmpty_23 45 10000 (mk A V R B J) (0 : Int32) = some (mk (upA A 50 (itr (fun i s => upd s i 0) 0 3 (A 50))) V R B J) := by
  have hl := (loop (fun m s i => f_X11_lookEmpty_23 45 m (mk (upA A 50 s) V R B J) i) (fun _ _ => True) (fun i s => upd s i 0) 3 (fun m i s hi _ => by
    refine ⟨?_, trivial⟩
    simp only [f_X11_lookEmpty_23, ge3 hi, if_false, gm_8, wm_50, ib hi (show 3 ≤ 5000 by decide), if_true, c3 hi, Option.bind_some, uA_eq, uA_uA])) 3 0 9997 (A 50) rfl trivial
  have e0 : f_X11_lookEmpty_23 45 10000 (mk A V R B J) (0 : Int32) = f_X11_lookEmpty_23 45 (9997 + 3) (mk (upA A 50 (A 50)) V R B J) (Int32.ofNat 0) := by
    rw [uA_id, show Int32.ofNat 0 = (0 : Int32) from rfl]
  have e1 : ∀ s, f_X11_lookEmpty_23 45 9997 (mk (upA A 50 s) V R B J) (Int32.ofNat 3) = some (mk (upA A 50 s) V R B J) := by
    intro s
    show f_X11_lookEmpty_23 45 (9996 + 1) _ _ = _
    rw [f_X11_lookEmpty_23, if_pos (show (3 : Int32) ≤ Int32.ofNat 3 from Int32.le_refl _)]
  exact e0.trans (hl.1.trans (e1 _))
/-- an empty street to look at -/
def emp (A : Nat → Nat → Int32) : Nat → Nat → Int32 := upA (upA A 49 (itr (fun i s => upd s i 0) 0 12 (A 49))) 50 (itr (fun i s => upd s i 0) 0 3 (A 50))
theorem m_empty : f_X11_lookEmpty (mk A V R B J) 45 = some (mk (emp A) V R B J) := by
  have hl := (loop (fun m s i => f_X11_lookEmpty_2 45 m (mk (upA A 49 s) V R B J) i) (fun _ _ => True) (fun i s => upd s i 0) 12 (fun m i s hi _ => by
    refine ⟨?_, trivial⟩
    simp only [f_X11_lookEmpty_2, ge12 hi, if_false, gm_7, wm_49, ib12 hi, if_true, c12 hi, Option.bind_some, uA_eq, uA_uA])) 12 0 9988 (A 49) rfl trivial
  have e0 : f_X11_lookEmpty (mk A V R B J) 45 = f_X11_lookEmpty_2 45 (9988 + 12) (mk (upA A 49 (A 49)) V R B J) (Int32.ofNat 0) := by
    rw [uA_id, show Int32.ofNat 0 = (0 : Int32) from rfl]
    unfold f_X11_lookEmpty
    rfl
  have e1 : ∀ s, f_X11_lookEmpty_2 45 9988 (mk (upA A 49 s) V R B J) (Int32.ofNat 12) = some (mk (upA (upA A 49 s) 50 (itr (fun i s => upd s i 0) 0 3 (A 50))) V R B J) := by
    intro s
    show f_X11_lookEmpty_2 45 (9987 + 1) _ _ = _
    rw [f_X11_lookEmpty_2, if_pos (show (12 : Int32) ≤ Int32.ofNat 12 from Int32.le_refl _), m_empty3, uA_ne (by decide)]
  exact e0.trans (hl.1.trans (e1 _))
theorem emp_at : (∀ a, a ≠ 49 → a ≠ 50 → emp A a = A a) ∧ ((∀ p, p < 12 → emp A 49 p = 0) ∧ ∀ q, q < 3 → emp A 50 q = 0) := by
  refine ⟨fun a h1 h2 => ?_, fun p hp => ?_, fun q hq => ?_⟩
  · unfold emp
    rw [uA_ne h2, uA_ne h1]
  · unfold emp
    rw [uA_ne (by decide), uA_eq, itr_fill, if_pos (by omega)]
  · unfold emp
    rw [uA_eq, itr_fill, if_pos (by omega)]
theorem itr_copy {g : Nat → Int32} : ∀ (k i : Nat) (s : Nat → Int32) (p : Nat), itr (fun i s => upd s i (g i)) i k s p = if i ≤ p ∧ p < i + k then g p else s p := by
  intro k
  induction k with
  | zero => intro i s p; rw [if_neg (by omega)]; rfl
  | succ k ih =>
    intro i s p
    show itr (fun i s => upd s i (g i)) (i + 1) k (upd s i (g i)) p = _
    rw [ih]
    by_cases q : i + 1 ≤ p ∧ p < i + 1 + k
    · rw [if_pos q, if_pos (by omega)]
    · rw [if_neg q]
      by_cases e : p = i
      · subst e
        rw [upd_eq, if_pos (by omega)]
      · rw [upd_ne e, if_neg (by omega)]
theorem dv4 : ∀ a, a < 12 → dvI (nN a) 4 = some (nN (a / 4)) := by decide +kernel
/-- what is looked at is a street -/
def Lk (A : Nat → Nat → Int32) (P H N : Nat → Nat) (E : Nat) : Prop := (∀ p, p < 12 → A 49 p = nN (N p)) ∧ ∀ q, q < 3 → A 50 q = nN (cnt P H q E)
theorem m_lookQ {P H : Nat → Nat} {E : Nat} (hE : Evs P H E) (hv : V 45 2 = nN E) (he : ∀ e, e < E → A 46 e = nN (P e) ∧ A 47 e = nN (H e)) (hq : ∀ q, q < 3 → A 50 q = 0) : ∃ s, f_X11_lookNow_32 45 10000 (mk A V R B J) (0 : Int32) = some (mk (upA A 50 s) V R B J) ∧ ∀ q, q < 3 → s q = nN (cnt P H q E) := by
  have hE30 := hE.1
  have hl := (loop (fun m s i => f_X11_lookNow_32 45 m (mk (upA A 50 s) V R B J) i) (fun i s => ∀ q, q < 3 → s q = nN (cnt P H q i)) (fun i s => upd s (P i / 4) (s (P i / 4) + (if H i = 0 then 0 else 1))) E (fun m i s hi hp => by
    have hPi := (hE.2 i hi).1
    have hHi := (hE.2 i hi).2.1
    have e : (nN E ≤ nN i) = False := ge_no hi (by omega)
    have i30 : inB (nN i) 30 = true := ib (show i < 30 by omega) (by decide)
    have ci : (nN i).toNatClampNeg = i := cn (by omega)
    have q3 : P i / 4 < 3 := by omega
    have iq : inB (nN (P i / 4)) 3 = true := ib q3 (by decide)
    have cq : (nN (P i / 4)).toNatClampNeg = P i / 4 := cn (by omega)
    have z : (nN (H i) ≤ 0) = (H i = 0) := nN_le0 (by omega)
    have a46 : upA A 50 s 46 = A 46 := uA_ne (by decide)
    have a47 : upA A 50 s 47 = A 47 := uA_ne (by decide)
    refine ⟨?_, fun q hq => ?_⟩
    · show f_X11_lookNow_32 45 (m + 1) (mk (upA A 50 s) V R B J) (Int32.ofNat i) = f_X11_lookNow_32 45 m (mk (upA A 50 (upd s (P i / 4) (s (P i / 4) + (if H i = 0 then 0 else 1)))) V R B J) (Int32.ofNat i + 1)
      have ne : ¬ (Int32.ofNat E ≤ Int32.ofNat i) := fun q => by rw [e] at q; exact q
      rw [f_X11_lookNow_32, gm_2, Option.bind_some, hv, if_neg ne, gm_8, Option.bind_some, gm_3, Option.bind_some, am_46, i30, if_pos rfl, Option.bind_some, ci, a46, (he i hi).1, dv4 _ hPi, Option.bind_some, am_50, iq, if_pos rfl, Option.bind_some, cq, gm_4, Option.bind_some, am_47, i30, if_pos rfl, Option.bind_some, ci, a47, (he i hi).2, uA_eq]
      by_cases d : H i = 0
      · have z' : Int32.ofNat (H i) ≤ 0 := by rw [d]; decide
        rw [if_pos z', if_pos d]
        unfold f_X11_lookNow_68
        rw [wm_50, iq, if_pos rfl, Option.bind_some, cq, uA_uA, uA_eq]
      · have z' : ¬ Int32.ofNat (H i) ≤ 0 := fun q => d (by rw [z] at q; exact q)
        rw [if_neg z', if_neg d]
        unfold f_X11_lookNow_68
        rw [wm_50, iq, if_pos rfl, Option.bind_some, cq, uA_uA, uA_eq]
    · show upd s (P i / 4) (s (P i / 4) + (if H i = 0 then 0 else 1)) q = nN (cnt P H q i + (if H i ≠ 0 ∧ P i / 4 = q then 1 else 0))
      by_cases c : q = P i / 4
      · subst c
        rw [upd_eq, hp _ q3]
        by_cases d : H i = 0
        · rw [if_pos d, if_neg (fun x => x.1 d), Int32.add_zero, Nat.add_zero]
        · rw [if_neg d, if_pos ⟨d, rfl⟩]
          exact n_s _
      · rw [upd_ne c, hp q hq, if_neg (fun x => c x.2.symm), Nat.add_zero])) E 0 (10000 - E) (A 50) (by omega) (fun q hq' => (hq q hq').trans rfl)
  refine ⟨_, ?_, hl.2⟩
  have e0 : f_X11_lookNow_32 45 10000 (mk A V R B J) (0 : Int32) = f_X11_lookNow_32 45 (10000 - E + E) (mk (upA A 50 (A 50)) V R B J) (Int32.ofNat 0) := by
    rw [uA_id, show Int32.ofNat 0 = (0 : Int32) from rfl, Nat.sub_add_cancel (by omega)]
  have e1 : ∀ s, f_X11_lookNow_32 45 (10000 - E) (mk (upA A 50 s) V R B J) (Int32.ofNat E) = some (mk (upA A 50 s) V R B J) := by
    intro s
    obtain ⟨m, hm⟩ : ∃ m, 10000 - E = m + 1 := ⟨9999 - E, by omega⟩
    rw [hm, f_X11_lookNow_32, gm_2, Option.bind_some, hv, if_pos (Int32.le_refl _)]
  exact e0.trans (hl.1.trans (e1 _))
theorem m_lookNow {T : Tn} (w : Wf T) (mo : MoRep A V T) : ∃ A', f_X11_lookNow (mk A V R B J) 45 = some (mk A' V R B J) ∧ ((∀ a, a ≠ 49 → a ≠ 50 → A' a = A a) ∧ Lk A' (tP T) (tH T) (tN T) (tE T)) := by
  obtain ⟨f1, f2, f3⟩ := emp_at (A := A)
  have hl := (loop (fun m s i => f_X11_lookNow_6 45 m (mk (upA (emp A) 49 s) V R B J) i) (fun _ _ => True) (fun i s => upd s i (A 48 i)) 12 (fun m i s hi _ => by
    refine ⟨?_, trivial⟩
    have a48 : upA (emp A) 49 s 48 = A 48 := (uA_ne (by decide)).trans (f1 48 (by decide) (by decide))
    simp only [f_X11_lookNow_6, ge12 hi, if_false, gm_7, gm_5, am_48, a48, wm_49, ib12 hi, if_true, c12 hi, Option.bind_some, uA_eq, uA_uA])) 12 0 9988 (emp A 49) rfl trivial
  have hq : ∀ s : Nat → Int32, ∀ q, q < 3 → upA (emp A) 49 s 50 q = 0 := fun s q h => by rw [uA_ne (by decide)]; exact f3 q h
  have hel : ∀ s : Nat → Int32, ∀ e, e < tE T → upA (emp A) 49 s 46 e = nN (tP T e) ∧ upA (emp A) 49 s 47 e = nN (tH T e) := fun s e h => by
    rw [uA_ne (by decide), uA_ne (by decide), f1 46 (by decide) (by decide), f1 47 (by decide) (by decide)]
    exact mo.2.1 e h
  obtain ⟨s2, g1, g2⟩ := m_lookQ (R := R) (B := B) (J := J) w.2.2.1 mo.1.2.2 (hel (itr (fun i s => upd s i (A 48 i)) 0 12 (emp A 49))) (hq _)
  refine ⟨upA (upA (emp A) 49 (itr (fun i s => upd s i (A 48 i)) 0 12 (emp A 49))) 50 s2, ?_, ?_, ?_, ?_⟩
  · have e0 : f_X11_lookNow (mk A V R B J) 45 = f_X11_lookNow_6 45 (9988 + 12) (mk (upA (emp A) 49 (emp A 49)) V R B J) (Int32.ofNat 0) := by
      rw [uA_id, show Int32.ofNat 0 = (0 : Int32) from rfl]
      unfold f_X11_lookNow
      rw [rm, Option.bind_some, m_empty, Option.bind_some]
    have e1 : ∀ s, f_X11_lookNow_6 45 9988 (mk (upA (emp A) 49 s) V R B J) (Int32.ofNat 12) = f_X11_lookNow_32 45 10000 (mk (upA (emp A) 49 s) V R B J) (0 : Int32) := by
      intro s
      show f_X11_lookNow_6 45 (9987 + 1) _ _ = _
      rw [f_X11_lookNow_6, if_pos (show (12 : Int32) ≤ Int32.ofNat 12 from Int32.le_refl _)]
    exact e0.trans (hl.1.trans ((e1 _).trans g1))
  · intro a h1 h2
    rw [uA_ne h2, uA_ne h1]
    exact f1 a h1 h2
  · intro p hp
    rw [uA_ne (by decide), uA_eq, itr_copy, if_pos (by omega)]
    exact mo.2.2 p hp
  · intro q hq
    rw [uA_eq]
    exact g2 q hq
end LOOK
