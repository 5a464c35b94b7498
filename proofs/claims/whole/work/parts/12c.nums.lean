/-! Whole numbers of the machine, loops. -/
theorem ib {i n : Nat} (h : i < n) (hn : n ≤ 5000) : inB (Int32.ofNat i) n = true := by
  have h1 : (0 : Int32) ≤ Int32.ofNat i := (Int32.ofNat_le_ofNat (k := 0) (by decide) (by omega)).mpr (Nat.zero_le _)
  have h2 : (Int32.ofNat i).toNatClampNeg = i := Int32.toNatClampNeg_ofNat_of_lt (by omega)
  simp [inB, h1, h2, h]
theorem cn {i : Nat} (h : i < 2147483648) : (Int32.ofNat i).toNatClampNeg = i := Int32.toNatClampNeg_ofNat_of_lt h
theorem n_le {a b : Nat} (ha : a < 2147483648) (hb : b < 2147483648) : (Int32.ofNat a ≤ Int32.ofNat b) = (a ≤ b) := propext (Int32.ofNat_le_ofNat ha hb)
theorem n_lt {a b : Nat} (ha : a < 2147483648) (hb : b < 2147483648) : (Int32.ofNat a < Int32.ofNat b) = (a < b) := propext (Int32.ofNat_lt_ofNat ha hb)
theorem n_eq {a b : Nat} (ha : a < 2147483648) (hb : b < 2147483648) : (Int32.ofNat a = Int32.ofNat b) = (a = b) := by
  refine propext ⟨fun h => ?_, fun h => by rw [h]⟩
  have := congrArg Int32.toNatClampNeg h
  rwa [cn ha, cn hb] at this
theorem n_s (i : Nat) : Int32.ofNat i + 1 = Int32.ofNat (i + 1) := (Int32.ofNat_add i 1).symm
/-- not below 0: a natural number -/
theorem nat_of {x : Int32} (h : 0 ≤ x) : ∃ i : Nat, x = Int32.ofNat i ∧ i < 2147483648 := by
  have h1 : 0 ≤ x.toInt := Int32.le_iff_toInt_le.mp h
  have h2 : x.toInt < 2147483648 := by have := Int32.toInt_lt x; omega
  refine ⟨x.toInt.toNat, ?_, by omega⟩
  apply Int32.toInt_inj.mp
  rw [Int32.toInt_ofNat_of_lt (by omega)]
  omega
theorem not_le' {a b : Int32} (h : ¬ a ≤ b) : b < a := Int32.lt_iff_toInt_lt.mpr (Int.not_le.mp (fun q => h (Int32.le_iff_toInt_le.mpr q)))
theorem not_lt' {a b : Int32} (h : ¬ a < b) : b ≤ a := Int32.le_iff_toInt_le.mpr (Int.not_lt.mp (fun q => h (Int32.lt_iff_toInt_lt.mpr q)))
/-- a step again and again, from i on, k times -/
def itr {S : Type} (f : Nat → S → S) : Nat → Nat → S → S
  | _, 0, s => s
  | i, k + 1, s => itr f (i + 1) k (f i s)
theorem loop {S T : Type} (F : Nat → S → Int32 → Option T) (P : Nat → S → Prop) (f : Nat → S → S) (N : Nat)
    (hs : ∀ n i s, i < N → P i s → F (n + 1) s (Int32.ofNat i) = F n (f i s) (Int32.ofNat i + 1) ∧ P (i + 1) (f i s)) :
    ∀ (k i n : Nat) (s : S), i + k = N → P i s → F (n + k) s (Int32.ofNat i) = F n (itr f i k s) (Int32.ofNat N) ∧ P N (itr f i k s) := by
  intro k
  induction k with
  | zero =>
    intro i n s h p
    have h : i = N := h
    subst h
    exact ⟨rfl, p⟩
  | succ k ih =>
    intro i n s h p
    obtain ⟨e1, e2⟩ := hs (n + k) i s (by omega) p
    rw [n_s] at e1
    obtain ⟨e3, e4⟩ := ih (i + 1) n (f i s) (by omega) e2
    exact ⟨e1.trans e3, e4⟩
theorem itr_rel {S T : Type} {f : Nat → S → S} {g : Nat → T → T} (Rl : Nat → S → T → Prop) (N : Nat) (h : ∀ i a b, i < N → Rl i a b → Rl (i + 1) (f i a) (g i b)) : ∀ (k i : Nat) (a : S) (b : T), i + k = N → Rl i a b → Rl N (itr f i k a) (itr g i k b) := by
  intro k
  induction k with
  | zero =>
    intro i a b e p
    have e : i = N := e
    subst e
    exact p
  | succ k ih =>
    intro i a b e p
    exact ih (i + 1) _ _ (by omega) (h i a b (by omega) p)
theorem itr_eq {S : Type} {f g : Nat → S → S} (N : Nat) (h : ∀ i s, i < N → f i s = g i s) : ∀ (k i : Nat) (s : S), i + k = N → itr f i k s = itr g i k s := by
  intro k
  induction k with
  | zero => intro i s _; rfl
  | succ k ih =>
    intro i s e
    show itr f (i + 1) k (f i s) = itr g (i + 1) k (g i s)
    rw [h i s (by omega)]
    exact ih (i + 1) _ (by omega)
