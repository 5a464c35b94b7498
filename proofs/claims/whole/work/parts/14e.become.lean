/-! A street becomes another. -/
section BEC
variable {A V A' V' : Nat → Nat → Int32} {R R' : Nat → Nat → Option Nat} {B B' : Nat → Nat → Int64} {J : List En}
theorem cp_mk {a b n : Nat} {k : Int32} (ha : LA a = n) (hb : LA b = n) (hn : n ≠ 0) (h1 : n ≤ 1000) (hk : k = nN n) : cpI (mk A V R B J) (some a) 0 (some b) 0 k = some (mk (upA A b (va_cpy (A a) (A b) 0 0 n)) V R B J) := by
  subst hk
  have e0 : (0 : Int32).toNatClampNeg = 0 := rfl
  have en : (Int32.ofNat n).toNatClampNeg = n := cn (by omega)
  have n0 : ¬ ((0 : Int32) < 0) := by decide
  have nn : ¬ (Int32.ofNat n < 0) := fun q => by
    have h := Int32.lt_iff_toInt_lt.mp q
    rw [Int32.toInt_ofNat_of_lt (by omega)] at h
    have : (0 : Int32).toInt = 0 := rfl
    omega
  unfold cpI
  rw [hA_mk a (by omega), hA_mk b (by omega)]
  dsimp only
  rw [ha, hb, e0, en, if_pos ⟨n0, n0, nn, by omega, by omega⟩]
  have hs := set_A (A := A) (V := V) (R := R) (B := B) (J := J) (f := va_cpy (A a) (A b) 0 0 n) b (by omega)
  rw [hb] at hs
  rw [hs]
def bcA (A : Nat → Nat → Int32) (t o : Nat) : Nat → Nat → Int32 := upA (upA (upA (upA (upA (upA A (t + 1) (va_cpy (A (o + 1)) (A (t + 1)) 0 0 12)) (t + 2) (va_cpy (A (o + 2)) (A (t + 2)) 0 0 12)) (t + 3) (va_cpy (A (o + 3)) (A (t + 3)) 0 0 12)) (t + 4) (va_cpy (A (o + 4)) (A (t + 4)) 0 0 3)) (t + 5) (va_cpy (A (o + 5)) (A (t + 5)) 0 0 30)) (t + 6) (va_cpy (A (o + 6)) (A (t + 6)) 0 0 30)
theorem c_become {t o : Nat} (ht : isSt t) (ho : isSt o) (hne : t ≠ o) : f_X8_become (mk A V R B J) t (some o) = some (mk (bcA A t o) (upV (upV V t 7 (V o 7)) t 8 (V o 8)) (upR R t 9 (R o 9)) B J) := by
  have hd : t + 10 ≤ o + 1 ∨ o + 10 ≤ t + 1 := by
    unfold isSt at ht ho
    omega
  unfold f_X8_become
  rw [gs_0 ho, Option.bind_some, gs_0 ht, Option.bind_some, cp_mk (la_0 ho) (la_0 ht) (by decide) (by decide) (show (12 : Int32) = nN 12 from rfl), Option.bind_some, gs_1 ho, Option.bind_some, gs_1 ht, Option.bind_some, cp_mk (la_1 ho) (la_1 ht) (by decide) (by decide) (show (12 : Int32) = nN 12 from rfl), Option.bind_some, gs_2 ho, Option.bind_some, gs_2 ht, Option.bind_some, cp_mk (la_2 ho) (la_2 ht) (by decide) (by decide) (show (12 : Int32) = nN 12 from rfl), Option.bind_some, gs_3 ho, Option.bind_some, gs_3 ht, Option.bind_some, cp_mk (la_3 ho) (la_3 ht) (by decide) (by decide) (show (3 : Int32) = nN 3 from rfl), Option.bind_some, gs_4 ho, Option.bind_some, gs_4 ht, Option.bind_some, cp_mk (la_4 ho) (la_4 ht) (by decide) (by decide) (show (30 : Int32) = nN 30 from rfl), Option.bind_some, gs_5 ho, Option.bind_some, gs_5 ht, Option.bind_some, cp_mk (la_5 ho) (la_5 ht) (by decide) (by decide) (show (30 : Int32) = nN 30 from rfl), Option.bind_some, gs_7 ho, Option.bind_some, ps_7 ht, Option.bind_some, gs_8 ho, Option.bind_some, ps_8 ht, Option.bind_some, gs_9 ho, Option.bind_some, ps_9 ht, Option.bind_some, uV_ne (by omega)]
  have e : ∀ (X : Nat → Nat → Int32) (f : Nat → Int32) (a b : Nat), b ≠ a → upA X a f b = X b := fun X f a b h => uA_ne h
  unfold bcA
  simp only [e _ _ (t + 1) (o + 2) (by omega), e _ _ (t + 1) (t + 2) (by omega), e _ _ (t + 2) (o + 3) (by omega), e _ _ (t + 1) (o + 3) (by omega), e _ _ (t + 2) (t + 3) (by omega), e _ _ (t + 1) (t + 3) (by omega), e _ _ (t + 3) (o + 4) (by omega), e _ _ (t + 2) (o + 4) (by omega), e _ _ (t + 1) (o + 4) (by omega), e _ _ (t + 3) (t + 4) (by omega), e _ _ (t + 2) (t + 4) (by omega), e _ _ (t + 1) (t + 4) (by omega), e _ _ (t + 4) (o + 5) (by omega), e _ _ (t + 3) (o + 5) (by omega), e _ _ (t + 2) (o + 5) (by omega), e _ _ (t + 1) (o + 5) (by omega), e _ _ (t + 4) (t + 5) (by omega), e _ _ (t + 3) (t + 5) (by omega), e _ _ (t + 2) (t + 5) (by omega), e _ _ (t + 1) (t + 5) (by omega), e _ _ (t + 5) (o + 6) (by omega), e _ _ (t + 4) (o + 6) (by omega), e _ _ (t + 3) (o + 6) (by omega), e _ _ (t + 2) (o + 6) (by omega), e _ _ (t + 1) (o + 6) (by omega), e _ _ (t + 5) (t + 6) (by omega), e _ _ (t + 4) (t + 6) (by omega), e _ _ (t + 3) (t + 6) (by omega), e _ _ (t + 2) (t + 6) (by omega), e _ _ (t + 1) (t + 6) (by omega)]
theorem cpy_at {f g : Nat → Int32} {n i : Nat} (h : i < n) : va_cpy f g 0 0 n i = f i := by
  unfold va_cpy
  rw [if_pos (by omega)]
  congr 1
  omega
theorem bcA_ne {t o a : Nat} (h : ¬ (t + 1 ≤ a ∧ a ≤ t + 6)) : bcA A t o a = A a := by
  unfold bcA
  rw [uA_ne (by omega), uA_ne (by omega), uA_ne (by omega), uA_ne (by omega), uA_ne (by omega), uA_ne (by omega)]
/-- the street that has become another is what the other is -/
theorem StRep.bec {t o : Nat} {T : Tn} (hE : tE T ≤ 30) (s : StRep A V R J o T) : StRep (bcA A t o) (upV (upV V t 7 (V o 7)) t 8 (V o 8)) (upR R t 9 (R o 9)) J t T := by
  obtain ⟨⟨a1, a2⟩, b, c, d, e, f⟩ := s
  have r1 : ∀ p, p < 12 → bcA A t o (t + 1) p = A (o + 1) p := fun p hp => by
    unfold bcA
    rw [uA_ne (by omega), uA_ne (by omega), uA_ne (by omega), uA_ne (by omega), uA_ne (by omega), uA_eq, cpy_at hp]
  have r2 : ∀ p, p < 12 → bcA A t o (t + 2) p = A (o + 2) p := fun p hp => by
    unfold bcA
    rw [uA_ne (by omega), uA_ne (by omega), uA_ne (by omega), uA_ne (by omega), uA_eq, cpy_at hp]
  have r3 : ∀ p, p < 12 → bcA A t o (t + 3) p = A (o + 3) p := fun p hp => by
    unfold bcA
    rw [uA_ne (by omega), uA_ne (by omega), uA_ne (by omega), uA_eq, cpy_at hp]
  have r4 : ∀ p, p < 3 → bcA A t o (t + 4) p = A (o + 4) p := fun p hp => by
    unfold bcA
    rw [uA_ne (by omega), uA_ne (by omega), uA_eq, cpy_at hp]
  have r5 : ∀ p, p < 30 → bcA A t o (t + 5) p = A (o + 5) p := fun p hp => by
    unfold bcA
    rw [uA_ne (by omega), uA_eq, cpy_at hp]
  have r6 : ∀ p, p < 30 → bcA A t o (t + 6) p = A (o + 6) p := fun p hp => by
    unfold bcA
    rw [uA_eq, cpy_at hp]
  refine ⟨⟨?_, ?_⟩, fun q hq => (r4 q hq).trans (b q hq), fun x hx => ⟨(r5 x (by omega)).trans (c x hx).1, (r6 x (by omega)).trans (c x hx).2⟩, fun p hp => (r1 p hp).trans (d p hp), fun p hp hz => ⟨(r2 p hp).trans (e p hp hz).1, (r3 p hp).trans (e p hp hz).2⟩, ?_⟩
  · rw [uV_ne (by omega), uV_eq]
    exact a1
  · rw [uV_eq]
    exact a2
  · rw [uR_eq]
    exact f
end BEC
