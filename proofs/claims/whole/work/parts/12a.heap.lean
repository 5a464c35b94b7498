/-! The heap of the class's object, the model's and the law's row, as functions of address and field. -/
def shA : Nat → Option Nat := (va_up (va_up (va_up (va_up (va_up (va_up (va_up (va_up (fun _ => none) 0 (some 29)) 1 (some 31)) 2 (some 33)) 3 (some 35)) 4 (some 37)) 5 (some 39)) 6 (some 41)) 7 (some 43))
theorem shA_at : ∀ i, i < 8 → shA i = some (29 + 2 * i) := by decide +kernel
def mk (A : Nat → Nat → Int32) (V : Nat → Nat → Int32) (R : Nat → Nat → Option Nat) (B : Nat → Nat → Int64) (J : List En) : Hp :=
  [eO 10 [vR (some 1), vR (some 10), vR (some 19), vI (V 0 3), vR (some 28)], eO 8 [vR (some 2), vR (some 3), vR (some 4), vR (some 5), vR (some 6), vR (some 7), vR (some 8), vI (V 1 7), vI (V 1 8), vR (R 1 9)], eI 12 (A 2), eI 12 (A 3), eI 12 (A 4), eI 3 (A 5), eI 30 (A 6), eI 30 (A 7), eI 12 (A 8), eO 3 [vI 0, vI 0], eO 8 [vR (some 11), vR (some 12), vR (some 13), vR (some 14), vR (some 15), vR (some 16), vR (some 17), vI (V 10 7), vI (V 10 8), vR (R 10 9)], eI 12 (A 11), eI 12 (A 12), eI 12 (A 13), eI 3 (A 14), eI 30 (A 15), eI 30 (A 16), eI 12 (A 17), eO 3 [vI 0, vI 0], eO 8 [vR (some 20), vR (some 21), vR (some 22), vR (some 23), vR (some 24), vR (some 25), vR (some 26), vI (V 19 7), vI (V 19 8), vR (R 19 9)], eI 12 (A 20), eI 12 (A 21), eI 12 (A 22), eI 3 (A 23), eI 30 (A 24), eI 30 (A 25), eI 12 (A 26), eO 3 [vI 0, vI 0], eR 8 shA, eO 5 [vR (R 29 0), vI (V 29 1), vI (V 29 2), vR (some 30)], eI 100 (A 30), eO 5 [vR (R 31 0), vI (V 31 1), vI (V 31 2), vR (some 32)], eI 100 (A 32), eO 5 [vR (R 33 0), vI (V 33 1), vI (V 33 2), vR (some 34)], eI 100 (A 34), eO 5 [vR (R 35 0), vI (V 35 1), vI (V 35 2), vR (some 36)], eI 100 (A 36), eO 5 [vR (R 37 0), vI (V 37 1), vI (V 37 2), vR (some 38)], eI 100 (A 38), eO 5 [vR (R 39 0), vI (V 39 1), vI (V 39 2), vR (some 40)], eI 100 (A 40), eO 5 [vR (R 41 0), vI (V 41 1), vI (V 41 2), vR (some 42)], eI 100 (A 42), eO 5 [vR (R 43 0), vI (V 43 1), vI (V 43 2), vR (some 44)], eI 100 (A 44), eO 11 [vI (V 45 0), vI (V 45 1), vI (V 45 2), vR (some 46), vR (some 47), vR (some 48), vI (V 45 6), vR (some 49), vR (some 50), vI (V 45 9), vI (V 45 10), vI (V 45 11), vI (V 45 12), vI (V 45 13), vR (some 51), vR (some 52), vR (some 53), vR (some 54), vR (some 55), vR (some 56), vI (V 45 20), vI (V 45 21), vI (V 45 22), vR (R 45 23), vR (some 57), vR (some 58), vR (some 59), vI (V 45 27), vR (some 60), vR (some 61), vR (some 62), vR (some 63), vR (some 64), vR (some 65), vR (some 66)], eI 30 (A 46), eI 30 (A 47), eI 12 (A 48), eI 12 (A 49), eI 3 (A 50), eI 51 (A 51), eI 51 (A 52), eI 51 (A 53), eI 51 (A 54), eI 75 (A 55), eI 75 (A 56), eI 12 (A 57), eI 12 (A 58), eI 7 (A 59), eI 8 (A 60), eI 8 (A 61), eI 8 (A 62), eI 8 (A 63), eI 8 (A 64), eL 800 (B 65), eL 100 (B 66), eL 1 (B 67)] ++ J
def upA (A : Nat → Nat → Int32) (a : Nat) (f : Nat → Int32) : Nat → Nat → Int32 := fun b => if b = a then f else A b
def upB (B : Nat → Nat → Int64) (a : Nat) (f : Nat → Int64) : Nat → Nat → Int64 := fun b => if b = a then f else B b
def upV (V : Nat → Nat → Int32) (a k : Nat) (x : Int32) : Nat → Nat → Int32 := fun b j => if b = a ∧ j = k then x else V b j
def upR (R : Nat → Nat → Option Nat) (a k : Nat) (x : Option Nat) : Nat → Nat → Option Nat := fun b j => if b = a ∧ j = k then x else R b j
def LA : Nat → Nat
  | 2 => 12
  | 3 => 12
  | 4 => 12
  | 5 => 3
  | 6 => 30
  | 7 => 30
  | 8 => 12
  | 11 => 12
  | 12 => 12
  | 13 => 12
  | 14 => 3
  | 15 => 30
  | 16 => 30
  | 17 => 12
  | 20 => 12
  | 21 => 12
  | 22 => 12
  | 23 => 3
  | 24 => 30
  | 25 => 30
  | 26 => 12
  | 30 => 100
  | 32 => 100
  | 34 => 100
  | 36 => 100
  | 38 => 100
  | 40 => 100
  | 42 => 100
  | 44 => 100
  | 46 => 30
  | 47 => 30
  | 48 => 12
  | 49 => 12
  | 50 => 3
  | 51 => 51
  | 52 => 51
  | 53 => 51
  | 54 => 51
  | 55 => 75
  | 56 => 75
  | 57 => 12
  | 58 => 12
  | 59 => 7
  | 60 => 8
  | 61 => 8
  | 62 => 8
  | 63 => 8
  | 64 => 8
  | _ => 0
def LB : Nat → Nat
  | 65 => 800
  | 66 => 100
  | 67 => 1
  | _ => 0
def isSt (t : Nat) : Prop := t = 1 ∨ (t = 10 ∨ t = 19)
def isSh (t : Nat) : Prop := t = 29 ∨ (t = 31 ∨ (t = 33 ∨ (t = 35 ∨ (t = 37 ∨ (t = 39 ∨ (t = 41 ∨ (t = 43)))))))
section BS
variable {A : Nat → Nat → Int32} {V : Nat → Nat → Int32} {R : Nat → Nat → Option Nat} {B : Nat → Nat → Int64} {J : List En}
theorem hA_mk : ∀ a : Nat, LA a ≠ 0 → hA (mk A V R B J) (some a) = some (a, LA a, A a) := by
  intro a h
  match a, h with
  | 0, h => exact absurd rfl h
  | 1, h => exact absurd rfl h
  | 2, h => exact rfl
  | 3, h => exact rfl
  | 4, h => exact rfl
  | 5, h => exact rfl
  | 6, h => exact rfl
  | 7, h => exact rfl
  | 8, h => exact rfl
  | 9, h => exact absurd rfl h
  | 10, h => exact absurd rfl h
  | 11, h => exact rfl
  | 12, h => exact rfl
  | 13, h => exact rfl
  | 14, h => exact rfl
  | 15, h => exact rfl
  | 16, h => exact rfl
  | 17, h => exact rfl
  | 18, h => exact absurd rfl h
  | 19, h => exact absurd rfl h
  | 20, h => exact rfl
  | 21, h => exact rfl
  | 22, h => exact rfl
  | 23, h => exact rfl
  | 24, h => exact rfl
  | 25, h => exact rfl
  | 26, h => exact rfl
  | 27, h => exact absurd rfl h
  | 28, h => exact absurd rfl h
  | 29, h => exact absurd rfl h
  | 30, h => exact rfl
  | 31, h => exact absurd rfl h
  | 32, h => exact rfl
  | 33, h => exact absurd rfl h
  | 34, h => exact rfl
  | 35, h => exact absurd rfl h
  | 36, h => exact rfl
  | 37, h => exact absurd rfl h
  | 38, h => exact rfl
  | 39, h => exact absurd rfl h
  | 40, h => exact rfl
  | 41, h => exact absurd rfl h
  | 42, h => exact rfl
  | 43, h => exact absurd rfl h
  | 44, h => exact rfl
  | 45, h => exact absurd rfl h
  | 46, h => exact rfl
  | 47, h => exact rfl
  | 48, h => exact rfl
  | 49, h => exact rfl
  | 50, h => exact rfl
  | 51, h => exact rfl
  | 52, h => exact rfl
  | 53, h => exact rfl
  | 54, h => exact rfl
  | 55, h => exact rfl
  | 56, h => exact rfl
  | 57, h => exact rfl
  | 58, h => exact rfl
  | 59, h => exact rfl
  | 60, h => exact rfl
  | 61, h => exact rfl
  | 62, h => exact rfl
  | 63, h => exact rfl
  | 64, h => exact rfl
  | 65, h => exact absurd rfl h
  | 66, h => exact absurd rfl h
  | 67, h => exact absurd rfl h
  | a + 68, h => exact absurd rfl h
theorem hB_mk : ∀ a : Nat, LB a ≠ 0 → hB (mk A V R B J) (some a) = some (a, LB a, B a) := by
  intro a h
  match a, h with
  | 0, h => exact absurd rfl h
  | 1, h => exact absurd rfl h
  | 2, h => exact absurd rfl h
  | 3, h => exact absurd rfl h
  | 4, h => exact absurd rfl h
  | 5, h => exact absurd rfl h
  | 6, h => exact absurd rfl h
  | 7, h => exact absurd rfl h
  | 8, h => exact absurd rfl h
  | 9, h => exact absurd rfl h
  | 10, h => exact absurd rfl h
  | 11, h => exact absurd rfl h
  | 12, h => exact absurd rfl h
  | 13, h => exact absurd rfl h
  | 14, h => exact absurd rfl h
  | 15, h => exact absurd rfl h
  | 16, h => exact absurd rfl h
  | 17, h => exact absurd rfl h
  | 18, h => exact absurd rfl h
  | 19, h => exact absurd rfl h
  | 20, h => exact absurd rfl h
  | 21, h => exact absurd rfl h
  | 22, h => exact absurd rfl h
  | 23, h => exact absurd rfl h
  | 24, h => exact absurd rfl h
  | 25, h => exact absurd rfl h
  | 26, h => exact absurd rfl h
  | 27, h => exact absurd rfl h
  | 28, h => exact absurd rfl h
  | 29, h => exact absurd rfl h
  | 30, h => exact absurd rfl h
  | 31, h => exact absurd rfl h
  | 32, h => exact absurd rfl h
  | 33, h => exact absurd rfl h
  | 34, h => exact absurd rfl h
  | 35, h => exact absurd rfl h
  | 36, h => exact absurd rfl h
  | 37, h => exact absurd rfl h
  | 38, h => exact absurd rfl h
  | 39, h => exact absurd rfl h
  | 40, h => exact absurd rfl h
  | 41, h => exact absurd rfl h
  | 42, h => exact absurd rfl h
  | 43, h => exact absurd rfl h
  | 44, h => exact absurd rfl h
  | 45, h => exact absurd rfl h
  | 46, h => exact absurd rfl h
  | 47, h => exact absurd rfl h
  | 48, h => exact absurd rfl h
  | 49, h => exact absurd rfl h
  | 50, h => exact absurd rfl h
  | 51, h => exact absurd rfl h
  | 52, h => exact absurd rfl h
  | 53, h => exact absurd rfl h
  | 54, h => exact absurd rfl h
  | 55, h => exact absurd rfl h
  | 56, h => exact absurd rfl h
  | 57, h => exact absurd rfl h
  | 58, h => exact absurd rfl h
  | 59, h => exact absurd rfl h
  | 60, h => exact absurd rfl h
  | 61, h => exact absurd rfl h
  | 62, h => exact absurd rfl h
  | 63, h => exact absurd rfl h
  | 64, h => exact absurd rfl h
  | 65, h => exact rfl
  | 66, h => exact rfl
  | 67, h => exact rfl
  | a + 68, h => exact absurd rfl h
theorem set_A {f : Nat → Int32} : ∀ a : Nat, LA a ≠ 0 → (mk A V R B J).set a (eI (LA a) f) = mk (upA A a f) V R B J := by
  intro a h
  match a, h with
  | 0, h => exact absurd rfl h
  | 1, h => exact absurd rfl h
  | 2, h => exact rfl
  | 3, h => exact rfl
  | 4, h => exact rfl
  | 5, h => exact rfl
  | 6, h => exact rfl
  | 7, h => exact rfl
  | 8, h => exact rfl
  | 9, h => exact absurd rfl h
  | 10, h => exact absurd rfl h
  | 11, h => exact rfl
  | 12, h => exact rfl
  | 13, h => exact rfl
  | 14, h => exact rfl
  | 15, h => exact rfl
  | 16, h => exact rfl
  | 17, h => exact rfl
  | 18, h => exact absurd rfl h
  | 19, h => exact absurd rfl h
  | 20, h => exact rfl
  | 21, h => exact rfl
  | 22, h => exact rfl
  | 23, h => exact rfl
  | 24, h => exact rfl
  | 25, h => exact rfl
  | 26, h => exact rfl
  | 27, h => exact absurd rfl h
  | 28, h => exact absurd rfl h
  | 29, h => exact absurd rfl h
  | 30, h => exact rfl
  | 31, h => exact absurd rfl h
  | 32, h => exact rfl
  | 33, h => exact absurd rfl h
  | 34, h => exact rfl
  | 35, h => exact absurd rfl h
  | 36, h => exact rfl
  | 37, h => exact absurd rfl h
  | 38, h => exact rfl
  | 39, h => exact absurd rfl h
  | 40, h => exact rfl
  | 41, h => exact absurd rfl h
  | 42, h => exact rfl
  | 43, h => exact absurd rfl h
  | 44, h => exact rfl
  | 45, h => exact absurd rfl h
  | 46, h => exact rfl
  | 47, h => exact rfl
  | 48, h => exact rfl
  | 49, h => exact rfl
  | 50, h => exact rfl
  | 51, h => exact rfl
  | 52, h => exact rfl
  | 53, h => exact rfl
  | 54, h => exact rfl
  | 55, h => exact rfl
  | 56, h => exact rfl
  | 57, h => exact rfl
  | 58, h => exact rfl
  | 59, h => exact rfl
  | 60, h => exact rfl
  | 61, h => exact rfl
  | 62, h => exact rfl
  | 63, h => exact rfl
  | 64, h => exact rfl
  | 65, h => exact absurd rfl h
  | 66, h => exact absurd rfl h
  | 67, h => exact absurd rfl h
  | a + 68, h => exact absurd rfl h
theorem set_B {f : Nat → Int64} : ∀ a : Nat, LB a ≠ 0 → (mk A V R B J).set a (eL (LB a) f) = mk A V R (upB B a f) J := by
  intro a h
  match a, h with
  | 0, h => exact absurd rfl h
  | 1, h => exact absurd rfl h
  | 2, h => exact absurd rfl h
  | 3, h => exact absurd rfl h
  | 4, h => exact absurd rfl h
  | 5, h => exact absurd rfl h
  | 6, h => exact absurd rfl h
  | 7, h => exact absurd rfl h
  | 8, h => exact absurd rfl h
  | 9, h => exact absurd rfl h
  | 10, h => exact absurd rfl h
  | 11, h => exact absurd rfl h
  | 12, h => exact absurd rfl h
  | 13, h => exact absurd rfl h
  | 14, h => exact absurd rfl h
  | 15, h => exact absurd rfl h
  | 16, h => exact absurd rfl h
  | 17, h => exact absurd rfl h
  | 18, h => exact absurd rfl h
  | 19, h => exact absurd rfl h
  | 20, h => exact absurd rfl h
  | 21, h => exact absurd rfl h
  | 22, h => exact absurd rfl h
  | 23, h => exact absurd rfl h
  | 24, h => exact absurd rfl h
  | 25, h => exact absurd rfl h
  | 26, h => exact absurd rfl h
  | 27, h => exact absurd rfl h
  | 28, h => exact absurd rfl h
  | 29, h => exact absurd rfl h
  | 30, h => exact absurd rfl h
  | 31, h => exact absurd rfl h
  | 32, h => exact absurd rfl h
  | 33, h => exact absurd rfl h
  | 34, h => exact absurd rfl h
  | 35, h => exact absurd rfl h
  | 36, h => exact absurd rfl h
  | 37, h => exact absurd rfl h
  | 38, h => exact absurd rfl h
  | 39, h => exact absurd rfl h
  | 40, h => exact absurd rfl h
  | 41, h => exact absurd rfl h
  | 42, h => exact absurd rfl h
  | 43, h => exact absurd rfl h
  | 44, h => exact absurd rfl h
  | 45, h => exact absurd rfl h
  | 46, h => exact absurd rfl h
  | 47, h => exact absurd rfl h
  | 48, h => exact absurd rfl h
  | 49, h => exact absurd rfl h
  | 50, h => exact absurd rfl h
  | 51, h => exact absurd rfl h
  | 52, h => exact absurd rfl h
  | 53, h => exact absurd rfl h
  | 54, h => exact absurd rfl h
  | 55, h => exact absurd rfl h
  | 56, h => exact absurd rfl h
  | 57, h => exact absurd rfl h
  | 58, h => exact absurd rfl h
  | 59, h => exact absurd rfl h
  | 60, h => exact absurd rfl h
  | 61, h => exact absurd rfl h
  | 62, h => exact absurd rfl h
  | 63, h => exact absurd rfl h
  | 64, h => exact absurd rfl h
  | 65, h => exact rfl
  | 66, h => exact rfl
  | 67, h => exact rfl
  | a + 68, h => exact absurd rfl h
theorem aI_mk {a n : Nat} {i : Int32} (h : LA a = n) (hn : n ≠ 0) : aI (mk A V R B J) (some a) i = if inB i n = true then some (A a i.toNatClampNeg) else none := by
  subst h
  unfold aI
  rw [hA_mk a hn]
theorem wI_mk {a n : Nat} {i x : Int32} (h : LA a = n) (hn : n ≠ 0) : wI (mk A V R B J) (some a) i x = if inB i n = true then some (mk (upA A a (upd (A a) i.toNatClampNeg x)) V R B J) else none := by
  subst h
  unfold wI
  rw [hA_mk a hn]
  simp only [set_A a hn]
theorem aL_mk {a n : Nat} {i : Int32} (h : LB a = n) (hn : n ≠ 0) : aL (mk A V R B J) (some a) i = if inB i n = true then some (B a i.toNatClampNeg) else none := by
  subst h
  unfold aL
  rw [hB_mk a hn]
theorem wL_mk {a n : Nat} {i : Int32} {x : Int64} (h : LB a = n) (hn : n ≠ 0) : wL (mk A V R B J) (some a) i x = if inB i n = true then some (mk A V R (upB B a (vp_updL (B a) i.toNatClampNeg x)) J) else none := by
  subst h
  unfold wL
  rw [hB_mk a hn]
  simp only [set_B a hn]
theorem lenI_mk {a n : Nat} (h : LA a = n) (hn : n ≠ 0) : lenI (mk A V R B J) (some a) = some (Int32.ofNat n) := by
  subst h
  unfold lenI
  rw [hA_mk a hn]
theorem gs_0 {t : Nat} (ht : isSt t) : gR (mk A V R B J) (some t) [8] 0 = some (some (t + 1)) := by rcases ht with rfl | rfl | rfl <;> rfl
theorem gs_1 {t : Nat} (ht : isSt t) : gR (mk A V R B J) (some t) [8] 1 = some (some (t + 2)) := by rcases ht with rfl | rfl | rfl <;> rfl
theorem gs_2 {t : Nat} (ht : isSt t) : gR (mk A V R B J) (some t) [8] 2 = some (some (t + 3)) := by rcases ht with rfl | rfl | rfl <;> rfl
theorem gs_3 {t : Nat} (ht : isSt t) : gR (mk A V R B J) (some t) [8] 3 = some (some (t + 4)) := by rcases ht with rfl | rfl | rfl <;> rfl
theorem gs_4 {t : Nat} (ht : isSt t) : gR (mk A V R B J) (some t) [8] 4 = some (some (t + 5)) := by rcases ht with rfl | rfl | rfl <;> rfl
theorem gs_5 {t : Nat} (ht : isSt t) : gR (mk A V R B J) (some t) [8] 5 = some (some (t + 6)) := by rcases ht with rfl | rfl | rfl <;> rfl
theorem gs_6 {t : Nat} (ht : isSt t) : gR (mk A V R B J) (some t) [8] 6 = some (some (t + 7)) := by rcases ht with rfl | rfl | rfl <;> rfl
theorem la_0 {t : Nat} (ht : isSt t) : LA (t + 1) = 12 := by rcases ht with rfl | rfl | rfl <;> rfl
theorem la_1 {t : Nat} (ht : isSt t) : LA (t + 2) = 12 := by rcases ht with rfl | rfl | rfl <;> rfl
theorem la_2 {t : Nat} (ht : isSt t) : LA (t + 3) = 12 := by rcases ht with rfl | rfl | rfl <;> rfl
theorem la_3 {t : Nat} (ht : isSt t) : LA (t + 4) = 3 := by rcases ht with rfl | rfl | rfl <;> rfl
theorem la_4 {t : Nat} (ht : isSt t) : LA (t + 5) = 30 := by rcases ht with rfl | rfl | rfl <;> rfl
theorem la_5 {t : Nat} (ht : isSt t) : LA (t + 6) = 30 := by rcases ht with rfl | rfl | rfl <;> rfl
theorem la_6 {t : Nat} (ht : isSt t) : LA (t + 7) = 12 := by rcases ht with rfl | rfl | rfl <;> rfl
theorem gs_7 {t : Nat} (ht : isSt t) : gI (mk A V R B J) (some t) [8] 7 = some (V t 7) := by rcases ht with rfl | rfl | rfl <;> rfl
theorem ps_7 {t : Nat} {x : Int32} (ht : isSt t) : pF (mk A V R B J) (some t) [8] 7 (vI x) = some (mk A (upV V t 7 x) R B J) := by rcases ht with rfl | rfl | rfl <;> rfl
theorem gs_8 {t : Nat} (ht : isSt t) : gI (mk A V R B J) (some t) [8] 8 = some (V t 8) := by rcases ht with rfl | rfl | rfl <;> rfl
theorem ps_8 {t : Nat} {x : Int32} (ht : isSt t) : pF (mk A V R B J) (some t) [8] 8 (vI x) = some (mk A (upV V t 8 x) R B J) := by rcases ht with rfl | rfl | rfl <;> rfl
theorem gs_9 {t : Nat} (ht : isSt t) : gR (mk A V R B J) (some t) [8] 9 = some (R t 9) := by rcases ht with rfl | rfl | rfl <;> rfl
theorem ps_9 {t : Nat} {x : Option Nat} (ht : isSt t) : pF (mk A V R B J) (some t) [8] 9 (vR x) = some (mk A V (upR R t 9 x) B J) := by rcases ht with rfl | rfl | rfl <;> rfl
theorem rs {t : Nat} (ht : isSt t) : rcv (mk A V R B J) (some t) 8 = some t := by rcases ht with rfl | rfl | rfl <;> rfl
theorem gh_0 {t : Nat} (ht : isSh t) : gR (mk A V R B J) (some t) [5] 0 = some (R t 0) := by rcases ht with rfl | rfl | rfl | rfl | rfl | rfl | rfl | rfl <;> rfl
theorem ph_0 {t : Nat} {x : Option Nat} (ht : isSh t) : pF (mk A V R B J) (some t) [5] 0 (vR x) = some (mk A V (upR R t 0 x) B J) := by rcases ht with rfl | rfl | rfl | rfl | rfl | rfl | rfl | rfl <;> rfl
theorem gh_1 {t : Nat} (ht : isSh t) : gI (mk A V R B J) (some t) [5] 1 = some (V t 1) := by rcases ht with rfl | rfl | rfl | rfl | rfl | rfl | rfl | rfl <;> rfl
theorem ph_1 {t : Nat} {x : Int32} (ht : isSh t) : pF (mk A V R B J) (some t) [5] 1 (vI x) = some (mk A (upV V t 1 x) R B J) := by rcases ht with rfl | rfl | rfl | rfl | rfl | rfl | rfl | rfl <;> rfl
theorem gh_2 {t : Nat} (ht : isSh t) : gI (mk A V R B J) (some t) [5] 2 = some (V t 2) := by rcases ht with rfl | rfl | rfl | rfl | rfl | rfl | rfl | rfl <;> rfl
theorem ph_2 {t : Nat} {x : Int32} (ht : isSh t) : pF (mk A V R B J) (some t) [5] 2 (vI x) = some (mk A (upV V t 2 x) R B J) := by rcases ht with rfl | rfl | rfl | rfl | rfl | rfl | rfl | rfl <;> rfl
theorem gh_3 {t : Nat} (ht : isSh t) : gR (mk A V R B J) (some t) [5] 3 = some (some (t + 1)) := by rcases ht with rfl | rfl | rfl | rfl | rfl | rfl | rfl | rfl <;> rfl
theorem lh {t : Nat} (ht : isSh t) : LA (t + 1) = 100 := by rcases ht with rfl | rfl | rfl | rfl | rfl | rfl | rfl | rfl <;> rfl
theorem rh {t : Nat} (ht : isSh t) : rcv (mk A V R B J) (some t) 5 = some t := by rcases ht with rfl | rfl | rfl | rfl | rfl | rfl | rfl | rfl <;> rfl
theorem go_0 : gR (mk A V R B J) (some 0) [10] 0 = some (some 1) := Eq.trans rfl rfl
theorem go_1 : gR (mk A V R B J) (some 0) [10] 1 = some (some 10) := Eq.trans rfl rfl
theorem go_2 : gR (mk A V R B J) (some 0) [10] 2 = some (some 19) := Eq.trans rfl rfl
theorem go_3 : gI (mk A V R B J) (some 0) [10] 3 = some (V 0 3) := Eq.trans rfl rfl
theorem po_3 {x : Int32} : pF (mk A V R B J) (some 0) [10] 3 (vI x) = some (mk A (upV V 0 3 x) R B J) := Eq.trans rfl rfl
theorem go_4 : gR (mk A V R B J) (some 0) [10] 4 = some (some 28) := Eq.trans rfl rfl
theorem ro : rcv (mk A V R B J) (some 0) 10 = some 0 := Eq.trans rfl rfl
theorem aR_mk {i : Int32} : aR (mk A V R B J) (some 28) i = if inB i 8 = true then some (shA i.toNatClampNeg) else none := Eq.trans rfl rfl
theorem lenR_mk : lenR (mk A V R B J) (some 28) = some (8 : Int32) := Eq.trans rfl rfl
theorem gm_0 : gI (mk A V R B J) (some 45) [11] 0 = some (V 45 0) := Eq.trans rfl rfl
theorem pm_0 {x : Int32} : pF (mk A V R B J) (some 45) [11] 0 (vI x) = some (mk A (upV V 45 0 x) R B J) := Eq.trans rfl rfl
theorem gm_1 : gI (mk A V R B J) (some 45) [11] 1 = some (V 45 1) := Eq.trans rfl rfl
theorem pm_1 {x : Int32} : pF (mk A V R B J) (some 45) [11] 1 (vI x) = some (mk A (upV V 45 1 x) R B J) := Eq.trans rfl rfl
theorem gm_2 : gI (mk A V R B J) (some 45) [11] 2 = some (V 45 2) := Eq.trans rfl rfl
theorem pm_2 {x : Int32} : pF (mk A V R B J) (some 45) [11] 2 (vI x) = some (mk A (upV V 45 2 x) R B J) := Eq.trans rfl rfl
theorem gm_3 : gR (mk A V R B J) (some 45) [11] 3 = some (some 46) := Eq.trans rfl rfl
theorem lm_3 : LA 46 = 30 := rfl
theorem gm_4 : gR (mk A V R B J) (some 45) [11] 4 = some (some 47) := Eq.trans rfl rfl
theorem lm_4 : LA 47 = 30 := rfl
theorem gm_5 : gR (mk A V R B J) (some 45) [11] 5 = some (some 48) := Eq.trans rfl rfl
theorem lm_5 : LA 48 = 12 := rfl
theorem gm_6 : gI (mk A V R B J) (some 45) [11] 6 = some (V 45 6) := Eq.trans rfl rfl
theorem pm_6 {x : Int32} : pF (mk A V R B J) (some 45) [11] 6 (vI x) = some (mk A (upV V 45 6 x) R B J) := Eq.trans rfl rfl
theorem gm_7 : gR (mk A V R B J) (some 45) [11] 7 = some (some 49) := Eq.trans rfl rfl
theorem lm_7 : LA 49 = 12 := rfl
theorem gm_8 : gR (mk A V R B J) (some 45) [11] 8 = some (some 50) := Eq.trans rfl rfl
theorem lm_8 : LA 50 = 3 := rfl
theorem gm_9 : gI (mk A V R B J) (some 45) [11] 9 = some (V 45 9) := Eq.trans rfl rfl
theorem pm_9 {x : Int32} : pF (mk A V R B J) (some 45) [11] 9 (vI x) = some (mk A (upV V 45 9 x) R B J) := Eq.trans rfl rfl
theorem gm_10 : gI (mk A V R B J) (some 45) [11] 10 = some (V 45 10) := Eq.trans rfl rfl
theorem pm_10 {x : Int32} : pF (mk A V R B J) (some 45) [11] 10 (vI x) = some (mk A (upV V 45 10 x) R B J) := Eq.trans rfl rfl
theorem gm_11 : gI (mk A V R B J) (some 45) [11] 11 = some (V 45 11) := Eq.trans rfl rfl
theorem pm_11 {x : Int32} : pF (mk A V R B J) (some 45) [11] 11 (vI x) = some (mk A (upV V 45 11 x) R B J) := Eq.trans rfl rfl
theorem gm_12 : gI (mk A V R B J) (some 45) [11] 12 = some (V 45 12) := Eq.trans rfl rfl
theorem pm_12 {x : Int32} : pF (mk A V R B J) (some 45) [11] 12 (vI x) = some (mk A (upV V 45 12 x) R B J) := Eq.trans rfl rfl
theorem gm_13 : gI (mk A V R B J) (some 45) [11] 13 = some (V 45 13) := Eq.trans rfl rfl
theorem pm_13 {x : Int32} : pF (mk A V R B J) (some 45) [11] 13 (vI x) = some (mk A (upV V 45 13 x) R B J) := Eq.trans rfl rfl
theorem gm_14 : gR (mk A V R B J) (some 45) [11] 14 = some (some 51) := Eq.trans rfl rfl
theorem lm_14 : LA 51 = 51 := rfl
theorem gm_15 : gR (mk A V R B J) (some 45) [11] 15 = some (some 52) := Eq.trans rfl rfl
theorem lm_15 : LA 52 = 51 := rfl
theorem gm_16 : gR (mk A V R B J) (some 45) [11] 16 = some (some 53) := Eq.trans rfl rfl
theorem lm_16 : LA 53 = 51 := rfl
theorem gm_17 : gR (mk A V R B J) (some 45) [11] 17 = some (some 54) := Eq.trans rfl rfl
theorem lm_17 : LA 54 = 51 := rfl
theorem gm_18 : gR (mk A V R B J) (some 45) [11] 18 = some (some 55) := Eq.trans rfl rfl
theorem lm_18 : LA 55 = 75 := rfl
theorem gm_19 : gR (mk A V R B J) (some 45) [11] 19 = some (some 56) := Eq.trans rfl rfl
theorem lm_19 : LA 56 = 75 := rfl
theorem gm_20 : gI (mk A V R B J) (some 45) [11] 20 = some (V 45 20) := Eq.trans rfl rfl
theorem pm_20 {x : Int32} : pF (mk A V R B J) (some 45) [11] 20 (vI x) = some (mk A (upV V 45 20 x) R B J) := Eq.trans rfl rfl
theorem gm_21 : gI (mk A V R B J) (some 45) [11] 21 = some (V 45 21) := Eq.trans rfl rfl
theorem pm_21 {x : Int32} : pF (mk A V R B J) (some 45) [11] 21 (vI x) = some (mk A (upV V 45 21 x) R B J) := Eq.trans rfl rfl
theorem gm_22 : gI (mk A V R B J) (some 45) [11] 22 = some (V 45 22) := Eq.trans rfl rfl
theorem pm_22 {x : Int32} : pF (mk A V R B J) (some 45) [11] 22 (vI x) = some (mk A (upV V 45 22 x) R B J) := Eq.trans rfl rfl
theorem gm_23 : gR (mk A V R B J) (some 45) [11] 23 = some (R 45 23) := Eq.trans rfl rfl
theorem pm_23 {x : Option Nat} : pF (mk A V R B J) (some 45) [11] 23 (vR x) = some (mk A V (upR R 45 23 x) B J) := Eq.trans rfl rfl
theorem gm_24 : gR (mk A V R B J) (some 45) [11] 24 = some (some 57) := Eq.trans rfl rfl
theorem lm_24 : LA 57 = 12 := rfl
theorem gm_25 : gR (mk A V R B J) (some 45) [11] 25 = some (some 58) := Eq.trans rfl rfl
theorem lm_25 : LA 58 = 12 := rfl
theorem gm_26 : gR (mk A V R B J) (some 45) [11] 26 = some (some 59) := Eq.trans rfl rfl
theorem lm_26 : LA 59 = 7 := rfl
theorem gm_27 : gI (mk A V R B J) (some 45) [11] 27 = some (V 45 27) := Eq.trans rfl rfl
theorem pm_27 {x : Int32} : pF (mk A V R B J) (some 45) [11] 27 (vI x) = some (mk A (upV V 45 27 x) R B J) := Eq.trans rfl rfl
theorem gm_28 : gR (mk A V R B J) (some 45) [11] 28 = some (some 60) := Eq.trans rfl rfl
theorem lm_28 : LA 60 = 8 := rfl
theorem gm_29 : gR (mk A V R B J) (some 45) [11] 29 = some (some 61) := Eq.trans rfl rfl
theorem lm_29 : LA 61 = 8 := rfl
theorem gm_30 : gR (mk A V R B J) (some 45) [11] 30 = some (some 62) := Eq.trans rfl rfl
theorem lm_30 : LA 62 = 8 := rfl
theorem gm_31 : gR (mk A V R B J) (some 45) [11] 31 = some (some 63) := Eq.trans rfl rfl
theorem lm_31 : LA 63 = 8 := rfl
theorem gm_32 : gR (mk A V R B J) (some 45) [11] 32 = some (some 64) := Eq.trans rfl rfl
theorem lm_32 : LA 64 = 8 := rfl
theorem gm_33 : gR (mk A V R B J) (some 45) [11] 33 = some (some 65) := Eq.trans rfl rfl
theorem lm_33 : LB 65 = 800 := rfl
theorem gm_34 : gR (mk A V R B J) (some 45) [11] 34 = some (some 66) := Eq.trans rfl rfl
theorem lm_34 : LB 66 = 100 := rfl
theorem am_46 {i : Int32} : aI (mk A V R B J) (some 46) i = if inB i 30 = true then some (A 46 i.toNatClampNeg) else none := aI_mk rfl (by decide)
theorem wm_46 {i x : Int32} : wI (mk A V R B J) (some 46) i x = if inB i 30 = true then some (mk (upA A 46 (upd (A 46) i.toNatClampNeg x)) V R B J) else none := wI_mk rfl (by decide)
theorem am_47 {i : Int32} : aI (mk A V R B J) (some 47) i = if inB i 30 = true then some (A 47 i.toNatClampNeg) else none := aI_mk rfl (by decide)
theorem wm_47 {i x : Int32} : wI (mk A V R B J) (some 47) i x = if inB i 30 = true then some (mk (upA A 47 (upd (A 47) i.toNatClampNeg x)) V R B J) else none := wI_mk rfl (by decide)
theorem am_48 {i : Int32} : aI (mk A V R B J) (some 48) i = if inB i 12 = true then some (A 48 i.toNatClampNeg) else none := aI_mk rfl (by decide)
theorem wm_48 {i x : Int32} : wI (mk A V R B J) (some 48) i x = if inB i 12 = true then some (mk (upA A 48 (upd (A 48) i.toNatClampNeg x)) V R B J) else none := wI_mk rfl (by decide)
theorem am_49 {i : Int32} : aI (mk A V R B J) (some 49) i = if inB i 12 = true then some (A 49 i.toNatClampNeg) else none := aI_mk rfl (by decide)
theorem wm_49 {i x : Int32} : wI (mk A V R B J) (some 49) i x = if inB i 12 = true then some (mk (upA A 49 (upd (A 49) i.toNatClampNeg x)) V R B J) else none := wI_mk rfl (by decide)
theorem am_50 {i : Int32} : aI (mk A V R B J) (some 50) i = if inB i 3 = true then some (A 50 i.toNatClampNeg) else none := aI_mk rfl (by decide)
theorem wm_50 {i x : Int32} : wI (mk A V R B J) (some 50) i x = if inB i 3 = true then some (mk (upA A 50 (upd (A 50) i.toNatClampNeg x)) V R B J) else none := wI_mk rfl (by decide)
theorem am_51 {i : Int32} : aI (mk A V R B J) (some 51) i = if inB i 51 = true then some (A 51 i.toNatClampNeg) else none := aI_mk rfl (by decide)
theorem wm_51 {i x : Int32} : wI (mk A V R B J) (some 51) i x = if inB i 51 = true then some (mk (upA A 51 (upd (A 51) i.toNatClampNeg x)) V R B J) else none := wI_mk rfl (by decide)
theorem am_52 {i : Int32} : aI (mk A V R B J) (some 52) i = if inB i 51 = true then some (A 52 i.toNatClampNeg) else none := aI_mk rfl (by decide)
theorem wm_52 {i x : Int32} : wI (mk A V R B J) (some 52) i x = if inB i 51 = true then some (mk (upA A 52 (upd (A 52) i.toNatClampNeg x)) V R B J) else none := wI_mk rfl (by decide)
theorem am_53 {i : Int32} : aI (mk A V R B J) (some 53) i = if inB i 51 = true then some (A 53 i.toNatClampNeg) else none := aI_mk rfl (by decide)
theorem wm_53 {i x : Int32} : wI (mk A V R B J) (some 53) i x = if inB i 51 = true then some (mk (upA A 53 (upd (A 53) i.toNatClampNeg x)) V R B J) else none := wI_mk rfl (by decide)
theorem am_54 {i : Int32} : aI (mk A V R B J) (some 54) i = if inB i 51 = true then some (A 54 i.toNatClampNeg) else none := aI_mk rfl (by decide)
theorem wm_54 {i x : Int32} : wI (mk A V R B J) (some 54) i x = if inB i 51 = true then some (mk (upA A 54 (upd (A 54) i.toNatClampNeg x)) V R B J) else none := wI_mk rfl (by decide)
theorem am_55 {i : Int32} : aI (mk A V R B J) (some 55) i = if inB i 75 = true then some (A 55 i.toNatClampNeg) else none := aI_mk rfl (by decide)
theorem wm_55 {i x : Int32} : wI (mk A V R B J) (some 55) i x = if inB i 75 = true then some (mk (upA A 55 (upd (A 55) i.toNatClampNeg x)) V R B J) else none := wI_mk rfl (by decide)
theorem am_56 {i : Int32} : aI (mk A V R B J) (some 56) i = if inB i 75 = true then some (A 56 i.toNatClampNeg) else none := aI_mk rfl (by decide)
theorem wm_56 {i x : Int32} : wI (mk A V R B J) (some 56) i x = if inB i 75 = true then some (mk (upA A 56 (upd (A 56) i.toNatClampNeg x)) V R B J) else none := wI_mk rfl (by decide)
theorem am_57 {i : Int32} : aI (mk A V R B J) (some 57) i = if inB i 12 = true then some (A 57 i.toNatClampNeg) else none := aI_mk rfl (by decide)
theorem wm_57 {i x : Int32} : wI (mk A V R B J) (some 57) i x = if inB i 12 = true then some (mk (upA A 57 (upd (A 57) i.toNatClampNeg x)) V R B J) else none := wI_mk rfl (by decide)
theorem am_58 {i : Int32} : aI (mk A V R B J) (some 58) i = if inB i 12 = true then some (A 58 i.toNatClampNeg) else none := aI_mk rfl (by decide)
theorem wm_58 {i x : Int32} : wI (mk A V R B J) (some 58) i x = if inB i 12 = true then some (mk (upA A 58 (upd (A 58) i.toNatClampNeg x)) V R B J) else none := wI_mk rfl (by decide)
theorem am_59 {i : Int32} : aI (mk A V R B J) (some 59) i = if inB i 7 = true then some (A 59 i.toNatClampNeg) else none := aI_mk rfl (by decide)
theorem wm_59 {i x : Int32} : wI (mk A V R B J) (some 59) i x = if inB i 7 = true then some (mk (upA A 59 (upd (A 59) i.toNatClampNeg x)) V R B J) else none := wI_mk rfl (by decide)
theorem am_60 {i : Int32} : aI (mk A V R B J) (some 60) i = if inB i 8 = true then some (A 60 i.toNatClampNeg) else none := aI_mk rfl (by decide)
theorem wm_60 {i x : Int32} : wI (mk A V R B J) (some 60) i x = if inB i 8 = true then some (mk (upA A 60 (upd (A 60) i.toNatClampNeg x)) V R B J) else none := wI_mk rfl (by decide)
theorem am_61 {i : Int32} : aI (mk A V R B J) (some 61) i = if inB i 8 = true then some (A 61 i.toNatClampNeg) else none := aI_mk rfl (by decide)
theorem wm_61 {i x : Int32} : wI (mk A V R B J) (some 61) i x = if inB i 8 = true then some (mk (upA A 61 (upd (A 61) i.toNatClampNeg x)) V R B J) else none := wI_mk rfl (by decide)
theorem am_62 {i : Int32} : aI (mk A V R B J) (some 62) i = if inB i 8 = true then some (A 62 i.toNatClampNeg) else none := aI_mk rfl (by decide)
theorem wm_62 {i x : Int32} : wI (mk A V R B J) (some 62) i x = if inB i 8 = true then some (mk (upA A 62 (upd (A 62) i.toNatClampNeg x)) V R B J) else none := wI_mk rfl (by decide)
theorem am_63 {i : Int32} : aI (mk A V R B J) (some 63) i = if inB i 8 = true then some (A 63 i.toNatClampNeg) else none := aI_mk rfl (by decide)
theorem wm_63 {i x : Int32} : wI (mk A V R B J) (some 63) i x = if inB i 8 = true then some (mk (upA A 63 (upd (A 63) i.toNatClampNeg x)) V R B J) else none := wI_mk rfl (by decide)
theorem am_64 {i : Int32} : aI (mk A V R B J) (some 64) i = if inB i 8 = true then some (A 64 i.toNatClampNeg) else none := aI_mk rfl (by decide)
theorem wm_64 {i x : Int32} : wI (mk A V R B J) (some 64) i x = if inB i 8 = true then some (mk (upA A 64 (upd (A 64) i.toNatClampNeg x)) V R B J) else none := wI_mk rfl (by decide)
theorem am_65 {i : Int32} : aL (mk A V R B J) (some 65) i = if inB i 800 = true then some (B 65 i.toNatClampNeg) else none := aL_mk rfl (by decide)
theorem wm_65 {i : Int32} {x : Int64} : wL (mk A V R B J) (some 65) i x = if inB i 800 = true then some (mk A V R (upB B 65 (vp_updL (B 65) i.toNatClampNeg x)) J) else none := wL_mk rfl (by decide)
theorem am_66 {i : Int32} : aL (mk A V R B J) (some 66) i = if inB i 100 = true then some (B 66 i.toNatClampNeg) else none := aL_mk rfl (by decide)
theorem wm_66 {i : Int32} {x : Int64} : wL (mk A V R B J) (some 66) i x = if inB i 100 = true then some (mk A V R (upB B 66 (vp_updL (B 66) i.toNatClampNeg x)) J) else none := wL_mk rfl (by decide)
theorem as_0 {t : Nat} {i : Int32} (ht : isSt t) : aI (mk A V R B J) (some (t + 1)) i = if inB i 12 = true then some (A (t + 1) i.toNatClampNeg) else none := aI_mk (la_0 ht) (by decide)
theorem ws_0 {t : Nat} {i x : Int32} (ht : isSt t) : wI (mk A V R B J) (some (t + 1)) i x = if inB i 12 = true then some (mk (upA A (t + 1) (upd (A (t + 1)) i.toNatClampNeg x)) V R B J) else none := wI_mk (la_0 ht) (by decide)
theorem as_1 {t : Nat} {i : Int32} (ht : isSt t) : aI (mk A V R B J) (some (t + 2)) i = if inB i 12 = true then some (A (t + 2) i.toNatClampNeg) else none := aI_mk (la_1 ht) (by decide)
theorem ws_1 {t : Nat} {i x : Int32} (ht : isSt t) : wI (mk A V R B J) (some (t + 2)) i x = if inB i 12 = true then some (mk (upA A (t + 2) (upd (A (t + 2)) i.toNatClampNeg x)) V R B J) else none := wI_mk (la_1 ht) (by decide)
theorem as_2 {t : Nat} {i : Int32} (ht : isSt t) : aI (mk A V R B J) (some (t + 3)) i = if inB i 12 = true then some (A (t + 3) i.toNatClampNeg) else none := aI_mk (la_2 ht) (by decide)
theorem ws_2 {t : Nat} {i x : Int32} (ht : isSt t) : wI (mk A V R B J) (some (t + 3)) i x = if inB i 12 = true then some (mk (upA A (t + 3) (upd (A (t + 3)) i.toNatClampNeg x)) V R B J) else none := wI_mk (la_2 ht) (by decide)
theorem as_3 {t : Nat} {i : Int32} (ht : isSt t) : aI (mk A V R B J) (some (t + 4)) i = if inB i 3 = true then some (A (t + 4) i.toNatClampNeg) else none := aI_mk (la_3 ht) (by decide)
theorem ws_3 {t : Nat} {i x : Int32} (ht : isSt t) : wI (mk A V R B J) (some (t + 4)) i x = if inB i 3 = true then some (mk (upA A (t + 4) (upd (A (t + 4)) i.toNatClampNeg x)) V R B J) else none := wI_mk (la_3 ht) (by decide)
theorem as_4 {t : Nat} {i : Int32} (ht : isSt t) : aI (mk A V R B J) (some (t + 5)) i = if inB i 30 = true then some (A (t + 5) i.toNatClampNeg) else none := aI_mk (la_4 ht) (by decide)
theorem ws_4 {t : Nat} {i x : Int32} (ht : isSt t) : wI (mk A V R B J) (some (t + 5)) i x = if inB i 30 = true then some (mk (upA A (t + 5) (upd (A (t + 5)) i.toNatClampNeg x)) V R B J) else none := wI_mk (la_4 ht) (by decide)
theorem as_5 {t : Nat} {i : Int32} (ht : isSt t) : aI (mk A V R B J) (some (t + 6)) i = if inB i 30 = true then some (A (t + 6) i.toNatClampNeg) else none := aI_mk (la_5 ht) (by decide)
theorem ws_5 {t : Nat} {i x : Int32} (ht : isSt t) : wI (mk A V R B J) (some (t + 6)) i x = if inB i 30 = true then some (mk (upA A (t + 6) (upd (A (t + 6)) i.toNatClampNeg x)) V R B J) else none := wI_mk (la_5 ht) (by decide)
theorem as_6 {t : Nat} {i : Int32} (ht : isSt t) : aI (mk A V R B J) (some (t + 7)) i = if inB i 12 = true then some (A (t + 7) i.toNatClampNeg) else none := aI_mk (la_6 ht) (by decide)
theorem ws_6 {t : Nat} {i x : Int32} (ht : isSt t) : wI (mk A V R B J) (some (t + 7)) i x = if inB i 12 = true then some (mk (upA A (t + 7) (upd (A (t + 7)) i.toNatClampNeg x)) V R B J) else none := wI_mk (la_6 ht) (by decide)
theorem ah {t : Nat} {i : Int32} (ht : isSh t) : aI (mk A V R B J) (some (t + 1)) i = if inB i 100 = true then some (A (t + 1) i.toNatClampNeg) else none := aI_mk (lh ht) (by decide)
theorem wh {t : Nat} {i x : Int32} (ht : isSh t) : wI (mk A V R B J) (some (t + 1)) i x = if inB i 100 = true then some (mk (upA A (t + 1) (upd (A (t + 1)) i.toNatClampNeg x)) V R B J) else none := wI_mk (lh ht) (by decide)
theorem rm : rcv (mk A V R B J) (some 45) 11 = some 45 := Eq.trans rfl rfl
theorem mk_push {e : En} : (mk A V R B J) ++ [e] = mk A V R B (J ++ [e]) := by simp [mk]
theorem mk_len : (mk A V R B J).length = 68 + J.length := by simp [mk]; omega
theorem mk_get {a : Nat} (h : 68 ≤ a) : (mk A V R B J)[a]? = J[a - 68]? := by
  unfold mk
  rw [List.getElem?_append_right (by simpa using h)]
  rfl
end BS
