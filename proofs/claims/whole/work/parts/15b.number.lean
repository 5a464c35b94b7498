/-! The number by a law: class and model. -/
section NUB
variable {A V : Nat → Nat → Int32} {R : Nat → Nat → Option Nat} {B : Nat → Nat → Int64} {J : List En}
/-- the number by kind and figure: b built, q of them in the quarter, numbers N, on plot p with height x -/
def numS (k f b q : Nat) (N : Nat → Nat) (p x : Nat) : Nat := match k with
  | 0 => b + 1
  | 1 => gp N
  | 2 => q + 1
  | 3 => b + 1 + f * x
  | 4 => 2 * (b + 1)
  | 5 => skS (b + 1) f
  | 6 => if gp N < f then gp N else gN N 12 + 1
  | _ => if p % 2 = 0 then 2 * (q + 1) - 1 else 2 * (q + 1)
theorem rm2 : ∀ a, a < 12 → rmI (nN a) 2 = some (nN (a % 2)) := by decide +kernel
theorem n_two (a : Nat) : (2 : Int32) * nN a = nN (2 * a) := (Int32.ofNat_mul 2 a).symm
theorem n_add (a b : Nat) : nN a + nN b = nN (a + b) := (Int32.ofNat_add a b).symm
theorem n_mul (a b : Nat) : nN a * nN b = nN (a * b) := (Int32.ofNat_mul a b).symm
theorem n_pred {a : Nat} (h : 1 ≤ a) : nN a - 1 = nN (a - 1) := (Int32.ofNat_sub a 1 h).symm
theorem n_ne0 {a : Nat} (h : a ≠ 0) (h2 : a < 2147483648) : ¬ nN a = 0 := fun q => h (by rwa [nN_0 h2] at q)
theorem c_quarter {t p : Nat} (ht : isSt t) (hp : p < 12) : f_X8_builtInQuarterOf (mk A V R B J) t (nN p) = some (A (t + 4) (p / 4)) := by
  have q3 : p / 4 < 3 := by omega
  have iq : inB (nN (p / 4)) 3 = true := ib q3 (by decide)
  have cq' : (nN (p / 4)).toNatClampNeg = p / 4 := cn (by omega)
  have n0 : ¬ nN (p / 4) < 0 := fun q => by
    have h1 := Int32.lt_iff_toInt_lt.mp q
    rw [Int32.toInt_ofNat_of_lt (by omega)] at h1
    have : (0 : Int32).toInt = 0 := rfl
    omega
  have n3 : ¬ (3 : Int32) ≤ nN (p / 4) := fun q => by rw [ge3 q3] at q; exact q
  unfold f_X8_builtInQuarterOf
  rw [dv4 p hp, Option.bind_some, if_neg n0, if_neg n3, gs_3 ht, Option.bind_some, as_3 ht, iq, if_pos rfl, Option.bind_some, cq']
theorem c_number {t p x b : Nat} {k f : Nat} {N c : Nat → Nat} {r : Option Nat} (ht : isSt t) (hp : p < 12) (hr : LawAt J r k f) (h8 : V t 8 = nN b) (hb : b ≤ 30) (hc : A (t + 4) (p / 4) = nN (c (p / 4))) (hN : ∀ p, p < 12 → N p < 1000 ∧ A (t + 1) p = nN (N p)) : f_V_numberFor (mk A V R B J) r (some t) (nN p) (nN x) = some (nN (numS k f b (c (p / 4)) N p x)) := by
  obtain ⟨a, rfl, h1, -, h3⟩ := law_at (A := A) (V := V) (R := R) (B := B) hr
  have hk := hr.1
  have hf := hr.2.1
  have e3 : ∀ a', f_X3_numberFor (mk A V R B J) a' (some t) (nN p) (nN x) = some (nN (b + 1)) := fun a' => by
    unfold f_X3_numberFor
    rw [gs_8 ht, Option.bind_some, h8, n_s]
  have e0 : ∀ a', f_X0_numberFor (mk A V R B J) a' (some t) (nN p) (nN x) = some (nN (gp N)) := fun a' => by
    unfold f_X0_numberFor
    rw [rs ht, Option.bind_some, c_leastFree ht hN, Option.bind_some]
  have e4 : ∀ a', f_X4_numberFor (mk A V R B J) a' (some t) (nN p) (nN x) = some (nN (c (p / 4) + 1)) := fun a' => by
    unfold f_X4_numberFor
    rw [rs ht, Option.bind_some, c_quarter ht hp, Option.bind_some, hc, n_s]
  unfold f_V_numberFor
  rw [h1, Option.bind_some]
  match k, hk with
  | 0, _ => exact e3 a
  | 1, _ => exact e0 a
  | 2, _ => exact e4 a
  | 3, _ =>
    show f_X1_numberFor (mk A V R B J) a (some t) (nN p) (nN x) = some (nN (b + 1 + f * x))
    unfold f_X1_numberFor
    rw [h1, Option.bind_some, e3, Option.bind_some, h3, Option.bind_some, n_mul, n_add]
  | 4, _ =>
    show f_X9_numberFor (mk A V R B J) a (some t) (nN p) (nN x) = some (nN (2 * (b + 1)))
    unfold f_X9_numberFor
    rw [h1, Option.bind_some, e3, Option.bind_some, n_two]
  | 5, _ =>
    show f_X7_numberFor (mk A V R B J) a (some t) (nN p) (nN x) = some (nN (skS (b + 1) f))
    unfold f_X7_numberFor
    rw [h1, Option.bind_some, e3, Option.bind_some, h3, Option.bind_some]
    by_cases c2 : 2 ≤ f
    · rw [if_pos (by rw [show (2 : Int32) = nN 2 from rfl, n_le (by decide) (by omega)]; exact c2), Option.bind_some]
      exact c_skip_tab f (by omega) (b + 1) (by omega) c2 (by omega)
    · rw [if_neg (fun q => by rw [show (2 : Int32) = nN 2 from rfl, n_le (by decide) (by omega)] at q; omega)]
      unfold skS
      rw [if_pos (by omega)]
  | 6, _ =>
    show f_X2_numberFor (mk A V R B J) a (some t) (nN p) (nN x) = some (nN (if gp N < f then gp N else gN N 12 + 1))
    have hg := gp_le N
    unfold f_X2_numberFor
    rw [h1, Option.bind_some, e0, Option.bind_some, h3, Option.bind_some]
    by_cases c2 : gp N < f
    · rw [if_pos c2, if_neg (fun q => by rw [n_le (by omega) (by omega)] at q; omega)]
    · rw [if_neg c2, if_pos (by rw [n_le (by omega) (by omega)]; omega), rs ht, Option.bind_some, c_greatN ht hN, Option.bind_some, n_s]
  | 7, _ =>
    show f_X6_numberFor (mk A V R B J) a (some t) (nN p) (nN x) = some (nN (if p % 2 = 0 then 2 * (c (p / 4) + 1) - 1 else 2 * (c (p / 4) + 1)))
    unfold f_X6_numberFor
    rw [h1, Option.bind_some, e4, Option.bind_some, rm2 p hp, Option.bind_some, n_two]
    by_cases c2 : p % 2 = 0
    · rw [if_pos c2, if_pos (by rw [c2]; rfl), n_pred (by omega)]
    · rw [if_neg c2, if_neg (n_ne0 c2 (by omega))]
theorem m_number {k f p x : Nat} {N c : Nat → Nat} (hk : k ≤ 7) (hf : f ≤ 9) (hp : p < 12) (hN : ∀ p, p < 12 → N p < 1000 ∧ A 49 p = nN (N p)) (hc : ∀ q, q < 3 → A 50 q = nN (c q)) (hb : c 0 + c 1 + c 2 ≤ 30) : f_X11_numberBy (mk A V R B J) 45 (nN k) (nN f) (nN p) (nN x) = some (nN (numS k f (c 0 + c 1 + c 2) (c (p / 4)) N p x)) := by
  have q3 : p / 4 < 3 := by omega
  have i0 : inB (0 : Int32) 3 = true := rfl
  have i1 : inB (1 : Int32) 3 = true := rfl
  have i2 : inB (2 : Int32) 3 = true := rfl
  have t0 : (0 : Int32).toNatClampNeg = 0 := rfl
  have t1 : (1 : Int32).toNatClampNeg = 1 := rfl
  have t2 : (2 : Int32).toNatClampNeg = 2 := rfl
  have iq : inB (nN (p / 4)) 3 = true := ib q3 (by decide)
  have cq' : (nN (p / 4)).toNatClampNeg = p / 4 := cn (by omega)
  have hg := gp_le N
  unfold f_X11_numberBy
  rw [gm_8, Option.bind_some, am_50, i0, if_pos rfl, Option.bind_some, Option.bind_some, am_50, i1, if_pos rfl, Option.bind_some, Option.bind_some, am_50, i2, if_pos rfl, Option.bind_some, Option.bind_some, dv4 p hp, Option.bind_some, am_50, iq, if_pos rfl, Option.bind_some, t0, t1, t2, cq', hc 0 (by decide), hc 1 (by decide), hc 2 (by decide), hc _ q3, n_add, n_add, n_s, n_s]
  match k, hk with
  | 0, _ => rfl
  | 1, _ =>
    rw [if_neg (by decide), if_pos (by decide), rm, Option.bind_some, m_firstGap hN, Option.bind_some]
    rfl
  | 2, _ => rfl
  | 3, _ =>
    rw [if_neg (by decide), if_neg (by decide), if_neg (by decide), if_pos (by decide), n_mul, n_add]
    rfl
  | 4, _ =>
    rw [if_neg (by decide), if_neg (by decide), if_neg (by decide), if_neg (by decide), if_pos (by decide), n_two]
    rfl
  | 5, _ =>
    rw [if_neg (by decide), if_neg (by decide), if_neg (by decide), if_neg (by decide), if_neg (by decide), if_pos (by decide), m_skippedN (by omega) hf, Option.bind_some]
    rfl
  | 6, _ =>
    rw [if_neg (by decide), if_neg (by decide), if_neg (by decide), if_neg (by decide), if_neg (by decide), if_neg (by decide), if_pos (by decide), rm, Option.bind_some, m_firstGap hN, Option.bind_some]
    show _ = some (nN (if gp N < f then gp N else gN N 12 + 1))
    by_cases c2 : gp N < f
    · rw [if_pos c2, if_neg (fun q => by rw [n_le (by omega) (by omega)] at q; omega), Option.bind_some, m_firstGap hN, Option.bind_some]
    · rw [if_neg c2, if_pos (by rw [n_le (by omega) (by omega)]; omega), Option.bind_some, m_greatN hN, Option.bind_some, n_s]
  | 7, _ =>
    rw [if_neg (by decide), if_neg (by decide), if_neg (by decide), if_neg (by decide), if_neg (by decide), if_neg (by decide), if_neg (by decide), rm2 p hp, Option.bind_some, n_two]
    show _ = some (nN (if p % 2 = 0 then 2 * (c (p / 4) + 1) - 1 else 2 * (c (p / 4) + 1)))
    by_cases c2 : p % 2 = 0
    · rw [if_pos c2, if_pos (by rw [c2]; rfl), n_pred (by omega)]
    · rw [if_neg c2, if_neg (n_ne0 c2 (by omega))]
end NUB
