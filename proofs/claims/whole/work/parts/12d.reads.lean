/-! Reading of streets and of the model: loops over the plots. -/
section RD
variable {A : Nat → Nat → Int32} {V : Nat → Nat → Int32} {R : Nat → Nat → Option Nat} {B : Nat → Nat → Int64} {J : List En}
theorem ge_no {m i : Nat} (h : i < m) (hm : m ≤ 1000) : (Int32.ofNat m ≤ Int32.ofNat i) = False := by
  rw [n_le (by omega) (by omega)]
  exact eq_false (by omega)
theorem ge12 {i : Nat} (h : i < 12) : ((12 : Int32) ≤ Int32.ofNat i) = False := ge_no (m := 12) h (by decide)
theorem c12 {i : Nat} (h : i < 12) : (Int32.ofNat i).toNatClampNeg = i := cn (by omega)
theorem ib12 {i : Nat} (h : i < 12) : inB (Int32.ofNat i) 12 = true := ib h (by decide)
def bitsC (f : Nat → Int32) (x : Int32) : Nat → Int32 → Int32 := fun i b => if f i = 0 then b else if f i = x then b ||| ((1 : Int32) <<< (Int32.ofNat i &&& 31)) else b
theorem c_plotsWith {t : Nat} {x : Int32} (ht : isSt t) : f_X8_plotsWith (mk A V R B J) t x = some (itr (bitsC (A (t + 1)) x) 0 12 0) := by
  have h := (loop (fun n b i => f_X8_plotsWith_4 (mk A V R B J) t n x b i) (fun _ _ => True) (bitsC (A (t + 1)) x) 12 (fun n i b hi _ => by
    refine ⟨?_, trivial⟩
    simp only [f_X8_plotsWith_4, f_X8_plotsWith_35, gs_0 ht, as_0 ht, Option.bind_some, ib12 hi, c12 hi, ge12 hi, if_true, if_false, bitsC]
    repeat' first | rfl | split)) 12 0 9988 0 rfl trivial
  exact h.1
def bitsM (f : Nat → Int32) (x : Int32) : Nat → Int32 → Int32 := fun i b => b ||| (if f i = x then (1 : Int32) <<< (Int32.ofNat i &&& 31) else 0)
theorem m_have {x : Int32} : f_X11_have (mk A V R B J) 45 x = if (1 : Int32) ≤ x then some (itr (bitsM (A 48) x) 0 12 0, mk A (upV V 45 6 0) R B J) else some (-1, mk A (upV V 45 6 0) R B J) := by
  have h := (loop (fun n b i => f_X11_have_16 45 n (mk A (upV V 45 6 0) R B J) x b i) (fun _ _ => True) (bitsM (A 48) x) 12 (fun n i b hi _ => by
    refine ⟨?_, trivial⟩
    simp only [f_X11_have_16, f_X11_have_40, gm_5, am_48, Option.bind_some, ib12 hi, c12 hi, ge12 hi, if_true, if_false, bitsM]
    repeat' first | rfl | split)) 12 0 9988 0 rfl trivial
  have h1 := h.1
  unfold f_X11_have
  rw [pm_6, Option.bind_some]
  split
  · exact h1
  · rfl
end RD
