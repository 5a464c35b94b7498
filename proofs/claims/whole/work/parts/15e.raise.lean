/-! Building and burning down: a street's object. -/
section RAI
variable {A V : Nat → Nat → Int32} {R : Nat → Nat → Option Nat} {B : Nat → Nat → Int64} {J : List En}
theorem n_lt0 (a : Nat) (h : a < 2147483648) : ¬ nN a < 0 := fun q => by
  have h1 := Int32.lt_iff_toInt_lt.mp q
  rw [Int32.toInt_ofNat_of_lt (by omega)] at h1
  have : (0 : Int32).toInt = 0 := rfl
  omega
theorem ib30 {i : Nat} (h : i < 30) : inB (nN i) 30 = true := ib h (by decide)
theorem ib3 {i : Nat} (h : i < 3) : inB (nN i) 3 = true := ib h (by decide)
theorem c30 {i : Nat} (h : i < 30) : (nN i).toNatClampNeg = i := cn (by omega)
theorem ge30 {i : Nat} (h : i < 30) : ¬ (30 : Int32) ≤ nN i := fun q => by
  rw [show (30 : Int32) = nN 30 from rfl, n_le (by decide) (by omega)] at q
  omega
theorem lt30 {i : Nat} (h : i < 30) : nN i < (30 : Int32) := by
  rw [show (30 : Int32) = nN 30 from rfl, n_lt (by omega) (by decide)]
  exact h
theorem c_addEvent {t E : Nat} {x y : Int32} (ht : isSt t) (h7 : V t 7 = nN E) (hE : E < 30) : f_X8_addEvent (mk A V R B J) t x y = some (mk (upA (upA A (t + 5) (upd (A (t + 5)) E x)) (t + 6) (upd (A (t + 6)) E y)) (upV V t 7 (nN (E + 1))) R B J) := by
  unfold f_X8_addEvent
  rw [gs_7 ht, Option.bind_some, h7, if_neg (n_lt0 E (by omega)), Option.bind_some, if_neg (ge30 hE), gs_4 ht, Option.bind_some, Option.bind_some, ws_4 ht, ib30 hE, if_pos rfl, Option.bind_some, c30 hE, gs_5 ht, Option.bind_some, gs_7 ht, Option.bind_some, h7, ws_5 ht, ib30 hE, if_pos rfl, Option.bind_some, c30 hE, gs_7 ht, Option.bind_some, h7, ps_7 ht, Option.bind_some, n_s, uA_ne (show t + 6 ≠ t + 5 by omega)]
/-- what raising leaves: rows -/
def rsA (A : Nat → Nat → Int32) (t p E : Nat) (n x e : Int32) : Nat → Nat → Int32 :=
  upA (upA (upA (upA (upA (upA A (t + 1) (upd (A (t + 1)) p n)) (t + 2) (upd (A (t + 2)) p x)) (t + 3) (upd (A (t + 3)) p e)) (t + 4) (upd (A (t + 4)) (p / 4) (A (t + 4) (p / 4) + 1))) (t + 5) (upd (A (t + 5)) E (nN p))) (t + 6) (upd (A (t + 6)) E x)
theorem rsA_1 {t p E : Nat} {n x e : Int32} : rsA A t p E n x e (t + 1) = upd (A (t + 1)) p n := by
  unfold rsA
  rw [uA_ne (by omega), uA_ne (by omega), uA_ne (by omega), uA_ne (by omega), uA_ne (by omega), uA_eq]
theorem rsA_2 {t p E : Nat} {n x e : Int32} : rsA A t p E n x e (t + 2) = upd (A (t + 2)) p x := by
  unfold rsA
  rw [uA_ne (by omega), uA_ne (by omega), uA_ne (by omega), uA_ne (by omega), uA_eq]
theorem rsA_3 {t p E : Nat} {n x e : Int32} : rsA A t p E n x e (t + 3) = upd (A (t + 3)) p e := by
  unfold rsA
  rw [uA_ne (by omega), uA_ne (by omega), uA_ne (by omega), uA_eq]
theorem rsA_4 {t p E : Nat} {n x e : Int32} : rsA A t p E n x e (t + 4) = upd (A (t + 4)) (p / 4) (A (t + 4) (p / 4) + 1) := by
  unfold rsA
  rw [uA_ne (by omega), uA_ne (by omega), uA_eq]
theorem rsA_5 {t p E : Nat} {n x e : Int32} : rsA A t p E n x e (t + 5) = upd (A (t + 5)) E (nN p) := by
  unfold rsA
  rw [uA_ne (by omega), uA_eq]
theorem rsA_6 {t p E : Nat} {n x e : Int32} : rsA A t p E n x e (t + 6) = upd (A (t + 6)) E x := by
  unfold rsA
  rw [uA_eq]
theorem rsA_ne {t p E a : Nat} {n x e : Int32} (h : ¬ (t + 1 ≤ a ∧ a ≤ t + 6)) : rsA A t p E n x e a = A a := by
  unfold rsA
  rw [uA_ne (by omega), uA_ne (by omega), uA_ne (by omega), uA_ne (by omega), uA_ne (by omega), uA_ne (by omega)]
def rsV (V : Nat → Nat → Int32) (t E b : Nat) : Nat → Nat → Int32 := upV (upV V t 8 (nN (b + 1))) t 7 (nN (E + 1))
/-- a house is raised -/
theorem c_raise {t p x : Nat} {T : Tn} (ht : isSt t) (w : Wf T) (st : StRep A V R J t T) (hp : p < 12) (h1 : 1 ≤ x) (h9 : x ≤ 9) (h0 : tN T p = 0) (hE : tE T < 30) :
    f_X8_raise (mk A V R B J) t (nN p) (nN x) = some (nN (numT T p x), mk (rsA A t p (tE T) (nN (numT T p x)) (nN x) (nN (tE T))) (rsV V t (tE T) (bui (tP T) (tH T) (tE T))) R B J) := by
  have hx : ∀ h, f_X10_isHeight h (nN x) = some 1 := by
    rcases c_high (nN x) with ⟨n, -, -, -, k1, -⟩ | ⟨k1, k2⟩
    · exact k1
    · have := m_in (h := ([] : Hp)) (x := nN x) (a := 1) (b := 9)
      rw [if_pos ⟨(Int32.ofNat_le_ofNat (n := x) (k := 1) (by decide) (by omega)).mpr h1, (Int32.ofNat_le_ofNat (n := 9) (k := x) (by omega) (by decide)).mpr h9⟩] at this
      have e := (k2 []).symm.trans this
      exact absurd (Option.some.inj e) (by decide)
  have hpl := (plot_p hp).1
  have q3 : p / 4 < 3 := by omega
  have cq' : (nN (p / 4)).toNatClampNeg = p / 4 := cn (by omega)
  have a1 := st.2.2.2.1 p hp
  rw [h0] at a1
  unfold f_X8_raise
  rw [hpl, Option.bind_some, if_neg (by decide), hx, Option.bind_some, if_neg (by decide), rs ht, Option.bind_some, c_hasHouse ht hp hpl, Option.bind_some, a1, if_pos (show nN 0 = 0 from rfl), if_pos rfl, gs_7 ht, Option.bind_some, st.1.1, if_pos (lt30 hE), gs_9 ht, Option.bind_some, c_numT ht hp w st, Option.bind_some, gs_0 ht, Option.bind_some, ws_0 ht, ib12 hp, if_pos rfl, Option.bind_some, c12 hp,
    gs_1 ht, Option.bind_some, ws_1 ht, ib12 hp, if_pos rfl, Option.bind_some, c12 hp, gs_2 ht, Option.bind_some, gs_7 ht, Option.bind_some, st.1.1, ws_2 ht, ib12 hp, if_pos rfl, Option.bind_some, c12 hp, gs_3 ht, Option.bind_some, dv4 p hp, Option.bind_some, as_3 ht, ib3 q3, if_pos rfl, Option.bind_some, cq', ws_3 ht, ib3 q3, if_pos rfl, Option.bind_some, cq', gs_8 ht, Option.bind_some, st.1.2, ps_8 ht, Option.bind_some, n_s, rs ht, Option.bind_some, c_addEvent ht (E := tE T) ((uV_ne (by omega)).trans st.1.1) hE, Option.bind_some]
  unfold rsA rsV
  rw [uA_ne (show t + 2 ≠ t + 1 by omega), uA_ne (show t + 3 ≠ t + 2 by omega), uA_ne (show t + 3 ≠ t + 1 by omega), uA_ne (show t + 4 ≠ t + 3 by omega), uA_ne (show t + 4 ≠ t + 2 by omega), uA_ne (show t + 4 ≠ t + 1 by omega), uA_ne (show t + 5 ≠ t + 4 by omega), uA_ne (show t + 5 ≠ t + 3 by omega), uA_ne (show t + 5 ≠ t + 2 by omega), uA_ne (show t + 5 ≠ t + 1 by omega), uA_ne (show t + 6 ≠ t + 4 by omega), uA_ne (show t + 6 ≠ t + 3 by omega), uA_ne (show t + 6 ≠ t + 2 by omega), uA_ne (show t + 6 ≠ t + 1 by omega)]
theorem StRep.rs {t p x : Nat} {T : Tn} (w : Wf T) (st : StRep A V R J t T) (hp : p < 12) (h1 : 1 ≤ x) (h9 : x ≤ 9) (h0 : tN T p = 0) (hE : tE T < 30) :
    StRep (rsA A t p (tE T) (nN (numT T p x)) (nN x) (nN (tE T))) (rsV V t (tE T) (bui (tP T) (tH T) (tE T))) R J t (rsT T p x) := by
  refine st.ev w hp uV_eq ?_ (fun q hq => ?_) (fun q hq hn => ?_) (fun _ => ?_) (fun q hq => ?_) (fun e he => ?_) ?_
  · rw [if_pos (by omega)]
    exact (uV_ne (by omega)).trans uV_eq
  · rw [rsA_1]
    unfold upd
    rfl
  · rw [rsA_2, rsA_3, upd_ne hn, upd_ne hn]
    exact ⟨rfl, rfl⟩
  · rw [rsA_2, rsA_3, upd_eq, upd_eq]
    exact ⟨rfl, rfl⟩
  · rw [rsA_4]
    by_cases c : q = p / 4
    · subst c
      rw [upd_eq, if_pos ⟨by omega, rfl⟩, st.2.1 _ hq, n_s]
    · rw [upd_ne c, if_neg (fun z => c z.2.symm)]
      exact st.2.1 q hq
  · rw [rsA_5, rsA_6, upd_ne (by omega), upd_ne (by omega)]
    exact ⟨rfl, rfl⟩
  · rw [rsA_5, rsA_6, upd_eq, upd_eq]
    exact ⟨rfl, rfl⟩
def rzA (A : Nat → Nat → Int32) (t p E : Nat) : Nat → Nat → Int32 := upA (upA (upA A (t + 1) (upd (A (t + 1)) p 0)) (t + 5) (upd (A (t + 5)) E (nN p))) (t + 6) (upd (A (t + 6)) E 0)
theorem rzA_ne {t p E a : Nat} (h1 : a ≠ t + 1) (h5 : a ≠ t + 5) (h6 : a ≠ t + 6) : rzA A t p E a = A a := by
  unfold rzA
  rw [uA_ne h6, uA_ne h5, uA_ne h1]
theorem rzA_1 {t p E : Nat} : rzA A t p E (t + 1) = upd (A (t + 1)) p 0 := by
  unfold rzA
  rw [uA_ne (by omega), uA_ne (by omega), uA_eq]
theorem rzA_5 {t p E : Nat} : rzA A t p E (t + 5) = upd (A (t + 5)) E (nN p) := by
  unfold rzA
  rw [uA_ne (by omega), uA_eq]
theorem rzA_6 {t p E : Nat} : rzA A t p E (t + 6) = upd (A (t + 6)) E 0 := by
  unfold rzA
  rw [uA_eq]
/-- a house is razed -/
theorem c_raze {t p : Nat} {T : Tn} (ht : isSt t) (w : Wf T) (st : StRep A V R J t T) (hp : p < 12) (h0 : tN T p ≠ 0) (hE : tE T < 30) :
    f_X8_raze (mk A V R B J) t (nN p) = some (nN (tN T p), mk (rzA A t p (tE T)) (upV V t 7 (nN (tE T + 1))) R B J) := by
  have hpl := (plot_p hp).1
  have a1 := st.2.2.2.1 p hp
  have z := n_ne0 h0 (by have := w.num p hp; omega)
  unfold f_X8_raze
  rw [hpl, Option.bind_some, if_neg (by decide), rs ht, Option.bind_some, c_hasHouse ht hp hpl, Option.bind_some, a1, if_neg z, if_neg (by decide), gs_7 ht, Option.bind_some, st.1.1, if_pos (lt30 hE), gs_0 ht, Option.bind_some, as_0 ht, ib12 hp, if_pos rfl, Option.bind_some, c12 hp, Option.bind_some, ws_0 ht, ib12 hp, if_pos rfl, Option.bind_some, c12 hp, rs ht, Option.bind_some, c_addEvent ht (E := tE T) st.1.1 hE, Option.bind_some, a1]
  unfold rzA
  rw [uA_ne (show t + 5 ≠ t + 1 by omega), uA_ne (show t + 6 ≠ t + 1 by omega)]
theorem StRep.rz {t p : Nat} {T : Tn} (w : Wf T) (st : StRep A V R J t T) (hp : p < 12) (hE : tE T < 30) :
    StRep (rzA A t p (tE T)) (upV V t 7 (nN (tE T + 1))) R J t (rzT T p) := by
  refine st.ev w hp uV_eq ?_ (fun q hq => ?_) (fun q hq hn => ?_) (fun z => absurd rfl z) (fun q hq => ?_) (fun e he => ?_) ?_
  · rw [if_neg (by omega)]
    exact (uV_ne (by omega)).trans st.1.2
  · rw [rzA_1]
    unfold upd
    rfl
  · rw [rzA_ne (by omega) (by omega) (by omega), rzA_ne (by omega) (by omega) (by omega)]
    exact ⟨rfl, rfl⟩
  · rw [rzA_ne (by omega) (by omega) (by omega), if_neg (fun z => z.1 rfl)]
    exact st.2.1 q hq
  · rw [rzA_5, rzA_6, upd_ne (by omega), upd_ne (by omega)]
    exact ⟨rfl, rfl⟩
  · rw [rzA_5, rzA_6, upd_eq, upd_eq]
    exact ⟨rfl, rfl⟩
end RAI
