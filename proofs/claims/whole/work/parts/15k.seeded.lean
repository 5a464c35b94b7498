/-! seeded -/
section SEE
variable {A V : Nat → Nat → Int32} {R : Nat → Nat → Option Nat} {B : Nat → Nat → Int64} {J : List En}
def nx (z : Int32) : Int32 := z * 1103515245 + 12345
/-- what a draw is cut from -/
def dm (z : Int32) : Nat := (z &&& (2147483647 : Int32)).toBitVec.toNat
theorem dm_e (z : Int32) : dm z < 2147483648 ∧ z &&& (2147483647 : Int32) = nN (dm z) := by
  have hm : (z &&& (2147483647 : Int32)).toBitVec.msb = false := by
    rw [Int32.toBitVec_and, BitVec.msb_and, show (2147483647 : Int32).toBitVec.msb = false from rfl, Bool.and_false]
  have h1 : (z &&& (2147483647 : Int32)).toInt = (dm z : Int) := BitVec.toInt_eq_toNat_of_msb hm
  have h2 : (z &&& (2147483647 : Int32)).toInt < 2147483648 := Int32.toInt_lt _
  have h3 : dm z < 2147483648 := by omega
  refine ⟨h3, Int32.toInt_inj.mp ?_⟩
  rw [h1, Int32.toInt_ofNat_of_lt (by omega)]
def dw (z : Int32) : Nat := dm z / 65536
theorem dw_lt (z : Int32) : dw z < 2147483648 := by
  have h := (dm_e z).1
  unfold dw
  omega
theorem c_draw {h : Hp} {z : Int32} : f_X10_drawnBits h z = some (nN (dw z)) := by
  unfold f_X10_drawnBits
  obtain ⟨h1, h2⟩ := dm_e z
  rw [h2]
  refine congrArg some (Int32.toInt_inj.mp ?_)
  have e1 : (nN (dm z) >>> ((16 : Int32) &&& 31)).toBitVec = (nN (dm z)).toBitVec.sshiftRight 16 := Int32.toBitVec_shiftRight _ _
  have e2 : (nN (dm z) >>> ((16 : Int32) &&& 31)).toInt = (nN (dm z)).toInt >>> 16 := by
    show (nN (dm z) >>> ((16 : Int32) &&& 31)).toBitVec.toInt = _
    rw [e1, BitVec.toInt_sshiftRight]
    rfl
  have h3 := dw_lt z
  rw [e2, Int32.toInt_ofNat_of_lt (by omega), Int32.toInt_ofNat_of_lt (by omega), Int.shiftRight_eq_div_pow]
  unfold dw
  omega
theorem c_next {h : Hp} {z : Int32} : f_X10_nextSeed h z = some (nx z) := rfl
theorem m_div {a b : Nat} (ha : a < 2147483648) (hb : b < 2147483648) (h0 : b ≠ 0) : dvI (nN a) (nN b) = some (nN (a / b)) := by
  unfold dvI
  rw [if_neg (n_ne0 h0 hb), show nN (a / b) = nN a / nN b from Int32.ofNat_div (by omega) (by omega)]
theorem m_rem {a b : Nat} (ha : a < 2147483648) (hb : b < 2147483648) (h0 : b ≠ 0) : rmI (nN a) (nN b) = some (nN (a % b)) := by
  have h1 := Nat.div_mul_le_self a b
  have h2 : a % b = a - a / b * b := by
    have := Nat.div_add_mod a b
    rw [Nat.mul_comm] at this
    omega
  unfold rmI
  rw [if_neg (n_ne0 h0 hb), ← show nN (a / b) = nN a / nN b from Int32.ofNat_div (by omega) (by omega), n_mul, h2, show nN (a - a / b * b) = nN a - nN (a / b * b) from Int32.ofNat_sub _ _ h1]
theorem uV27 {z y : Int32} : upV (upV V 45 27 z) 45 27 y = upV V 45 27 y := uV_uV
theorem m_draw {n : Nat} {z : Int32} (hn : n < 2147483648) (h0 : n ≠ 0) : f_X11_draw (mk A (upV V 45 27 z) R B J) 45 (nN n) = some (nN (dw (nx z) % n), mk A (upV V 45 27 (nx z)) R B J) := by
  unfold f_X11_draw
  have e27 : ∀ y : Int32, upV V 45 27 y 45 27 = y := fun y => uV_eq
  rw [gm_27, Option.bind_some, e27, pm_27, Option.bind_some, uV27, gm_27, Option.bind_some, e27]
  show (dvI (nx z &&& 2147483647) 65536).bind _ = _
  obtain ⟨h1, h2⟩ := dm_e (nx z)
  rw [h2, show (65536 : Int32) = nN 65536 from rfl, m_div h1 (by decide) (by decide), Option.bind_some]
  show (rmI (nN (dw (nx z))) (nN n)).bind _ = _
  rw [m_rem (dw_lt _) hn h0, Option.bind_some]
  rfl
/-- the street by seeds behind so many draws -/
def sd (k f : Nat) (z : Int32) : Nat → Tn × Int32
  | 0 => (mE k f, z)
  | i + 1 => (if tN (sd k f z i).1 (dw (nx (sd k f z i).2) % 12) = 0 then rsT (sd k f z i).1 (dw (nx (sd k f z i).2) % 12) (dw (nx (nx (sd k f z i).2)) % 9 + 1) else rzT (sd k f z i).1 (dw (nx (sd k f z i).2) % 12), nx (nx (sd k f z i).2))
theorem sd_ok {k f : Nat} {z : Int32} (hk : k ≤ 7) (hf : f ≤ 9) : ∀ i, i ≤ 30 → Wf (sd k f z i).1 ∧ (tK (sd k f z i).1 = k ∧ (tF (sd k f z i).1 = f ∧ tE (sd k f z i).1 = i))
  | 0, _ => ⟨mE_wf hk hf, rfl, rfl, rfl⟩
  | i + 1, h => by
    obtain ⟨w, h1, h2, h3⟩ := sd_ok (z := z) hk hf i (by omega)
    have hp : dw (nx (sd k f z i).2) % 12 < 12 := Nat.mod_lt _ (by decide)
    have hx : dw (nx (nx (sd k f z i).2)) % 9 < 9 := Nat.mod_lt _ (by decide)
    unfold sd
    dsimp only
    by_cases c : tN (sd k f z i).1 (dw (nx (sd k f z i).2) % 12) = 0
    · rw [if_pos c]
      exact ⟨w.rs hp (by omega) (by omega) (by omega) c, h1, h2, by show tE (sd k f z i).1 + 1 = i + 1; rw [h3]⟩
    · rw [if_neg c]
      exact ⟨w.rz hp (by omega) c, h1, h2, by show tE (sd k f z i).1 + 1 = i + 1; rw [h3]⟩
def sdR (T : Tn) (what : Nat) : Nat := if what = 0 then frC (tN T) (gN (tN T) 12) else gN (rT (tN T) 12) 12
theorem c_seeded {k f n what : Nat} {z : Int32} {T : Tn} (w : Wf T) (st : StRep A V R J 1 T) (hk : tK T = k) (hf : tF T = f) (hn : n ≤ 30) (h1 : 1 ≤ n) (hw : what ≤ 1) : ∃ A' V', f_X10_seeded (mk A V R B J) 0 (nN n) z (nN what) = some (nN (sdR (sd k f z n).1 what), mk A' V' (upR R 10 9 (R 1 9)) B J) ∧ FrmM A V R A' V' (upR R 10 9 (R 1 9)) := by
  have hr : LawAt J (R 1 9) k f := by
    subst hk
    subst hf
    exact st.2.2.2.2.2
  have hk7 := hr.1
  have hf9 := hr.2.1
  obtain ⟨A1, e1, fA, s1⟩ := c_clear (A := A) (V := V) (R := R) (B := B) isM hr
  have f1 : FrmM A V R A1 (upV (upV V 10 7 0) 10 8 0) (upR R 10 9 (R 1 9)) :=
    ⟨fun a h => fA a (by omega), fun a k h => (uV_ne (fun q => h q.1)).trans (uV_ne (fun q => h q.1)), fun a k h => if_neg (fun q => h q.1)⟩
  have key : ∃ y, f_X10_seeded_42 0 10000 (mk A1 (upV (upV V 10 7 0) 10 8 0) (upR R 10 9 (R 1 9)) B J) (nN n) (nN what) z (nN 0) = some y ∧ ∃ A' V', y = (nN (sdR (sd k f z n).1 what), mk A' V' (upR R 10 9 (R 1 9)) B J) ∧ FrmM A V R A' V' (upR R 10 9 (R 1 9)) := by
    refine lpF (fun m (s : Int32 × ((Nat → Nat → Int32) × (Nat → Nat → Int32))) i => f_X10_seeded_42 0 m (mk s.2.1 s.2.2 (upR R 10 9 (R 1 9)) B J) (nN n) (nN what) s.1 i) (fun i s => s.1 = (sd k f z i).2 ∧ (FrmM A V R s.2.1 s.2.2 (upR R 10 9 (R 1 9)) ∧ StRep s.2.1 s.2.2 (upR R 10 9 (R 1 9)) J 10 (sd k f z i).1)) (fun y => ∃ A' V', y = (nN (sdR (sd k f z n).1 what), mk A' V' (upR R 10 9 (R 1 9)) B J) ∧ FrmM A V R A' V' (upR R 10 9 (R 1 9))) n (i := 0) (s := (z, A1, upV (upV V 10 7 0) 10 8 0)) (by omega) (by omega) ⟨rfl, f1, s1⟩ ?_ ?_
    · rintro m i ⟨s, A2, V2⟩ hi ⟨h1, h2, h3⟩
      have h1 : s = (sd k f z i).2 := h1
      have h2 : FrmM A V R A2 V2 (upR R 10 9 (R 1 9)) := h2
      have h3 : StRep A2 V2 (upR R 10 9 (R 1 9)) J 10 (sd k f z i).1 := h3
      refine Or.inr ?_
      obtain ⟨w2, k1, k2, k3⟩ := sd_ok (z := z) hk7 hf9 i (by omega)
      have hp : dw (nx (sd k f z i).2) % 12 < 12 := Nat.mod_lt _ (by decide)
      have hx : dw (nx (nx (sd k f z i).2)) % 9 < 9 := Nat.mod_lt _ (by decide)
      have hs : (sd k f z (i + 1)).1 = if tN (sd k f z i).1 (dw (nx (sd k f z i).2) % 12) = 0 then rsT (sd k f z i).1 (dw (nx (sd k f z i).2) % 12) (dw (nx (nx (sd k f z i).2)) % 9 + 1) else rzT (sd k f z i).1 (dw (nx (sd k f z i).2) % 12) := rfl
      have hs2 : (sd k f z (i + 1)).2 = nx (nx (sd k f z i).2) := rfl
      show ∃ s', f_X10_seeded_42 0 (m + 1) (mk A2 V2 (upR R 10 9 (R 1 9)) B J) (nN n) (nN what) s (nN i) = _ ∧ _
      rw [h1]
      rw [f_X10_seeded_42, if_neg (le_n hi (by omega))]
      unfold f_X10_seeded_121
      rw [c_next, Option.bind_some, c_draw, Option.bind_some, show (12 : Int32) = nN 12 from rfl, m_rem (dw_lt _) (by decide) (by decide), Option.bind_some, c_next, Option.bind_some, c_draw, Option.bind_some, show (9 : Int32) = nN 9 from rfl, m_rem (dw_lt _) (by decide) (by decide), Option.bind_some, go_1, Option.bind_some, rs isM, Option.bind_some, c_hasHouse isM hp (plot_p hp).1, Option.bind_some, h3.2.2.2.1 _ hp, n_s, hs, hs2]
      by_cases c : tN (sd k f z i).1 (dw (nx (sd k f z i).2) % 12) = 0
      · have er := c_raise (B := B) isM w2 h3 hp (show 1 ≤ dw (nx (nx (sd k f z i).2)) % 9 + 1 by omega) (by omega) c (by omega)
        have sr := StRep.rs w2 h3 hp (show 1 ≤ dw (nx (nx (sd k f z i).2)) % 9 + 1 by omega) (by omega) c (by omega)
        rw [c, if_pos (show nN 0 = 0 from rfl), if_pos rfl, Option.bind_some, rs isM, Option.bind_some, er, Option.bind_some, if_pos rfl]
        exact ⟨(_, _, _), rfl, rfl, h2.tr rs_frmM, sr⟩
      · have er := c_raze (B := B) isM w2 h3 hp c (by omega)
        have sr := StRep.rz w2 h3 hp (by omega)
        rw [if_neg (n_ne0 c (by have := w2.num _ hp; omega)), if_neg (by decide), Option.bind_some, rs isM, Option.bind_some, er, Option.bind_some, if_neg c]
        exact ⟨(_, _, _), rfl, rfl, h2.tr rz_frmM, sr⟩
    · rintro m ⟨s, A2, V2⟩ ⟨h1, h2, h3⟩
      have h2 : FrmM A V R A2 V2 (upR R 10 9 (R 1 9)) := h2
      have h3 : StRep A2 V2 (upR R 10 9 (R 1 9)) J 10 (sd k f z n).1 := h3
      obtain ⟨w2, k1, k2, k3⟩ := sd_ok (z := z) hk7 hf9 n (by omega)
      show ∃ y, f_X10_seeded_42 0 (m + 1) (mk A2 V2 (upR R 10 9 (R 1 9)) B J) (nN n) (nN what) s (nN n) = some y ∧ _
      have hN : ∀ p, p < 12 → tN (sd k f z n).1 p < 1000 ∧ A2 (10 + 1) p = nN (tN (sd k f z n).1 p) := fun p hp => ⟨w2.num p hp, h3.2.2.2.1 p hp⟩
      rw [f_X10_seeded_42, if_pos (Int32.le_refl _)]
      unfold sdR
      by_cases c : what = 0
      · rw [c, if_pos (show nN 0 = 0 from rfl), if_pos rfl, go_1, Option.bind_some, rs isM, Option.bind_some, c_freeNumbers isM hN, Option.bind_some]
        exact ⟨_, rfl, A2, V2, rfl, h2⟩
      · obtain ⟨g, eg⟩ := c_rise (V := V2) (R := upR R 10 9 (R 1 9)) (B := B) (J := J) isM hN
        rw [if_neg (n_ne0 c (by omega)), if_neg c, go_1, Option.bind_some, rs isM, Option.bind_some, eg, Option.bind_some]
        exact ⟨_, rfl, _, V2, rfl, h2.tr ⟨fun a ha => uA_ne (by omega), fun _ _ _ => rfl, fun _ _ _ => rfl⟩⟩
  obtain ⟨y, e2, A', V', rfl, f2⟩ := key
  refine ⟨A', V', ?_, f2⟩
  unfold f_X10_seeded
  rw [if_neg (show ¬ nN n < 1 from lt_n h1 (by omega)), if_neg (show ¬ (30 : Int32) < nN n from lt_n (a := 30) hn (by decide)), if_neg (n_lt0 what (by omega)), if_pos (show nN what ≤ 1 from le_y hw (by decide)), go_1, Option.bind_some, go_0, Option.bind_some, gs_9 isT, Option.bind_some, rs isM, Option.bind_some, e1, Option.bind_some]
  exact e2
theorem m_seeded {k f n what : Nat} {z : Int32} (hk : k ≤ 7) (hf : f ≤ 9) (e0 : V 45 0 = nN k) (e1 : V 45 1 = nN f) (hn : n ≤ 30) (h1 : 1 ≤ n) (hw : what ≤ 1) : ∃ A' V', f_X11_seeded (mk A V R B J) 45 (nN n) z (nN what) = some (nN (sdR (sd k f z n).1 what), mk A' V' R B J) ∧ Frm A V R B A' V' R B := by
  have key : ∃ y, f_X11_seeded_41 45 10000 (mk (emp A) (upV (upV V 45 6 0) 45 27 z) R B J) (nN n) (nN what) (nN 0) = some y ∧ ∃ A' z', y = (nN (sdR (sd k f z n).1 what), mk A' (upV (upV V 45 6 0) 45 27 z') R B J) ∧ ∀ a, a ≠ 49 → a ≠ 50 → a ≠ 57 → A' a = A a := by
    refine lpF (fun m (s : Int32 × (Nat → Nat → Int32)) i => f_X11_seeded_41 45 m (mk s.2 (upV (upV V 45 6 0) 45 27 s.1) R B J) (nN n) (nN what) i) (fun i s => s.1 = (sd k f z i).2 ∧ ((∀ a, a ≠ 49 → a ≠ 50 → s.2 a = A a) ∧ LkT s.2 (sd k f z i).1)) (fun y => ∃ A' z', y = (nN (sdR (sd k f z n).1 what), mk A' (upV (upV V 45 6 0) 45 27 z') R B J) ∧ ∀ a, a ≠ 49 → a ≠ 50 → a ≠ 57 → A' a = A a) n (i := 0) (s := (z, emp A)) (by omega) (by omega) ⟨rfl, emp_at.1, m_empty0⟩ ?_ ?_
    · rintro m i ⟨s, A2⟩ hi ⟨h1, h2, h3⟩
      have h1 : s = (sd k f z i).2 := h1
      have h2 : ∀ a, a ≠ 49 → a ≠ 50 → A2 a = A a := h2
      have h3 : LkT A2 (sd k f z i).1 := h3
      refine Or.inr ?_
      obtain ⟨w2, k1, k2, k3⟩ := sd_ok (z := z) hk hf i (by omega)
      have hp : dw (nx (sd k f z i).2) % 12 < 12 := Nat.mod_lt _ (by decide)
      have hs : (sd k f z (i + 1)).1 = if tN (sd k f z i).1 (dw (nx (sd k f z i).2) % 12) = 0 then rsT (sd k f z i).1 (dw (nx (sd k f z i).2) % 12) (dw (nx (nx (sd k f z i).2)) % 9 + 1) else rzT (sd k f z i).1 (dw (nx (sd k f z i).2) % 12) := rfl
      have hs2 : (sd k f z (i + 1)).2 = nx (nx (sd k f z i).2) := rfl
      show ∃ s', f_X11_seeded_41 45 (m + 1) (mk A2 (upV (upV V 45 6 0) 45 27 s) R B J) (nN n) (nN what) (nN i) = _ ∧ _
      rw [h1]
      have v0 : ∀ y : Int32, upV (upV V 45 6 0) 45 27 y 45 0 = nN k := fun y => (uV_ne (by decide)).trans ((uV_ne (by decide)).trans e0)
      have v1 : ∀ y : Int32, upV (upV V 45 6 0) 45 27 y 45 1 = nN f := fun y => (uV_ne (by decide)).trans ((uV_ne (by decide)).trans e1)
      rw [f_X11_seeded_41, if_neg (le_n hi (by omega)), rm, Option.bind_some, show (12 : Int32) = nN 12 from rfl, m_draw (by decide) (by decide), Option.bind_some, rm, Option.bind_some, show (9 : Int32) = nN 9 from rfl, m_draw (by decide) (by decide), Option.bind_some, gm_7, Option.bind_some, am_49, ib12 hp, if_pos rfl, Option.bind_some, c12 hp, h3.1 _ hp, hs, hs2]
      unfold f_X11_seeded_102
      by_cases c : tN (sd k f z i).1 (dw (nx (sd k f z i).2) % 12) = 0
      · obtain ⟨A3, e3, f3, l3⟩ := m_buildLooked (V := upV (upV V 45 6 0) 45 27 (nx (nx (sd k f z i).2))) (R := R) (B := B) (J := J) (x := dw (nx (nx (sd k f z i).2)) % 9 + 1) w2 h3 k1 k2 hp (by omega)
        rw [if_pos (le0_y c), gm_0, Option.bind_some, gm_1, Option.bind_some, v0, v1, rm, Option.bind_some, n_s, e3, Option.bind_some, if_pos c]
        exact ⟨(_, _), rfl, rfl, fun a q1 q2 => (f3 a q1 q2).trans (h2 a q1 q2), l3⟩
      · rw [if_neg (le0_n c (by have := w2.num _ hp; omega)), Option.bind_some, wm_49, ib12 hp, if_pos rfl, Option.bind_some, c12 hp, if_neg c]
        exact ⟨(_, _), rfl, rfl, fun a q1 q2 => (uA_ne q1).trans (h2 a q1 q2), m_burnLooked h3⟩
    · rintro m ⟨s, A2⟩ ⟨h1, h2, h3⟩
      have h2 : ∀ a, a ≠ 49 → a ≠ 50 → A2 a = A a := h2
      have h3 : LkT A2 (sd k f z n).1 := h3
      obtain ⟨w2, k1, k2, k3⟩ := sd_ok (z := z) hk hf n (by omega)
      show ∃ y, f_X11_seeded_41 45 (m + 1) (mk A2 (upV (upV V 45 6 0) 45 27 s) R B J) (nN n) (nN what) (nN n) = some y ∧ _
      have hN : ∀ p, p < 12 → tN (sd k f z n).1 p < 1000 ∧ A2 49 p = nN (tN (sd k f z n).1 p) := fun p hp => ⟨w2.num p hp, h3.1 p hp⟩
      rw [f_X11_seeded_41, if_pos (Int32.le_refl _)]
      unfold sdR
      by_cases c : what = 0
      · rw [c, if_pos (show nN 0 = 0 from rfl), if_pos rfl, rm, Option.bind_some, m_gapsLooked hN, Option.bind_some]
        exact ⟨_, rfl, A2, s, rfl, fun a q1 q2 _ => h2 a q1 q2⟩
      · obtain ⟨g, eg⟩ := m_rise (V := upV (upV V 45 6 0) 45 27 s) (R := R) (B := B) (J := J) hN
        rw [if_neg (n_ne0 c (by omega)), if_neg c, rm, Option.bind_some, eg, Option.bind_some]
        exact ⟨_, rfl, _, s, rfl, fun a q1 q2 q3 => (uA_ne q3).trans (h2 a q1 q2)⟩
  obtain ⟨y, e2, A', z', rfl, f2⟩ := key
  refine ⟨A', upV (upV V 45 6 0) 45 27 z', ?_, ⟨fun a g => f2 a (fun q => g (by rw [q]; decide)) (fun q => g (by rw [q]; decide)) (fun q => g (by rw [q]; decide)), fun a k g => (uV_ne (fun q => g (Or.inr ⟨q.1, by rw [q.2]; decide⟩))).trans (uV_ne (fun q => g (Or.inr ⟨q.1, by rw [q.2]; decide⟩))), fun _ _ _ => rfl, rfl⟩⟩
  have i30 : f_X11_in (mk A (upV V 45 6 0) R B J) (nN n).toInt64 (1 : Int64) (30 : Int64) = some 1 := by
    have e := m_in (h := mk A (upV V 45 6 0) R B J) (x := nN n) (a := 1) (b := 30)
    rw [if_pos ⟨le_y h1 (by omega), le_y hn (by decide)⟩] at e
    exact e
  unfold f_X11_seeded
  rw [pm_6, Option.bind_some, i30, Option.bind_some, if_neg (by decide), m_in01, Option.bind_some, if_pos (show (0 : Int32) ≤ nN what ∧ nN what ≤ 1 from ⟨le_y (Nat.zero_le _) (by omega), le_y hw (by decide)⟩), if_neg (by decide), pm_27, Option.bind_some, rm, Option.bind_some, m_empty, Option.bind_some]
  exact e2
theorem op_18 (x1 x2 x3 : Int32) : Ok2 (fun h => f_X10_seeded h 0 x1 x2 x3) (fun h => f_X11_seeded h 45 x1 x2 x3) := by
  intro A V R B J h
  have h0 := h
  obtain ⟨⟨T, w, st, mo⟩, -⟩ := h0
  have i30 : ∀ h, f_X11_in h x1.toInt64 (1 : Int64) (30 : Int64) = some (if (1 : Int32) ≤ x1 ∧ x1 ≤ 30 then 1 else 0) := fun h => m_in (h := h) (x := x1) (a := 1) (b := 30)
  rcases rng x1 1 30 (by decide) (by decide) with ⟨n, h1, hn, rfl⟩ | c1
  · rcases rng x3 0 1 (by decide) (by decide) with ⟨what, -, hw, rfl⟩ | c3
    · obtain ⟨A1, V1, ec, f1⟩ := c_seeded (B := B) (z := x2) w st rfl rfl hn h1 hw
      have mo1 : MoRep A1 V1 T := mo.mind f1
      obtain ⟨A2, V2, em, f2⟩ := m_seeded (A := A1) (V := V1) (R := upR R 10 9 (R 1 9)) (B := B) (J := J) (z := x2) w.1 w.2.1 mo1.1.1 mo1.1.2.1 hn h1 hw
      exact yes2 (fc := fun h => f_X10_seeded h 0 (nN n) x2 (nN what)) (fm := fun h => f_X11_seeded h 45 (nN n) x2 (nN what)) ec em (h.frm [] (f1.frm.tr f2))
    · refine no2 (fc := fun h => f_X10_seeded h 0 (nN n) x2 x3) (fm := fun h => f_X11_seeded h 45 (nN n) x2 x3) (x := -1) h ?_ ?_
      · show f_X10_seeded (mk A V R B J) 0 (nN n) x2 x3 = _
        unfold f_X10_seeded
        rw [if_neg (show ¬ nN n < 1 from lt_n h1 (by omega)), if_neg (show ¬ (30 : Int32) < nN n from lt_n (a := 30) hn (by decide))]
        by_cases q : x3 < 0
        · rw [if_pos q]
        · rw [if_neg q, if_neg (show ¬ x3 ≤ 1 from fun q2 => c3 ⟨not_lt' q, q2⟩)]
      · show f_X11_seeded (mk A V R B J) 45 (nN n) x2 x3 = _
        unfold f_X11_seeded
        rw [pm_6, Option.bind_some, i30, Option.bind_some, if_pos (show (1 : Int32) ≤ nN n ∧ nN n ≤ 30 from ⟨le_y h1 (by omega), le_y hn (by decide)⟩), if_neg (by decide), m_in01, Option.bind_some, if_neg (show ¬ ((0 : Int32) ≤ x3 ∧ x3 ≤ 1) from c3), if_pos rfl]
  · refine no2 (fc := fun h => f_X10_seeded h 0 x1 x2 x3) (fm := fun h => f_X11_seeded h 45 x1 x2 x3) (x := -1) h ?_ ?_
    · show f_X10_seeded (mk A V R B J) 0 x1 x2 x3 = _
      unfold f_X10_seeded
      by_cases q : x1 < 1
      · rw [if_pos q]
      · rw [if_neg q]
        by_cases q2 : (30 : Int32) < x1
        · rw [if_pos q2]
        · exact absurd ⟨not_lt' q, not_lt' q2⟩ c1
    · show f_X11_seeded (mk A V R B J) 45 x1 x2 x3 = _
      unfold f_X11_seeded
      rw [pm_6, Option.bind_some, i30, Option.bind_some, if_neg (show ¬ ((1 : Int32) ≤ x1 ∧ x1 ≤ 30) from c1), if_pos rfl]
end SEE
