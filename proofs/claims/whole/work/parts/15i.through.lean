/-! A town gone through by one law. -/
section THR
variable {A V : Nat → Nat → Int32} {R : Nat → Nat → Option Nat} {B : Nat → Nat → Int64} {J : List En}
def mE (k f : Nat) : Tn := (k, f, 0, fun _ => 0, fun _ => 0, fun _ => 0)
theorem mE_wf {k f : Nat} (hk : k ≤ 7) (hf : f ≤ 9) : Wf (mE k f) :=
  ⟨hk, hf, ⟨Nat.zero_le _, fun e h => absurd h (Nat.not_lt_zero e)⟩, fun p _ => ⟨⟨fun h => absurd rfl h, fun h => by cases h⟩, Nat.zero_le _⟩⟩
/-- a town behind the first events, all by one law -/
def tr (k f : Nat) (P H : Nat → Nat) : Nat → Tn
  | 0 => mE k f
  | e + 1 => if H e = 0 then rzT (tr k f P H e) (P e) else rsT (tr k f P H e) (P e) (H e)
theorem tr_ok {k f E : Nat} {P H : Nat → Nat} (hk : k ≤ 7) (hf : f ≤ 9) (hE : Evs P H E) : ∀ e, e ≤ E → Wf (tr k f P H e) ∧ (tK (tr k f P H e) = k ∧ (tF (tr k f P H e) = f ∧ (tE (tr k f P H e) = e ∧ ∀ d, d < e → tP (tr k f P H e) d = P d ∧ tH (tr k f P H e) d = H d)))
  | 0, _ => ⟨mE_wf hk hf, rfl, rfl, rfl, fun d h => absurd h (Nat.not_lt_zero d)⟩
  | e + 1, h => by
    obtain ⟨w, h1, h2, h3, h4⟩ := tr_ok hk hf hE e (by omega)
    obtain ⟨g1, g2, g3⟩ := hE.2 e (by omega)
    have hE30 := hE.1
    have ho : occ (tP (tr k f P H e)) (tH (tr k f P H e)) (P e) (tE (tr k f P H e)) = occ P H (P e) e := by
      rw [h3]
      exact occ_cong e h4
    have hz : tN (tr k f P H e) (P e) = 0 ↔ occ P H (P e) e = false := by
      rw [w.occ0 g1, ho]
    have fin : ∀ x n, x = H e → Wf (evT (tr k f P H e) (P e) x n) → Wf (evT (tr k f P H e) (P e) x n) ∧ (tK (evT (tr k f P H e) (P e) x n) = k ∧ (tF (evT (tr k f P H e) (P e) x n) = f ∧ (tE (evT (tr k f P H e) (P e) x n) = e + 1 ∧ ∀ d, d < e + 1 → tP (evT (tr k f P H e) (P e) x n) d = P d ∧ tH (evT (tr k f P H e) (P e) x n) d = H d))) := by
      intro x n hx w'
      refine ⟨w', h1, h2, by show tE (tr k f P H e) + 1 = e + 1; rw [h3], fun d hd => ?_⟩
      by_cases c : d < e
      · obtain ⟨o1, o2⟩ := ev_old (T := tr k f P H e) (p := P e) (x := x) (n := n) d (by rw [h3]; exact c)
        rw [o1, o2]
        exact h4 d c
      · have e' : d = tE (tr k f P H e) := by rw [h3]; omega
        rw [e', ev_P, ev_H, h3, hx]
        exact ⟨rfl, rfl⟩
    unfold tr
    by_cases c : H e = 0
    · rw [if_pos c]
      have hn : tN (tr k f P H e) (P e) ≠ 0 := fun z => (g3.mpr (hz.mp z)) c
      exact fin 0 0 c.symm (w.rz g1 (by rw [h3]; omega) hn)
    · rw [if_neg c]
      exact fin (H e) _ rfl (w.rs g1 (by omega) g2 (by rw [h3]; omega) (hz.mpr (g3.mp c)))
theorem c_clear {t k f : Nat} {r : Option Nat} (ht : isSt t) (hr : LawAt J r k f) : ∃ A', f_X8_clear (mk A V R B J) t r = some (mk A' (upV (upV V t 7 0) t 8 0) (upR R t 9 r) B J) ∧ ((∀ a, ¬ (t + 1 ≤ a ∧ a ≤ t + 6) → A' a = A a) ∧ StRep A' (upV (upV V t 7 0) t 8 0) (upR R t 9 r) J t (mE k f)) := by
  refine ⟨upA (upA A (t + 1) (itr (fun i s => upd s i 0) 0 12 (A (t + 1)))) (t + 4) (itr (fun i s => upd s i 0) 0 3 (A (t + 4))), ?_, fun a ha => ?_, ⟨?_, ?_⟩, fun q hq => ?_, fun e he => absurd he (Nat.not_lt_zero e), fun p hp => ?_, fun p hp hn => absurd rfl hn, ?_⟩
  · unfold f_X8_clear
    rw [gs_0 ht, Option.bind_some, c_fill (la_0 ht) (by decide) (by decide), Option.bind_some, gs_3 ht, Option.bind_some, c_fill (la_3 ht) (by decide) (by decide), Option.bind_some, ps_7 ht, Option.bind_some, ps_8 ht, Option.bind_some, ps_9 ht, Option.bind_some, uA_ne (show t + 4 ≠ t + 1 by omega)]
  · rw [uA_ne (by omega), uA_ne (by omega)]
  · exact (uV_ne (by omega)).trans uV_eq
  · exact uV_eq
  · rw [uA_eq, itr_fill, if_pos (by omega)]
    rfl
  · rw [uA_ne (by omega), uA_eq, itr_fill, if_pos (by omega)]
    rfl
  · show LawAt J (upR R t 9 r t 9) k f
    rw [show upR R t 9 r t 9 = r from if_pos ⟨rfl, rfl⟩]
    exact hr
/-- only the mind's street changes -/
def FrmM (A V : Nat → Nat → Int32) (R : Nat → Nat → Option Nat) (A' V' : Nat → Nat → Int32) (R' : Nat → Nat → Option Nat) : Prop :=
  (∀ a, ¬ (11 ≤ a ∧ a ≤ 17) → A' a = A a) ∧ ((∀ a k, a ≠ 10 → V' a k = V a k) ∧ ∀ a k, a ≠ 10 → R' a k = R a k)
theorem FrmM.tr {A1 V1 A2 V2 : Nat → Nat → Int32} {R1 R2 : Nat → Nat → Option Nat} (h : FrmM A V R A1 V1 R1) (g : FrmM A1 V1 R1 A2 V2 R2) : FrmM A V R A2 V2 R2 :=
  ⟨fun a h1 => (g.1 a h1).trans (h.1 a h1), fun a k h1 => (g.2.1 a k h1).trans (h.2.1 a k h1), fun a k h1 => (g.2.2 a k h1).trans (h.2.2 a k h1)⟩
theorem FrmM.frm {A' V' : Nat → Nat → Int32} {R' : Nat → Nat → Option Nat} (h : FrmM A V R A' V' R') : Frm A V R B A' V' R' B := by
  refine ⟨fun a h1 => h.1 a (fun q => h1 ?_), fun a k h1 => h.2.1 a k (fun q => h1 (Or.inl q)), fun a k h1 => h.2.2 a k (fun q => h1 (Or.inl q)), rfl⟩
  unfold scA
  simp only [List.mem_cons, List.not_mem_nil, or_false]
  omega
/-- another street and the model stay -/
theorem StRep.mind {A' V' : Nat → Nat → Int32} {R' : Nat → Nat → Option Nat} {J' : List En} {t : Nat} {T : Tn} (s : StRep A V R J t T) (ht : t = 1 ∨ t = 19) (h : FrmM A V R A' V' R') : StRep A' V' R' (J ++ J') t T :=
  s.cong (fun j hj => h.1 _ (by omega)) (h.2.1 _ _ (by omega)) (h.2.1 _ _ (by omega)) (h.2.2 _ _ (by omega))
theorem MoRep.mind {A' V' : Nat → Nat → Int32} {R' : Nat → Nat → Option Nat} {T : Tn} (s : MoRep A V T) (h : FrmM A V R A' V' R') : MoRep A' V' T :=
  s.cong ⟨h.1 _ (by omega), h.1 _ (by omega), h.1 _ (by omega)⟩ ⟨h.2.1 _ _ (by omega), h.2.1 _ _ (by omega), h.2.1 _ _ (by omega)⟩
theorem rs_frmM {p E b : Nat} {n x e : Int32} : FrmM A V R (rsA A 10 p E n x e) (rsV V 10 E b) R :=
  ⟨fun a h => rsA_ne (by omega), fun a k h => (uV_ne (fun q => h q.1)).trans (uV_ne (fun q => h q.1)), fun _ _ _ => rfl⟩
theorem rz_frmM {p E : Nat} {n : Int32} : FrmM A V R (rzA A 10 p E) (upV V 10 7 n) R :=
  ⟨fun a h => rzA_ne (by omega) (by omega) (by omega), fun a k h => uV_ne (fun q => h q.1), fun _ _ _ => rfl⟩
theorem c_goThrough {k f : Nat} {r : Option Nat} {T : Tn} (w : Wf T) (st : StRep A V R J 1 T) (hr : LawAt J r k f) : ∃ A' V', f_X8_goThrough (mk A V R B J) 10 (some 1) r = some (mk A' V' (upR R 10 9 r) B J) ∧ (FrmM A V R A' V' (upR R 10 9 r) ∧ StRep A' V' (upR R 10 9 r) J 10 (tr k f (tP T) (tH T) (tE T))) := by
  obtain ⟨A1, e1, fA, s1⟩ := c_clear (A := A) (V := V) (R := R) (B := B) isM hr
  have f1 : FrmM A V R A1 (upV (upV V 10 7 0) 10 8 0) (upR R 10 9 r) :=
    ⟨fun a h => fA a (by omega), fun a k h => (uV_ne (fun q => h q.1)).trans (uV_ne (fun q => h q.1)), fun a k h => if_neg (fun q => h q.1)⟩
  have hE30 := w.2.2.1.1
  have key : ∃ y, f_X8_goThrough_7 10 10000 (mk A1 (upV (upV V 10 7 0) 10 8 0) (upR R 10 9 r) B J) (some 1) (nN 0) = some y ∧ ∃ A' V', y = mk A' V' (upR R 10 9 r) B J ∧ (FrmM A V R A' V' (upR R 10 9 r) ∧ StRep A' V' (upR R 10 9 r) J 10 (tr k f (tP T) (tH T) (tE T))) := by
    refine lpF (fun n (s : (Nat → Nat → Int32) × (Nat → Nat → Int32)) i => f_X8_goThrough_7 10 n (mk s.1 s.2 (upR R 10 9 r) B J) (some 1) i) (fun i s => FrmM A V R s.1 s.2 (upR R 10 9 r) ∧ StRep s.1 s.2 (upR R 10 9 r) J 10 (tr k f (tP T) (tH T) i)) (fun y => ∃ A' V', y = mk A' V' (upR R 10 9 r) B J ∧ (FrmM A V R A' V' (upR R 10 9 r) ∧ StRep A' V' (upR R 10 9 r) J 10 (tr k f (tP T) (tH T) (tE T)))) (tE T) (i := 0) (s := (A1, upV (upV V 10 7 0) 10 8 0)) (by omega) (by omega) ⟨f1, s1⟩ ?_ ?_
    · rintro n i ⟨A2, V2⟩ hi ⟨f2, s2⟩
      have f2 : FrmM A V R A2 V2 (upR R 10 9 r) := f2
      have s2 : StRep A2 V2 (upR R 10 9 r) J 10 (tr k f (tP T) (tH T) i) := s2
      refine Or.inr ?_
      have so : StRep A2 V2 (upR R 10 9 r) (J ++ []) 1 T := st.mind (Or.inl rfl) f2
      rw [List.append_nil] at so
      obtain ⟨w2, k1, k2, k3, k4⟩ := tr_ok hr.1 hr.2.1 w.2.2.1 i (by omega)
      obtain ⟨g1, g2, g3⟩ := w.2.2.1.2 i hi
      have g30 : i < 30 := by omega
      have ho : occ (tP (tr k f (tP T) (tH T) i)) (tH (tr k f (tP T) (tH T) i)) (tP T i) (tE (tr k f (tP T) (tH T) i)) = occ (tP T) (tH T) (tP T i) i := by
        rw [k3]
        exact occ_cong i k4
      have hz : tN (tr k f (tP T) (tH T) i) (tP T i) = 0 ↔ occ (tP T) (tH T) (tP T i) i = false := by
        rw [w2.occ0 g1, ho]
      show ∃ s', f_X8_goThrough_7 10 (n + 1) (mk A2 V2 (upR R 10 9 r) B J) (some 1) (nN i) = _ ∧ _
      have hs : tr k f (tP T) (tH T) (i + 1) = if tH T i = 0 then rzT (tr k f (tP T) (tH T) i) (tP T i) else rsT (tr k f (tP T) (tH T) i) (tP T i) (tH T i) := rfl
      rw [hs]
      obtain ⟨v5, v6⟩ := so.2.2.1 i hi
      rw [f_X8_goThrough_7, if_neg (ge30 g30), gs_7 isT, Option.bind_some, so.1.1, if_neg (le_n hi (by omega)), gs_5 isT, Option.bind_some, as_5 isT, ib30 g30, if_pos rfl, Option.bind_some, c30 g30, v6]
      unfold f_X8_goThrough_61
      by_cases c : tH T i = 0
      · have hn : tN (tr k f (tP T) (tH T) i) (tP T i) ≠ 0 := fun z => (g3.mpr (hz.mp z)) c
        have er := c_raze (B := B) isM w2 s2 g1 hn (by rw [k3]; omega)
        have sr := StRep.rz w2 s2 g1 (by rw [k3]; omega)
        rw [c, if_pos (show nN 0 = 0 from rfl), gs_4 isT, Option.bind_some, as_4 isT, ib30 g30, if_pos rfl, Option.bind_some, c30 g30, v5, rs isM, Option.bind_some, er, Option.bind_some, if_pos rfl]
        exact ⟨(_, _), rfl, f2.tr rz_frmM, sr⟩
      · have hp := hz.mpr (g3.mp c)
        have er := c_raise (B := B) isM w2 s2 g1 (show 1 ≤ tH T i by omega) g2 hp (by rw [k3]; omega)
        have sr := StRep.rs w2 s2 g1 (show 1 ≤ tH T i by omega) g2 hp (by rw [k3]; omega)
        rw [if_neg (n_ne0 c (by omega)), gs_4 isT, Option.bind_some, as_4 isT, ib30 g30, if_pos rfl, Option.bind_some, c30 g30, v5, Option.bind_some, as_5 isT, ib30 g30, if_pos rfl, Option.bind_some, c30 g30, v6, rs isM, Option.bind_some, er, Option.bind_some, if_neg c]
        exact ⟨(_, _), rfl, f2.tr rs_frmM, sr⟩
    · rintro n ⟨A2, V2⟩ ⟨f2, s2⟩
      have f2 : FrmM A V R A2 V2 (upR R 10 9 r) := f2
      have so : StRep A2 V2 (upR R 10 9 r) (J ++ []) 1 T := st.mind (Or.inl rfl) f2
      show ∃ y, f_X8_goThrough_7 10 (n + 1) (mk A2 V2 (upR R 10 9 r) B J) (some 1) (nN (tE T)) = some y ∧ _
      refine ⟨mk A2 V2 (upR R 10 9 r) B J, ?_, A2, V2, rfl, f2, s2⟩
      rw [f_X8_goThrough_7]
      by_cases c : (30 : Int32) ≤ nN (tE T)
      · rw [if_pos c]
      · rw [if_neg c, gs_7 isT, Option.bind_some, so.1.1, if_pos (Int32.le_refl _)]
  obtain ⟨y, e2, A', V', rfl, f2, s2⟩ := key
  refine ⟨A', V', ?_, f2, s2⟩
  unfold f_X8_goThrough
  rw [rs isM, Option.bind_some, e1, Option.bind_some]
  exact e2
/-- what is looked at is a town -/
def LkT (A : Nat → Nat → Int32) (T : Tn) : Prop := Lk A (tP T) (tH T) (tN T) (tE T)
theorem LkT.ev {A' : Nat → Nat → Int32} {p x n : Nat} {T : Tn} (l : LkT A T) (a1 : ∀ q, q < 12 → A' 49 q = if q = p then nN n else A 49 q) (a2 : ∀ q, q < 3 → A' 50 q = nN (cnt (tP T) (tH T) q (tE T) + if x ≠ 0 ∧ p / 4 = q then 1 else 0)) : LkT A' (evT T p x n) := by
  refine ⟨fun q hq => ?_, fun q hq => ?_⟩
  · show A' 49 q = nN (upN (tN T) p n q)
    rw [a1 q hq]
    by_cases c : q = p
    · rw [if_pos c, c, upN_eq]
    · rw [if_neg c, upN_ne c]
      exact l.1 q hq
  · show A' 50 q = nN (cnt (tP (evT T p x n)) (tH (evT T p x n)) q (tE T + 1))
    rw [cnt_ev]
    exact a2 q hq
theorem m_buildLooked {k f p x : Nat} {T : Tn} (w : Wf T) (l : LkT A T) (hk : tK T = k) (hf : tF T = f) (hp : p < 12) (hx : x ≠ 0) : ∃ A', f_X11_buildLooked (mk A V R B J) 45 (nN k) (nN f) (nN p) (nN x) = some (mk A' V R B J) ∧ ((∀ a, a ≠ 49 → a ≠ 50 → A' a = A a) ∧ LkT A' (rsT T p x)) := by
  subst hk
  subst hf
  have q3 : p / 4 < 3 := by omega
  have cq' : (nN (p / 4)).toNatClampNeg = p / 4 := cn (by omega)
  refine ⟨upA (upA A 49 (upd (A 49) p (nN (numT T p x)))) 50 (upd (A 50) (p / 4) (A 50 (p / 4) + 1)), ?_, fun a h1 h2 => ?_, l.ev (fun q hq => ?_) (fun q hq => ?_)⟩
  · unfold f_X11_buildLooked
    rw [gm_7, Option.bind_some, rm, Option.bind_some, m_numT hp w l, Option.bind_some, wm_49, ib12 hp, if_pos rfl, Option.bind_some, c12 hp, gm_8, Option.bind_some, dv4 p hp, Option.bind_some, am_50, ib3 q3, if_pos rfl, Option.bind_some, cq', wm_50, ib3 q3, if_pos rfl, Option.bind_some, cq', uA_ne (show 50 ≠ 49 by decide)]
  · rw [uA_ne h2, uA_ne h1]
  · rw [uA_ne (by decide), uA_eq]
    unfold upd
    rfl
  · rw [uA_eq]
    by_cases c : q = p / 4
    · subst c
      rw [upd_eq, if_pos ⟨hx, rfl⟩, l.2 _ hq, n_s]
    · rw [upd_ne c, if_neg (fun z => c z.2.symm)]
      exact l.2 q hq
theorem m_burnLooked {p : Nat} {T : Tn} (l : LkT A T) : LkT (upA A 49 (upd (A 49) p 0)) (rzT T p) := by
  refine l.ev (fun q hq => ?_) (fun q hq => ?_)
  · rw [uA_eq]
    unfold upd
    rfl
  · rw [uA_ne (by decide), if_neg (fun z => z.1 rfl)]
    exact l.2 q hq
theorem m_empty0 {k f : Nat} : LkT (emp A) (mE k f) := ⟨fun p hp => emp_at.2.1 p hp, fun q hq => emp_at.2.2 q hq⟩
theorem m_replay {k f : Nat} {T : Tn} (hk : k ≤ 7) (hf : f ≤ 9) (w : Wf T) (mo : MoRep A V T) : ∃ A', f_X11_replay (mk A V R B J) 45 (nN k) (nN f) = some (mk A' V R B J) ∧ ((∀ a, a ≠ 49 → a ≠ 50 → A' a = A a) ∧ LkT A' (tr k f (tP T) (tH T) (tE T))) := by
  have hE30 := w.2.2.1.1
  have key : ∃ y, f_X11_replay_6 45 10000 (mk (emp A) V R B J) (nN k) (nN f) (nN 0) = some y ∧ ∃ A', y = mk A' V R B J ∧ ((∀ a, a ≠ 49 → a ≠ 50 → A' a = A a) ∧ LkT A' (tr k f (tP T) (tH T) (tE T))) := by
    refine lpF (fun n (s : Nat → Nat → Int32) i => f_X11_replay_6 45 n (mk s V R B J) (nN k) (nN f) i) (fun i s => (∀ a, a ≠ 49 → a ≠ 50 → s a = A a) ∧ LkT s (tr k f (tP T) (tH T) i)) (fun y => ∃ A', y = mk A' V R B J ∧ ((∀ a, a ≠ 49 → a ≠ 50 → A' a = A a) ∧ LkT A' (tr k f (tP T) (tH T) (tE T)))) (tE T) (i := 0) (s := emp A) (by omega) (by omega) ⟨emp_at.1, m_empty0⟩ ?_ ?_
    · rintro n i s hi ⟨f2, s2⟩
      refine Or.inr ?_
      obtain ⟨w2, k1, k2, k3, k4⟩ := tr_ok hk hf w.2.2.1 i (by omega)
      obtain ⟨g1, g2, g3⟩ := w.2.2.1.2 i hi
      have g30 : i < 30 := by omega
      obtain ⟨v5, v6⟩ := mo.2.1 i hi
      rw [← f2 46 (by decide) (by decide)] at v5
      rw [← f2 47 (by decide) (by decide)] at v6
      have hs : tr k f (tP T) (tH T) (i + 1) = if tH T i = 0 then rzT (tr k f (tP T) (tH T) i) (tP T i) else rsT (tr k f (tP T) (tH T) i) (tP T i) (tH T i) := rfl
      rw [hs, f_X11_replay_6, gm_2, Option.bind_some, mo.1.2.2, if_neg (le_n hi (by omega)), gm_4, Option.bind_some, am_47, ib30 g30, if_pos rfl, Option.bind_some, c30 g30, v6]
      unfold f_X11_replay_56
      by_cases c : tH T i = 0
      · rw [if_pos (le0_y c), if_pos c, gm_7, Option.bind_some, gm_3, Option.bind_some, am_46, ib30 g30, if_pos rfl, Option.bind_some, c30 g30, v5, wm_49, ib12 g1, if_pos rfl, Option.bind_some, c12 g1]
        exact ⟨_, rfl, fun a h1 h2 => (uA_ne h1).trans (f2 a h1 h2), m_burnLooked s2⟩
      · obtain ⟨A', e1, f3, s3⟩ := m_buildLooked (V := V) (R := R) (B := B) (J := J) (p := tP T i) w2 s2 k1 k2 g1 c
        rw [if_neg (le0_n c (by omega)), if_neg c, gm_3, Option.bind_some, am_46, ib30 g30, if_pos rfl, Option.bind_some, c30 g30, v5, Option.bind_some, am_47, ib30 g30, if_pos rfl, Option.bind_some, c30 g30, v6, rm, Option.bind_some, e1, Option.bind_some]
        exact ⟨_, rfl, fun a h1 h2 => (f3 a h1 h2).trans (f2 a h1 h2), s3⟩
    · rintro n s ⟨f2, s2⟩
      refine ⟨mk s V R B J, ?_, s, rfl, f2, s2⟩
      rw [f_X11_replay_6, gm_2, Option.bind_some, mo.1.2.2, if_pos (Int32.le_refl _)]
  obtain ⟨y, e2, A', rfl, f2, s2⟩ := key
  refine ⟨A', ?_, f2, s2⟩
  unfold f_X11_replay
  rw [rm, Option.bind_some, m_empty, Option.bind_some]
  exact e2
end THR
