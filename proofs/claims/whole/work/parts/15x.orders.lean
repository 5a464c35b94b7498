/-! orders -/
section ORD
variable {A V : Nat → Nat → Int32} {R : Nat → Nat → Option Nat} {B : Nat → Nat → Int64} {J : List En}
theorem hn_res {N : Nat → Nat} {P : Nat → Bool} (hP : ∀ p, P p = true ↔ N p ≠ 0) : ∀ q, ((List.range q).filter P).length = hn N q ∧ ∀ i, i < hn N q → N (((List.range q).filter P).getD i 0) ≠ 0 ∧ (hn N (((List.range q).filter P).getD i 0) = i ∧ ((List.range q).filter P).getD i 0 < q)
  | 0 => ⟨rfl, fun i hi => absurd hi (Nat.not_lt_zero i)⟩
  | q + 1 => by
    obtain ⟨h1, h2⟩ := hn_res hP q
    have e : hn N (q + 1) = hn N q + (if N q = 0 then 0 else 1) := rfl
    have app : ∀ (l m : List Nat) (i : Nat), i < l.length → (l ++ m).getD i 0 = l.getD i 0 := fun l m i hi => by
      rw [List.getD_eq_getElem?_getD, List.getD_eq_getElem?_getD, List.getElem?_append_left hi]
    rw [List.range_succ, List.filter_append, e]
    by_cases c : N q = 0
    · have c' : ¬ P q = true := fun z => (hP q).mp z c
      rw [if_pos c, List.filter_cons_of_neg c', List.filter_nil, List.append_nil]
      exact ⟨h1, fun i hi => ⟨(h2 i hi).1, (h2 i hi).2.1, by have := (h2 i hi).2.2; omega⟩⟩
    · rw [if_neg c, List.filter_cons_of_pos ((hP q).mpr c), List.filter_nil]
      refine ⟨by rw [List.length_append, h1]; rfl, fun i hi => ?_⟩
      by_cases d : i < hn N q
      · rw [app _ _ i (by omega)]
        exact ⟨(h2 i d).1, (h2 i d).2.1, by have := (h2 i d).2.2; omega⟩
      · have ei : i = hn N q := by omega
        have e2 : ((List.range q).filter P ++ [q]).getD i 0 = q := by
          rw [List.getD_eq_getElem?_getD, List.getElem?_append_right (by omega), h1, ei, Nat.sub_self]
          rfl
        rw [e2]
        exact ⟨c, ei.symm, by omega⟩
theorem m_40 {n : Nat} {x1 : Int32} (hn : n ≤ 7) : ∃ s, f_X11_orders_40 45 10000 (mk A V R B J) x1 (nN n) 0 (-4) 0 = f_X11_orders_64 45 10000 (mk (upA A 59 s) V R B J) x1 (nN n) (nN 0) (-4) 1 ∧ ∀ i, i < n → s i = nN i := by
  have key : ∃ s, f_X11_orders_40 45 10000 (mk (upA A 59 (A 59)) V R B J) x1 (nN n) 0 (-4) (nN 0) = f_X11_orders_64 45 10000 (mk (upA A 59 s) V R B J) x1 (nN n) (nN 0) (-4) 1 ∧ ∀ i, i < n → s i = nN i := by
    refine lpE (fun m (s : Nat → Int32) i => f_X11_orders_40 45 m (mk (upA A 59 s) V R B J) x1 (nN n) 0 (-4) i) (fun i s => ∀ j, j < i → s j = nN j) (fun o => ∃ s, o = f_X11_orders_64 45 10000 (mk (upA A 59 s) V R B J) x1 (nN n) (nN 0) (-4) 1 ∧ ∀ i, i < n → s i = nN i) n (i := 0) (s := A 59) (by omega) (by omega) (fun j hj => absurd hj (Nat.not_lt_zero j)) ?_ ?_
    · intro m i s hi hs
      refine Or.inr ⟨upd s i (nN i), ?_, fun j hj => ?_⟩
      · rw [f_X11_orders_40, if_neg (le_n hi (by omega)), gm_26, Option.bind_some, wm_59, ib7 (by omega), if_pos rfl, Option.bind_some, c7 (by omega), uA_uA, uA_eq]
      · by_cases c : j = i
        · rw [c, upd_eq]
        · rw [upd_ne c]
          exact hs j (by omega)
    · intro m s hs
      refine ⟨s, ?_, hs⟩
      rw [f_X11_orders_40, if_pos (Int32.le_refl _)]
      rfl
  rw [uA_id] at key
  exact key
theorem lp_hd {α : Type} : ∀ (n : Nat) (l : List α), l.length = n → ∃ r, lpO n l = l :: r
  | 0, l, h => ⟨[], by rw [List.eq_nil_of_length_eq_zero h]; rfl⟩
  | n + 1, [], h => by cases h
  | n + 1, x :: xs, h => by
    obtain ⟨r, e⟩ := lp_hd n xs (Nat.succ.inj h)
    refine ⟨r.map (fun s => x :: s) ++ ((pkO xs).map (fun q => (q.1, x :: q.2))).flatMap (fun q => (lpO n q.2).map (fun s => q.1 :: s)), ?_⟩
    show ((x, xs) :: (pkO xs).map (fun q => (q.1, x :: q.2))).flatMap (fun q => (lpO n q.2).map (fun s => q.1 :: s)) = _
    rw [List.flatMap_cons]
    show (lpO n xs).map (fun s => x :: s) ++ _ = _
    rw [e]
    rfl
def fctO : Nat → Nat
  | 0 => 1
  | n + 1 => (n + 1) * fctO n
theorem fm_len {α β : Type} {f : α → List β} {k : Nat} : ∀ a : List α, (∀ q, q ∈ a → (f q).length ≤ k) → (a.flatMap f).length ≤ a.length * k
  | [], _ => Nat.zero_le _
  | q :: a, h => by
    have h1 := fm_len a (fun q' hq => h q' (List.mem_cons_of_mem _ hq))
    have h2 := h q (List.mem_cons_self ..)
    rw [List.flatMap_cons, List.length_append, List.length_cons, Nat.succ_mul]
    omega
theorem lp_len {α : Type} : ∀ (n : Nat) (l : List α), l.length = n → (lpO n l).length ≤ fctO n
  | 0, _, _ => Nat.le_refl _
  | n + 1, l, h => by
    have hp : (pkO l).length = n + 1 := by
      have := congrArg List.length (pk_fst l)
      rw [List.length_map, h] at this
      exact this
    have h1 := fm_len (f := fun q : α × List α => (lpO n q.2).map (fun s => q.1 :: s)) (k := fctO n) (pkO l) (fun q hq => by
      rw [List.length_map]
      exact lp_len n q.2 (by have := (pk_mem l q hq).2.2; omega))
    rw [hp] at h1
    exact h1
theorem fdI_map {T M : Tn} {pl : Nat → Nat} {e : Int32} {n : Nat} (h1 : 1 ≤ n) : ∀ l : List (List Nat), (∀ q, q ∈ l → q.length = n) → fdI (fun q => ckO T M (q.map pl)) pl e l = fdO T M e (l.map (fun q => q.map pl))
  | [], _ => rfl
  | s :: l, h => by
    have hs := h s (List.mem_cons_self ..)
    show (if ckO T M (s.map pl) = true then nN (pl (s.headD 0)) else fdI _ pl e l) = (if ckO T M (s.map pl) = true then nN ((s.map pl).headD 0) else fdO T M e (l.map (fun q => q.map pl)))
    rw [fdI_map h1 l (fun q hq => h q (List.mem_cons_of_mem _ hq))]
    cases s with
    | nil => rw [List.length_nil] at hs; omega
    | cons x s => rfl
theorem m_orders {T : Tn} {n what : Nat} (wT : Wf T) (mo : MoRep A V T) (hn' : hn (tN T) 12 = n) (hn7 : n ≤ 7) (hw : what ≤ 1) : ∃ A' y, f_X11_orders (mk A V R B J) 45 (nN what) = some (y, mk A' (upV V 45 6 0) R B J) ∧ ((∀ a, a ≠ 49 → a ≠ 50 → a ≠ 58 → a ≠ 59 → A' a = A a) ∧ ((what = 0 ∧ y = nN (cnO T n (mE (tK T) (tF T)))) ∨ (what = 1 ∧ ((∃ p, p < 12 ∧ (gdO T n p (mE (tK T) (tF T)) ∧ ((∀ q, q < p → ¬ gdO T n q (mE (tK T) (tF T))) ∧ y = nN p))) ∨ ((∀ p, p < 12 → ¬ gdO T n p (mE (tK T) (tF T))) ∧ y = -4))))) := by
  have hP : ∀ p, (decide (tN T p ≠ 0) && decide (tN (mE (tK T) (tF T)) p = 0)) = true ↔ tN T p ≠ 0 := fun p => by
    rw [Bool.and_eq_true, decide_eq_true_eq, decide_eq_true_eq]
    exact ⟨fun z => z.1, fun z => ⟨z, rfl⟩⟩
  obtain ⟨r1, r2⟩ := hn_res hP 12
  have rl : (resO T (mE (tK T) (tF T))).length = n := r1.trans hn'
  rw [hn'] at r2
  have rpl : ∀ i, i < n → tN T ((resO T (mE (tK T) (tF T))).getD i 0) ≠ 0 ∧ (hn (tN T) ((resO T (mE (tK T) (tF T))).getD i 0) = i ∧ (resO T (mE (tK T) (tF T))).getD i 0 < 12) := r2
  obtain ⟨s0, e1, h58⟩ := m_houses (A := A) (V := upV V 45 6 0) (R := R) (B := B) (J := J) (N := tN T) (fun p hp => ⟨wT.num p hp, mo.2.2 p hp⟩)
  rw [hn'] at e1
  obtain ⟨s1, e2, h59⟩ := m_40 (A := upA A 58 s0) (V := upV V 45 6 0) (R := R) (B := B) (J := J) (x1 := nN what) hn7
  have mo1 : MoRep (upA (upA A 58 s0) 59 s1) (upV V 45 6 0) T := mo.thr.cong ⟨(uA_ne (by decide)).trans (uA_ne (by decide)), (uA_ne (by decide)).trans (uA_ne (by decide)), (uA_ne (by decide)).trans (uA_ne (by decide))⟩ ⟨rfl, rfl, rfl⟩
  have wM : Wf (mE (tK T) (tF T)) := mE_wf wT.1 wT.2.1
  obtain ⟨r, el⟩ := lp_hd n (List.range n) (by rw [List.length_range])
  obtain ⟨s, hsr⟩ : ∃ s, s = List.range n := ⟨_, rfl⟩
  have hs : ∀ i, i < n → fnL s i = i := fun i hi => by
    rw [hsr]
    unfold fnL
    rw [List.getD_eq_getElem?_getD, List.getElem?_range hi]
    rfl
  have el : lpO n (List.range n) = s :: r := by rw [hsr]; exact el
  have hch := ch_all hn7
  rw [el] at hch
  have hall : ∀ q, q ∈ s :: r → q.length = n ∧ (q.Nodup ∧ ∀ x, x ∈ q → x < n) := fun q hq => by
    rw [← el] at hq
    obtain ⟨a, b⟩ := lp_mem n (List.range n) (by rw [List.length_range]) q hq
    exact ⟨a, lp_nod n _ (by rw [List.length_range]) List.nodup_range q hq, fun x hx => List.mem_range.mp (b x hx)⟩
  have hlen : (lpO n (List.range n)).length ≤ 5040 := by
    have h1 := lp_len n (List.range n) (by rw [List.length_range])
    have h2 : ∀ m, m < 8 → fctO m ≤ 5040 := by decide
    exact Nat.le_trans h1 (h2 n (by omega))
  rw [el, List.length_cons] at hlen
  obtain ⟨A', f1, e3⟩ := m_64 (R := R) (B := B) (J := J) (pl := fun i => (resO T (mE (tK T) (tF T))).getD i 0) wT hn7 rfl (fun i hi => ⟨(rpl i hi).2.2, (rpl i hi).1⟩) (fun i j hi hj hij => by rw [← (rpl i hi).2.1, ← (rpl j hj).2.1, hij]) hw r.length r rfl s 0 10000 (-4) (upA (upA A 58 s0) 59 s1) mo1 (fun i hi => by
    obtain ⟨g1, g2, g3⟩ := rpl i hi
    rw [uA_ne (by decide), uA_eq]
    have := h58 _ g3 g1
    rwa [g2] at this) (fun i hi => by rw [uA_eq, h59 i hi, hs i hi]) hch hall (by omega) (by omega)
  have emap : (List.range n).map (fun i => (resO T (mE (tK T) (tF T))).getD i 0) = resO T (mE (tK T) (tF T)) := by
    refine List.ext_getElem (by rw [List.length_map, List.length_range, rl]) (fun i h1 h2 => ?_)
    rw [List.getElem_map, List.getElem_range, List.getD_eq_getElem?_getD, List.getElem?_eq_getElem h2]
    rfl
  have elp : lpO n (resO T (mE (tK T) (tF T))) = (s :: r).map (fun q => q.map (fun i => (resO T (mE (tK T) (tF T))).getD i 0)) := by
    rw [← el, ← lp_map, emap]
  refine ⟨A', if what = 0 then nN (0 + (s :: r).countP (fun q => ckO T (mE (tK T) (tF T)) (q.map (fun i => (resO T (mE (tK T) (tF T))).getD i 0)))) else if 0 = 0 ∧ 0 < n then fdI (fun q => ckO T (mE (tK T) (tF T)) (q.map (fun i => (resO T (mE (tK T) (tF T))).getD i 0))) (fun i => (resO T (mE (tK T) (tF T))).getD i 0) (-4) (s :: r) else -4, ?_, fun a q1 q2 q3 q4 => (f1 a q1 q2 q4).trans ((uA_ne q4).trans (uA_ne q3)), ?_⟩
  · unfold f_X11_orders
    rw [pm_6, Option.bind_some, m_in01, Option.bind_some, if_pos (show (0 : Int32) ≤ nN what ∧ nN what ≤ 1 from ⟨le_y (Nat.zero_le _) (by omega), le_y hw (by decide)⟩), if_neg (by decide), rm, Option.bind_some, e1, Option.bind_some, if_pos (show nN n ≤ 7 from le_y hn7 (by decide))]
    exact e2.trans e3
  · have ec := cn_eq wT n (mE (tK T) (tF T)) wM (by show 0 + n ≤ 8; omega) rl
    rw [elp, List.countP_map] at ec
    by_cases w0 : what = 0
    · refine Or.inl ⟨w0, ?_⟩
      rw [if_pos w0, Nat.zero_add, ec]
      rfl
    · refine Or.inr ⟨by omega, ?_⟩
      rw [if_neg w0]
      by_cases n0 : 0 < n
      · rw [if_pos ⟨rfl, n0⟩, fdI_map n0 _ (fun q hq => (hall q hq).1), ← elp]
        exact fd_gd wT wM (by show 0 + n ≤ 8; omega) rl n0
      · rw [if_neg (fun z => n0 z.2)]
        refine Or.inr ⟨fun p hp hg => ?_, rfl⟩
        have hm : p ∈ resO T (mE (tK T) (tF T)) := resO_mem.mpr ⟨hp, (oK_t.mp hg.1).1, rfl⟩
        have hnil : resO T (mE (tK T) (tF T)) = [] := List.eq_nil_of_length_eq_zero (by omega)
        rw [hnil] at hm
        cases hm
theorem op_16 (x1 : Int32) : Ok2 (fun h => f_X10_orders h 0 x1) (fun h => f_X11_orders h 45 x1) := by
  intro A V R B J h
  have h0 := h
  obtain ⟨⟨T, w, st, mo⟩, -⟩ := h0
  rcases rng x1 0 1 (by decide) (by decide) with ⟨what, -, hw, rfl⟩ | c1
  · have hh := c_housesN (V := V) (R := R) (B := B) (J := J) isT (fun p hp => ⟨w.num p hp, st.2.2.2.1 p hp⟩)
    have hle := hn_le (tN T) 12
    have n0 : ¬ nN what < 0 := n_lt0 what (by omega)
    have n1 : nN what ≤ 1 := le_y hw (by decide)
    by_cases c7 : hn (tN T) 12 ≤ 7
    · have hr : LawAt J (R 1 9) (tK T) (tF T) := st.2.2.2.2.2
      obtain ⟨A1, e1, fA, s1⟩ := c_clear (A := A) (V := V) (R := R) (B := B) isM hr
      have f1 : FrmM A V R A1 (upV (upV V 10 7 0) 10 8 0) (upR R 10 9 (R 1 9)) :=
        ⟨fun a h => fA a (by omega), fun a k h => (uV_ne (fun q => h q.1)).trans (uV_ne (fun q => h q.1)), fun a k h => if_neg (fun q => h q.1)⟩
      have wM : Wf (mE (tK T) (tF T)) := mE_wf w.1 w.2.1
      have sT1 : StRep A1 (upV (upV V 10 7 0) 10 8 0) (upR R 10 9 (R 1 9)) (J ++ []) 1 T := st.mind (Or.inl rfl) f1
      rw [List.append_nil] at sT1
      have pre : ∀ y : Option (Int32 × Hp), (if nN what = 0 then (f_X10_ordersFrom 9 (mk A1 (upV (upV V 10 7 0) 10 8 0) (upR R 10 9 (R 1 9)) B J) (some 10) (some 1) (nN (hn (tN T) 12))).bind (fun q55 => some (q55.1, q55.2)) else (f_X10_firstInOrder (mk A1 (upV (upV V 10 7 0) 10 8 0) (upR R 10 9 (R 1 9)) B J) 0 (nN (hn (tN T) 12))).bind (fun q63 => some (q63.1, q63.2))) = y → f_X10_orders (mk A V R B J) 0 (nN what) = y := fun y hy => by
        unfold f_X10_orders
        rw [if_neg n0, if_pos n1, go_0, Option.bind_some, rs isT, Option.bind_some, hh, Option.bind_some, if_pos (show nN (hn (tN T) 12) ≤ 7 from le_y c7 (by decide)), go_1, Option.bind_some, Option.bind_some, gs_9 isT, Option.bind_some, rs isM, Option.bind_some, e1, Option.bind_some, go_1, Option.bind_some, go_0, Option.bind_some, ro, Option.bind_some]
        exact hy
      rcases (show what = 0 ∨ what = 1 by omega) with w0 | w0
      · obtain ⟨A2, V2, e2, f2, -⟩ := c_orders (B := B) w (hn (tN T) 12) 9 (mE (tK T) (tF T)) A1 _ (by omega) wM (by show 0 + hn (tN T) 12 ≤ 8; omega) s1 sT1
        obtain ⟨A3, y, e3, f3, hy⟩ := m_orders (A := A2) (V := V2) (R := upR R 10 9 (R 1 9)) (B := B) (J := J) (what := what) w ((mo.mind f1).mind f2) rfl c7 hw
        have ey : y = nN (cnO T (hn (tN T) 12) (mE (tK T) (tF T))) := by
          rcases hy with ⟨-, hy⟩ | ⟨hx, -⟩
          · exact hy
          · omega
        subst ey
        have f4 : Frm A2 V2 (upR R 10 9 (R 1 9)) B A3 (upV V2 45 6 0) (upR R 10 9 (R 1 9)) B := ⟨fun a g => f3 a (fun q => g (by rw [q]; decide)) (fun q => g (by rw [q]; decide)) (fun q => g (by rw [q]; decide)) (fun q => g (by rw [q]; decide)), fun a k g => uV_ne (fun q => g (Or.inr ⟨q.1, by rw [q.2]; decide⟩)), fun _ _ _ => rfl, rfl⟩
        refine yes2 (fc := fun h => f_X10_orders h 0 (nN what)) (fm := fun h => f_X11_orders h 45 (nN what)) (pre _ ?_) e3 (h.frm [] ((f1.tr f2).frm.tr f4))
        rw [w0, if_pos (show nN 0 = 0 from rfl), e2, Option.bind_some]
      · obtain ⟨y', A2, V2, e2, f2, hy'⟩ := c_first (B := B) w wM rfl c7 (fun p hp hk => by
          have hk1 := (oK_t.mp hk).1
          have := hn_lt (tN T) hp hk1
          omega) s1 sT1
        obtain ⟨A3, y, e3, f3, hy⟩ := m_orders (A := A2) (V := V2) (R := upR R 10 9 (R 1 9)) (B := B) (J := J) (what := what) w ((mo.mind f1).mind f2) rfl c7 hw
        have ey : y' = y := by
          rcases hy with ⟨hx, -⟩ | ⟨-, hy⟩
          · omega
          · rcases hy' with ⟨p, p1, p2, p3, rfl⟩ | ⟨p1, rfl⟩
            · rcases hy with ⟨q, q1, q2, q3, rfl⟩ | ⟨q1, -⟩
              · rcases Nat.lt_trichotomy p q with c | c | c
                · exact absurd p2 (q3 p c)
                · rw [c]
                · exact absurd q2 (p3 q c)
              · exact absurd p2 (q1 p p1)
            · rcases hy with ⟨q, q1, q2, q3, rfl⟩ | ⟨-, hq⟩
              · exact absurd q2 (p1 q q1)
              · exact hq.symm
        subst ey
        have f4 : Frm A2 V2 (upR R 10 9 (R 1 9)) B A3 (upV V2 45 6 0) (upR R 10 9 (R 1 9)) B := ⟨fun a g => f3 a (fun q => g (by rw [q]; decide)) (fun q => g (by rw [q]; decide)) (fun q => g (by rw [q]; decide)) (fun q => g (by rw [q]; decide)), fun a k g => uV_ne (fun q => g (Or.inr ⟨q.1, by rw [q.2]; decide⟩)), fun _ _ _ => rfl, rfl⟩
        refine yes2 (fc := fun h => f_X10_orders h 0 (nN what)) (fm := fun h => f_X11_orders h 45 (nN what)) (pre _ ?_) e3 (h.frm [] ((f1.tr f2).frm.tr f4))
        rw [w0, if_neg (by decide), e2, Option.bind_some]
    · obtain ⟨s0, e1, -⟩ := m_houses (A := A) (V := upV V 45 6 0) (R := R) (B := B) (J := J) (N := tN T) (fun p hp => ⟨w.num p hp, mo.2.2 p hp⟩)
      refine yes2 (fc := fun h => f_X10_orders h 0 (nN what)) (fm := fun h => f_X11_orders h 45 (nN what)) (x := -2) (A1 := A) (V1 := V) (R1 := R) (B1 := B) (A2 := upA A 58 s0) (V2 := upV V 45 6 0) (R2 := R) (B2 := B) ?_ ?_ (h.frm [] (thr_frm.tr (Frm.a (by decide))))
      · show f_X10_orders (mk A V R B J) 0 (nN what) = _
        unfold f_X10_orders
        rw [if_neg n0, if_pos n1, go_0, Option.bind_some, rs isT, Option.bind_some, hh, Option.bind_some, if_neg (show ¬ nN (hn (tN T) 12) ≤ 7 from le_n (b := 7) (by omega) (by omega))]
      · show f_X11_orders (mk A V R B J) 45 (nN what) = _
        unfold f_X11_orders
        rw [pm_6, Option.bind_some, m_in01, Option.bind_some, if_pos (show (0 : Int32) ≤ nN what ∧ nN what ≤ 1 from ⟨le_y (Nat.zero_le _) (by omega), n1⟩), if_neg (by decide), rm, Option.bind_some, e1, Option.bind_some, if_neg (show ¬ nN (hn (tN T) 12) ≤ 7 from le_n (b := 7) (by omega) (by omega))]
  · refine no2 (fc := fun h => f_X10_orders h 0 x1) (fm := fun h => f_X11_orders h 45 x1) (x := -1) h ?_ ?_
    · show f_X10_orders (mk A V R B J) 0 x1 = _
      unfold f_X10_orders
      by_cases q : x1 < 0
      · rw [if_pos q]
      · rw [if_neg q, if_neg (show ¬ x1 ≤ 1 from fun q2 => c1 ⟨not_lt' q, q2⟩)]
    · show f_X11_orders (mk A V R B J) 45 x1 = _
      unfold f_X11_orders
      rw [pm_6, Option.bind_some, m_in01, Option.bind_some, if_neg (show ¬ ((0 : Int32) ≤ x1 ∧ x1 ≤ 1) from c1), if_pos rfl]
end ORD
