/-! orders: the model -/
section ORM
variable {A V : Nat → Nat → Int32} {R : Nat → Nat → Option Nat} {B : Nat → Nat → Int64} {J : List En}
theorem m_79 {T : Tn} {k64 : Hp → Int32 → Int32 → Int32 → Int32 → Int32 → Option (Int32 × Hp)} {x1 x3 x4 : Int32} {n : Nat} (wT : Wf T) (hn : n ≤ 7) : ∀ (r : List Nat) (i m : Nat) (M : Tn) (A : Nat → Nat → Int32), r.length < m → i + r.length = n → Wf M → tK M = tK T → tF M = tF T → tE M = i → LkT A M → MoRep A V T → (∀ p, p ∈ r → p < 12 ∧ (tN T p ≠ 0 ∧ tN M p = 0)) → r.Nodup → (∀ j, j < r.length → ∃ c, c < 7 ∧ (A 59 (i + j) = nN c ∧ A 58 c = nN (r.getD j 0))) → ∃ A', (∀ a, a ≠ 49 → a ≠ 50 → A' a = A a) ∧ f_X11_orders_79 45 k64 m (mk A V R B J) x1 (nN n) x3 x4 1 (nN i) = f_X11_orders_159 45 k64 (mk A' V R B J) x1 (nN n) x3 x4 (if ckO T M r = true then 1 else 0) := by
  intro r
  induction r with
  | nil =>
    intro i m M A hm hi wM hk hf hE lk mo hr hd hs
    obtain ⟨m, rfl⟩ : ∃ m', m = m' + 1 := ⟨m - 1, by omega⟩
    have e : i = n := hi
    refine ⟨A, fun _ _ _ => rfl, ?_⟩
    rw [f_X11_orders_79, e, if_pos (Int32.le_refl _)]
    rfl
  | cons p r ih =>
    intro i m M A hm hi wM hk hf hE lk mo hr hd hs
    rw [List.length_cons] at hm hi
    obtain ⟨m, rfl⟩ : ∃ m', m = m' + 1 := ⟨m - 1, by omega⟩
    obtain ⟨hp, n1, n2⟩ := hr p (List.mem_cons_self ..)
    obtain ⟨x1', x9⟩ := wT.hgt hp n1
    obtain ⟨c, c7', s59, s58⟩ := hs 0 (by rw [List.length_cons]; omega)
    have s59 : A 59 i = nN c := s59
    have s58 : A 58 c = nN p := s58
    have hE30 := wT.2.2.1.1
    have ho := (wT.2.2.2 p hp).1.mp n1
    have hlt := wT.hb p n1 hp
    have hb := numT_b wM hp x9 (by omega)
    have bT := wT.num p hp
    obtain ⟨A1, e1, f1, l1⟩ := m_buildLooked (V := V) (R := R) (B := B) (J := J) (x := hT T p) wM lk hk hf hp (by omega)
    have w1 := wM.rs hp x1' x9 (by omega) n2
    have mo1 : MoRep A1 V T := mo.cong ⟨f1 46 (by decide) (by decide), f1 47 (by decide) (by decide), f1 48 (by decide) (by decide)⟩ ⟨rfl, rfl, rfl⟩
    obtain ⟨hd1, hd2⟩ := List.nodup_cons.mp hd
    have n49 : A1 49 p = nN (numT M p (hT T p)) := (l1.1 p hp).trans (congrArg nN (upN_eq : upN (tN M) p (numT M p (hT T p)) p = _))
    have ck : ckO T M (p :: r) = (decide (numT M p (hT T p) = tN T p) && ckO T (rsT M p (hT T p)) r) := rfl
    have ei : nN i + 1 = nN (i + 1) := n_s i
    have pre : ∀ y : Option (Int32 × Hp), (if nN (numT M p (hT T p)) = nN (tN T p) then f_X11_orders_151 45 k64 (f_X11_orders_79 45 k64 m) (mk A1 V R B J) x1 (nN n) x3 x4 (nN i) 1 else f_X11_orders_151 45 k64 (f_X11_orders_79 45 k64 m) (mk A1 V R B J) x1 (nN n) x3 x4 (nN i) 0) = y → f_X11_orders_79 45 k64 (m + 1) (mk A V R B J) x1 (nN n) x3 x4 1 (nN i) = y := by
      intro y hy
      have v2 : V 45 2 = nN (tE T) := mo.1.2.2
      have h47 : A 47 (lst (tP T) p (tE T)) = nN (hT T p) := (mo.2.1 _ hlt).2
      rw [f_X11_orders_79, if_neg (le_n (by omega) (by omega)), if_neg (by decide), gm_25, Option.bind_some, gm_26, Option.bind_some, am_59, ib7 (by omega), if_pos rfl, Option.bind_some, c7 (by omega), s59, am_58, ib12 (by omega), if_pos rfl, Option.bind_some, c12 (by omega), s58, gm_0, Option.bind_some, gm_1, Option.bind_some, mo.1.1, mo.1.2.1, gm_4, Option.bind_some, rm, Option.bind_some, m_builtAt (P := tP T) hp hE30 v2 (fun e he => ⟨(wT.2.2.1.2 e he).1, (mo.2.1 e he).1⟩), Option.bind_some, bAt_lst (H := tH T) _ ho, am_47, ib30 (by omega), if_pos rfl, Option.bind_some, c30 (by omega), h47, Option.bind_some, e1, Option.bind_some, gm_7, Option.bind_some, am_49, ib12 hp, if_pos rfl, Option.bind_some, c12 hp, n49, gm_5, Option.bind_some, am_48, ib12 hp, if_pos rfl, Option.bind_some, c12 hp, mo1.2.2 p hp]
      exact hy
    by_cases z : numT M p (hT T p) = tN T p
    · obtain ⟨A2, f2, e2⟩ := ih (i + 1) m (rsT M p (hT T p)) A1 (by omega) (by omega) w1 hk hf (by show tE M + 1 = i + 1; rw [hE]) l1 mo1 (fun q hq => by
        obtain ⟨q1, q2, q3⟩ := hr q (List.mem_cons_of_mem _ hq)
        exact ⟨q1, q2, (upN_ne (fun z : q = p => hd1 (z ▸ hq))).trans q3⟩) hd2 (fun j hj => by
        obtain ⟨c, g1, g2, g3⟩ := hs (j + 1) (by rw [List.length_cons]; omega)
        refine ⟨c, g1, ?_, ?_⟩
        · rw [f1 59 (by decide) (by decide), show i + 1 + j = i + (j + 1) by omega]
          exact g2
        · rw [f1 58 (by decide) (by decide)]
          exact g3)
      refine ⟨A2, fun a q1 q2 => (f2 a q1 q2).trans (f1 a q1 q2), pre _ ?_⟩
      rw [if_pos (congrArg nN z), ck, decide_eq_true z, Bool.true_and]
      unfold f_X11_orders_151
      rw [ei]
      exact e2
    · refine ⟨A1, f1, pre _ ?_⟩
      rw [if_neg (eq_n' z (by omega) (by omega)), ck, decide_eq_false z, Bool.false_and, if_neg (show ¬ (false = true) by decide)]
      unfold f_X11_orders_151
      rw [ei]
      obtain ⟨m, rfl⟩ : ∃ m', m = m' + 1 := ⟨m - 1, by omega⟩
      rw [f_X11_orders_79]
      by_cases y : nN n ≤ nN (i + 1)
      · rw [if_pos y]
      · rw [if_neg y, if_pos rfl]
theorem m_159 {k64 : Hp → Int32 → Int32 → Int32 → Int32 → Int32 → Option (Int32 × Hp)} {x1 e : Int32} {n many c : Nat} {P : Prop} [Decidable P] (hn : n ≤ 7) (hm : many < 10000) (h0 : 0 < n → c < 7 ∧ A 59 0 = nN c) : f_X11_orders_159 45 k64 (mk A V R B J) x1 (nN n) (nN many) e (if P then 1 else 0) = f_X11_orders_201 45 k64 (mk A V R B J) x1 (nN n) (if P ∧ (many = 0 ∧ 0 < n) then A 58 c else e) (if P then 1 else 0) (nN many) := by
  have n1 : ¬ (1 : Int32) = 0 := by decide
  unfold f_X11_orders_159 f_X11_orders_186 f_X11_orders_188
  by_cases p : P
  · rw [if_pos p, if_neg n1]
    by_cases m0 : many = 0
    · rw [m0, if_pos (show nN 0 = 0 from rfl)]
      by_cases n0 : 0 < n
      · obtain ⟨g1, g2⟩ := h0 n0
        rw [if_neg (le0_n (by omega) (by omega)), gm_25, Option.bind_some, gm_26, Option.bind_some, am_59, show inB (0 : Int32) 7 = true from rfl, if_pos rfl, Option.bind_some, show (0 : Int32).toNatClampNeg = 0 from rfl, g2, am_58, ib12 (by omega), if_pos rfl, Option.bind_some, c12 (by omega), if_neg n1, if_pos ⟨p, rfl, n0⟩]
      · rw [if_pos (le0_y (by omega)), if_neg n1, if_neg (fun z => n0 z.2.2)]
    · rw [if_neg (n_ne0 m0 (by omega)), if_neg n1, if_neg (fun z => m0 z.2.1)]
  · rw [if_neg p, if_pos rfl, if_pos rfl, if_neg (fun z => p z.1)]
/-- the first order that fits: by places in the row of houses -/
def fdI (ck : List Nat → Bool) (pl : Nat → Nat) (e : Int32) : List (List Nat) → Int32
  | [] => e
  | s :: r => if ck s = true then nN (pl (s.headD 0)) else fdI ck pl e r
theorem nod_map {g : Nat → Nat} : ∀ l : List Nat, l.Nodup → (∀ x, x ∈ l → ∀ y, y ∈ l → g x = g y → x = y) → (l.map g).Nodup
  | [], _, _ => List.nodup_nil
  | x :: l, h, hi => by
    obtain ⟨h1, h2⟩ := List.nodup_cons.mp h
    refine List.nodup_cons.mpr ⟨fun hm => ?_, nod_map l h2 (fun a ha b hb => hi a (List.mem_cons_of_mem _ ha) b (List.mem_cons_of_mem _ hb))⟩
    obtain ⟨y, g1, g2⟩ := List.mem_map.mp hm
    exact h1 (hi x (List.mem_cons_self ..) y (List.mem_cons_of_mem _ g1) g2.symm ▸ g1)
theorem getD_map {g : Nat → Nat} : ∀ (l : List Nat) (j : Nat), j < l.length → (l.map g).getD j 0 = g (l.getD j 0)
  | [], j, h => absurd h (Nat.not_lt_zero j)
  | x :: l, 0, _ => rfl
  | x :: l, j + 1, h => getD_map l j (Nat.lt_of_succ_lt_succ h)
theorem getD_mem : ∀ (l : List Nat) (j : Nat), j < l.length → l.getD j 0 ∈ l
  | [], j, h => absurd h (Nat.not_lt_zero j)
  | x :: l, 0, _ => List.mem_cons_self ..
  | x :: l, j + 1, h => List.mem_cons_of_mem _ (getD_mem l j (Nat.lt_of_succ_lt_succ h))
theorem getD_range {g : Nat → Nat} {n i : Nat} (h : i < n) : fnL ((List.range n).map g) i = g i := by
  unfold fnL
  rw [getD_map _ _ (by rw [List.length_range]; exact h)]
  congr 1
  rw [List.getD_eq_getElem?_getD, List.getElem?_range h]
  rfl
theorem m_64 {T M0 : Tn} {pl : Nat → Nat} {n what : Nat} (wT : Wf T) (hn : n ≤ 7) (hM : M0 = mE (tK T) (tF T)) (hpl : ∀ i, i < n → pl i < 12 ∧ tN T (pl i) ≠ 0) (hinj : ∀ i j, i < n → j < n → pl i = pl j → i = j) (hw : what ≤ 1) : ∀ (k : Nat) (r : List (List Nat)), r.length = k → ∀ (s : List Nat) (many m : Nat) (e : Int32) (A : Nat → Nat → Int32), MoRep A V T → (∀ i, i < n → A 58 i = nN (pl i)) → (∀ i, i < n → A 59 i = nN (fnL s i)) → chE n (s :: r) none = true → (∀ q, q ∈ s :: r → q.length = n ∧ (q.Nodup ∧ ∀ x, x ∈ q → x < n)) → many + r.length + 2 ≤ 10000 → r.length + 2 ≤ m →
    ∃ A', (∀ a, a ≠ 49 → a ≠ 50 → a ≠ 59 → A' a = A a) ∧ f_X11_orders_64 45 m (mk A V R B J) (nN what) (nN n) (nN many) e 1 = some ((if what = 0 then nN (many + (s :: r).countP (fun q => ckO T M0 (q.map pl))) else if many = 0 ∧ 0 < n then fdI (fun q => ckO T M0 (q.map pl)) pl e (s :: r) else e), mk A' V R B J) := by
  intro k
  induction k using Nat.strongRecOn with
  | _ k ih =>
    intro r hk s many m e A mo h58 h59 hch hall hfu hm
    obtain ⟨m, rfl⟩ : ∃ m', m = m' + 1 := ⟨m - 1, by omega⟩
    obtain ⟨hsl, hsn, hsb⟩ := hall s (List.mem_cons_self ..)
    have f0 := (emp_at (A := A)).1
    have fb : ∀ j, j < n → fnL s j < n := fun j hj => hsb _ (getD_mem s j (by omega))
    have mo0 : MoRep (emp A) V T := mo.cong ⟨f0 46 (by decide) (by decide), f0 47 (by decide) (by decide), f0 48 (by decide) (by decide)⟩ ⟨rfl, rfl, rfl⟩
    have wM : Wf M0 := by rw [hM]; exact mE_wf wT.1 wT.2.1
    obtain ⟨A2, f2, e2⟩ := m_79 (R := R) (B := B) (J := J) (k64 := f_X11_orders_64 45 m) (x1 := nN what) (x3 := nN many) (x4 := e) wT hn (s.map pl) 0 10000 M0 (emp A) (by rw [List.length_map]; omega) (by rw [List.length_map]; omega) wM (by rw [hM]; rfl) (by rw [hM]; rfl) (by rw [hM]; rfl) (by rw [hM]; exact m_empty0) mo0 (fun p hp => by
      obtain ⟨x, g1, rfl⟩ := List.mem_map.mp hp
      exact ⟨(hpl x (hsb x g1)).1, (hpl x (hsb x g1)).2, by rw [hM]; rfl⟩) (nod_map s hsn (fun x hx y hy => hinj x y (hsb x hx) (hsb y hy))) (fun j hj => by
      rw [List.length_map] at hj
      have hb := fb j (by omega)
      refine ⟨fnL s j, by omega, ?_, ?_⟩
      · rw [f0 59 (by decide) (by decide), Nat.zero_add]
        exact h59 j (by omega)
      · rw [f0 58 (by decide) (by decide), h58 _ hb, getD_map _ _ hj]
        rfl)
    have r59 : ∀ i, i < n → A2 59 i = nN (fnL s i) := fun i hi => by
      rw [f2 59 (by decide) (by decide), f0 59 (by decide) (by decide)]
      exact h59 i hi
    have r58 : ∀ i, i < n → A2 58 i = nN (pl i) := fun i hi => by
      rw [f2 58 (by decide) (by decide), f0 58 (by decide) (by decide)]
      exact h58 i hi
    have e3 := m_159 (A := A2) (V := V) (R := R) (B := B) (J := J) (k64 := f_X11_orders_64 45 m) (x1 := nN what) (e := e) (n := n) (many := many) (c := fnL s 0) (P := ckO T M0 (s.map pl) = true) hn (by omega) (fun h0 => ⟨by have := fb 0 h0; omega, r59 0 h0⟩)
    have hstart : f_X11_orders_64 45 (m + 1) (mk A V R B J) (nN what) (nN n) (nN many) e 1 = f_X11_orders_201 45 (f_X11_orders_64 45 m) (mk A2 V R B J) (nN what) (nN n) (if ckO T M0 (s.map pl) = true ∧ (many = 0 ∧ 0 < n) then A2 58 (fnL s 0) else e) (if ckO T M0 (s.map pl) = true then 1 else 0) (nN many) := by
      rw [f_X11_orders_64, if_neg (by decide), rm, Option.bind_some, m_empty, Option.bind_some]
      exact e2.trans e3
    have emany : nN many + (if ckO T M0 (s.map pl) = true then 1 else 0) = nN (many + if ckO T M0 (s.map pl) = true then 1 else 0) := by
      by_cases c : ckO T M0 (s.map pl) = true
      · rw [if_pos c, if_pos c]
        exact n_s many
      · rw [if_neg c, if_neg c, Int32.add_zero, Nat.add_zero]
    have hch' : (decide (nxL n s = hdO r none) && chE n r none) = true := hch
    rw [Bool.and_eq_true, decide_eq_true_eq] at hch'
    obtain ⟨hnx, hcr⟩ := hch'
    have hcnt : (s :: r).countP (fun q => ckO T M0 (q.map pl)) = (if ckO T M0 (s.map pl) = true then 1 else 0) + r.countP (fun q => ckO T M0 (q.map pl)) := by
      by_cases c : ckO T M0 (s.map pl) = true
      · rw [List.countP_cons_of_pos (p := fun q => ckO T M0 (q.map pl)) (a := s) c, if_pos c]; omega
      · rw [List.countP_cons_of_neg (p := fun q => ckO T M0 (q.map pl)) (a := s) c, if_neg c]; omega
    have hfd : fdI (fun q => ckO T M0 (q.map pl)) pl e (s :: r) = if ckO T M0 (s.map pl) = true then nN (pl (s.headD 0)) else fdI (fun q => ckO T M0 (q.map pl)) pl e r := rfl
    have hhd : fnL s 0 = s.headD 0 := by
      cases s
      · rfl
      · rfl
    rw [hstart]
    unfold f_X11_orders_201
    rw [rm, Option.bind_some, emany]
    rcases m_next (A := A2) (V := V) (R := R) (B := B) (J := J) (n := n) (a := fnL s) (s := A2 59) hn (fun i hi => by have := fb i hi; omega) r59 with ⟨k1, k2⟩ | ⟨a', s', k1, k2, k3⟩
    · rw [uA_id] at k2
      have hr : r = [] := by
        have : nxL n s = none := by
          unfold nxL
          rw [k1]
        rw [this] at hnx
        cases r
        · rfl
        · cases hnx
      subst hr
      obtain ⟨m, rfl⟩ : ∃ m', m = m' + 1 := ⟨m - 1, by have : ([] : List (List Nat)).length = 0 := rfl; omega⟩
      refine ⟨A2, fun a q1 q2 q3 => (f2 a q1 q2).trans (f0 a q1 q2), ?_⟩
      rw [k2, Option.bind_some]
      dsimp only
      rw [f_X11_orders_64, if_pos rfl, hcnt, hfd]
      have z0 : ([] : List (List Nat)).countP (fun q => ckO T M0 (q.map pl)) = 0 := rfl
      rw [z0, Nat.add_zero]
      by_cases w0 : what = 0
      · rw [w0, if_pos (show nN 0 = 0 from rfl), if_pos rfl]
      · rw [if_neg (n_ne0 w0 (by omega)), if_neg w0]
        by_cases c : ckO T M0 (s.map pl) = true
        · by_cases d : many = 0 ∧ 0 < n
          · rw [if_pos ⟨c, d⟩, if_pos d, if_pos c, r58 _ (fb 0 d.2), hhd]
          · rw [if_neg (fun z => d z.2), if_neg d]
        · rw [if_neg (fun z => c z.1), if_neg c]
          by_cases d : many = 0 ∧ 0 < n
          · rw [if_pos d]
            rfl
          · rw [if_neg d]
    · rw [uA_id] at k2
      have hr : ∃ r', r = (List.range n).map a' :: r' := by
        have : nxL n s = some ((List.range n).map a') := by
          unfold nxL
          rw [k1]
        rw [this] at hnx
        cases r with
        | nil => cases hnx
        | cons b r' =>
          have hb : some ((List.range n).map a') = some b := hnx
          exact ⟨r', by rw [Option.some.inj hb]⟩
      obtain ⟨r', rfl⟩ := hr
      rw [List.length_cons] at hk hfu hm
      have hc1 : (if ckO T M0 (s.map pl) = true then 1 else 0) ≤ 1 := by split <;> omega
      obtain ⟨A3, f3, e4⟩ := ih r'.length (by omega) r' rfl ((List.range n).map a') (many + if ckO T M0 (s.map pl) = true then 1 else 0) m (if ckO T M0 (s.map pl) = true ∧ (many = 0 ∧ 0 < n) then A2 58 (fnL s 0) else e) (upA A2 59 s') (mo.cong ⟨(uA_ne (by decide)).trans ((f2 46 (by decide) (by decide)).trans (f0 46 (by decide) (by decide))), (uA_ne (by decide)).trans ((f2 47 (by decide) (by decide)).trans (f0 47 (by decide) (by decide))), (uA_ne (by decide)).trans ((f2 48 (by decide) (by decide)).trans (f0 48 (by decide) (by decide)))⟩ ⟨rfl, rfl, rfl⟩) (fun i hi => by rw [uA_ne (by decide)]; exact r58 i hi) (fun i hi => by rw [uA_eq, k3 i hi, getD_range hi]) hcr (fun q hq => hall q (List.mem_cons_of_mem _ hq)) (by omega) (by omega)
      refine ⟨A3, fun a q1 q2 q3 => (f3 a q1 q2 q3).trans ((uA_ne q3).trans ((f2 a q1 q2).trans (f0 a q1 q2))), ?_⟩
      rw [k2, Option.bind_some]
      dsimp only
      rw [e4, hcnt, hfd, ← Nat.add_assoc]
      by_cases w0 : what = 0
      · rw [if_pos w0, if_pos w0]
      · rw [if_neg w0, if_neg w0]
        by_cases c : ckO T M0 (s.map pl) = true
        · rw [if_pos c, if_neg (fun z => by have := z.1; omega), if_pos c]
          by_cases d : many = 0 ∧ 0 < n
          · rw [if_pos ⟨c, d⟩, if_pos d, r58 _ (fb 0 d.2), hhd]
          · rw [if_neg (fun z => d z.2), if_neg d]
        · rw [if_neg c, Nat.add_zero, if_neg (show ¬ (ckO T M0 (s.map pl) = true ∧ (many = 0 ∧ 0 < n)) from fun z => c z.1), if_neg c]
end ORM
