/-! orders: counting them -/
section ORN
/-- whether houses can be built so, one behind the other -/
def ckO (T : Tn) : Tn → List Nat → Bool
  | _, [] => true
  | M, p :: ps => decide (numT M p (hT T p) = tN T p) && ckO T (rsT M p (hT T p)) ps
theorem pk_fst {α : Type} : ∀ l : List α, (pkO l).map (fun q => q.1) = l
  | [] => rfl
  | x :: xs => by
    show x :: ((pkO xs).map (fun q => (q.1, x :: q.2))).map (fun q => q.1) = x :: xs
    rw [List.map_map]
    exact congrArg (fun l => x :: l) (pk_fst xs)
theorem pk_fil : ∀ (l : List Nat), l.Nodup → ∀ q, q ∈ pkO l → q.2 = l.filter (fun y => decide (y ≠ q.1))
  | [], _, q, h => by cases h
  | x :: xs, hn, q, h => by
    obtain ⟨h1, h2⟩ := List.nodup_cons.mp hn
    rcases List.mem_cons.mp h with rfl | h
    · show xs = (x :: xs).filter (fun y => decide (y ≠ x))
      rw [List.filter_cons_of_neg (by simp)]
      exact (List.filter_eq_self.mpr (fun y hy => by
        rw [decide_eq_true_eq]
        exact fun z => h1 (z ▸ hy))).symm
    · obtain ⟨q', g1, rfl⟩ := List.mem_map.mp h
      have hx : x ≠ q'.1 := fun z => h1 (z ▸ (pk_mem xs q' g1).1)
      show x :: q'.2 = (x :: xs).filter (fun y => decide (y ≠ q'.1))
      rw [List.filter_cons_of_pos (by rw [decide_eq_true_eq]; exact hx), pk_fil xs h2 q' g1]
theorem lp_nod : ∀ (n : Nat) (l : List Nat), l.length = n → l.Nodup → ∀ s, s ∈ lpO n l → s.Nodup
  | 0, l, _, _, s, h => by
    have h : s ∈ [[]] := h
    rw [List.mem_singleton] at h
    subst h
    exact List.nodup_nil
  | n + 1, l, hl, hn, s, h => by
    have h : s ∈ (pkO l).flatMap (fun q => (lpO n q.2).map (fun s => q.1 :: s)) := h
    obtain ⟨q, h1, h2⟩ := List.mem_flatMap.mp h
    obtain ⟨s', h3, rfl⟩ := List.mem_map.mp h2
    obtain ⟨a, b, c⟩ := pk_mem l q h1
    have e := pk_fil l hn q h1
    have hn2 : q.2.Nodup := by rw [e]; exact hn.filter _
    refine List.nodup_cons.mpr ⟨fun hx => ?_, lp_nod n q.2 (by omega) hn2 s' h3⟩
    have h4 := (lp_mem n q.2 (by omega) s' h3).2 _ hx
    rw [e] at h4
    have h5 := (List.mem_filter.mp h4).2
    rw [decide_eq_true_eq] at h5
    exact h5 rfl
/-- the houses that can still be built -/
def resO (T M : Tn) : List Nat := (List.range 12).filter (fun p => decide (tN T p ≠ 0) && decide (tN M p = 0))
theorem resO_mem {T M : Tn} {p : Nat} : p ∈ resO T M ↔ p < 12 ∧ (tN T p ≠ 0 ∧ tN M p = 0) := by
  unfold resO
  rw [List.mem_filter, List.mem_range, Bool.and_eq_true, decide_eq_true_eq, decide_eq_true_eq]
theorem resO_nod {T M : Tn} : (resO T M).Nodup := List.nodup_range.filter _
theorem resO_rs {T M : Tn} {x : Nat} {n h : Nat} (hn : n ≠ 0) : resO T (evT M x h n) = (resO T M).filter (fun y => decide (y ≠ x)) := by
  unfold resO
  rw [List.filter_filter]
  congr 1
  funext p
  show (decide (tN T p ≠ 0) && decide (upN (tN M) x n p = 0)) = (decide (p ≠ x) && (decide (tN T p ≠ 0) && decide (tN M p = 0)))
  by_cases c : p = x
  · rw [c, upN_eq, decide_eq_false hn, decide_eq_false (fun z : x ≠ x => z rfl), Bool.and_false, Bool.false_and]
  · rw [upN_ne c, decide_eq_true (show p ≠ x from c), Bool.true_and]
theorem sum_fil {P : Nat → Bool} {G : Nat → Nat} : ∀ q, (((List.range q).filter P).map G).sum = sumP (fun p => if P p = true then G p else 0) q
  | 0 => rfl
  | q + 1 => by
    show _ = sumP (fun p => if P p = true then G p else 0) q + (if P q = true then G q else 0)
    rw [List.range_succ, List.filter_append, List.map_append, List.sum_append, sum_fil q]
    by_cases c : P q = true
    · rw [if_pos c, List.filter_cons_of_pos c]
      rfl
    · rw [if_neg c, List.filter_cons_of_neg c]
      rfl
theorem sumP_c {F G : Nat → Nat} : ∀ q, (∀ p, p < q → F p = G p) → sumP F q = sumP G q
  | 0, _ => rfl
  | q + 1, h => by
    show sumP F q + F q = sumP G q + G q
    rw [sumP_c q (fun p hp => h p (by omega)), h q (by omega)]
theorem ck_blk {T M : Tn} {x : Nat} {l : List (List Nat)} : (l.map (fun s => x :: s)).countP (ckO T M) = if numT M x (hT T x) = tN T x then l.countP (ckO T (rsT M x (hT T x))) else 0 := by
  rw [List.countP_map]
  by_cases c : numT M x (hT T x) = tN T x
  · rw [if_pos c]
    congr 1
    funext s
    show (decide (numT M x (hT T x) = tN T x) && ckO T (rsT M x (hT T x)) s) = _
    rw [decide_eq_true c, Bool.true_and]
  · rw [if_neg c]
    have : (ckO T M ∘ fun s => x :: s) = fun _ => false := by
      funext s
      show (decide (numT M x (hT T x) = tN T x) && ckO T (rsT M x (hT T x)) s) = false
      rw [decide_eq_false c, Bool.false_and]
    rw [this]
    exact List.countP_eq_zero.mpr (fun a _ => by simp)
theorem cn_eq {T : Tn} (wT : Wf T) : ∀ (l : Nat) (M : Tn), Wf M → tE M + l ≤ 8 → (resO T M).length = l → cnO T l M = (lpO l (resO T M)).countP (ckO T M)
  | 0, M, _, _, _ => rfl
  | l + 1, M, wM, hE, hl => by
    show sumP _ 12 = ((pkO (resO T M)).flatMap (fun q => (lpO l q.2).map (fun s => q.1 :: s))).countP (ckO T M)
    rw [List.countP_flatMap]
    have e1 : (pkO (resO T M)).map (List.countP (ckO T M) ∘ fun q => (lpO l q.2).map (fun s => q.1 :: s)) = (pkO (resO T M)).map (fun q => if numT M q.1 (hT T q.1) = tN T q.1 then cnO T l (rsT M q.1 (hT T q.1)) else 0) := by
      refine List.map_congr_left (fun q hq => ?_)
      obtain ⟨a, -, c⟩ := pk_mem _ q hq
      obtain ⟨hp, n1, n2⟩ := resO_mem.mp a
      obtain ⟨x1, x9⟩ := wT.hgt hp n1
      have hb := numT_b wM hp x9 (by omega)
      have ef : resO T (rsT M q.1 (hT T q.1)) = q.2 := by
        rw [pk_fil _ resO_nod q hq]
        exact resO_rs (by omega)
      show ((lpO l q.2).map (fun s => q.1 :: s)).countP (ckO T M) = _
      rw [ck_blk]
      by_cases z : numT M q.1 (hT T q.1) = tN T q.1
      · rw [if_pos z, if_pos z, cn_eq wT l (rsT M q.1 (hT T q.1)) (wM.rs hp x1 x9 (by omega) n2) (by show tE M + 1 + l ≤ 8; omega) (by rw [ef]; omega), ef]
      · rw [if_neg z, if_neg z]
    rw [e1]
    have e2 : (pkO (resO T M)).map (fun q => if numT M q.1 (hT T q.1) = tN T q.1 then cnO T l (rsT M q.1 (hT T q.1)) else 0) = (resO T M).map (fun x => if numT M x (hT T x) = tN T x then cnO T l (rsT M x (hT T x)) else 0) := by
      have := congrArg (List.map (fun x => if numT M x (hT T x) = tN T x then cnO T l (rsT M x (hT T x)) else 0)) (pk_fst (resO T M))
      rw [List.map_map] at this
      exact this
    rw [e2]
    unfold resO
    rw [sum_fil]
    refine sumP_c 12 (fun p hp => ?_)
    by_cases c : oK T M p = true
    · obtain ⟨k1, k2, k3⟩ := oK_t.mp c
      rw [if_pos c, if_pos (by rw [Bool.and_eq_true, decide_eq_true_eq, decide_eq_true_eq]; exact ⟨k1, k2⟩), if_pos k3]
    · rw [if_neg c]
      by_cases d : (decide (tN T p ≠ 0) && decide (tN M p = 0)) = true
      · rw [if_pos d]
        rw [Bool.and_eq_true, decide_eq_true_eq, decide_eq_true_eq] at d
        rw [if_neg (fun z => c (oK_t.mpr ⟨d.1, d.2, z⟩))]
      · rw [if_neg d]
/-- the first house in the first order that fits -/
def fdO (T M : Tn) (e : Int32) : List (List Nat) → Int32
  | [] => e
  | s :: r => if ckO T M s = true then nN (s.headD 0) else fdO T M e r
def ffO (g : Nat → Bool) (e : Int32) : List Nat → Int32
  | [] => e
  | x :: r => if g x = true then nN x else ffO g e r
theorem fdO_blk {T M : Tn} {e : Int32} {x : Nat} {r : List (List Nat)} : ∀ (l : List (List Nat)), fdO T M e (l.map (fun s => x :: s) ++ r) = if numT M x (hT T x) = tN T x ∧ 0 < l.countP (ckO T (rsT M x (hT T x))) then nN x else fdO T M e r
  | [] => by
    rw [if_neg (fun z => Nat.lt_irrefl 0 z.2)]
    rfl
  | s :: l => by
    show (if (decide (numT M x (hT T x) = tN T x) && ckO T (rsT M x (hT T x)) s) = true then nN x else fdO T M e (l.map (fun s => x :: s) ++ r)) = _
    rw [fdO_blk l]
    have hk : (decide (numT M x (hT T x) = tN T x) && ckO T (rsT M x (hT T x)) s) = true ↔ numT M x (hT T x) = tN T x ∧ ckO T (rsT M x (hT T x)) s = true := by
      rw [Bool.and_eq_true, decide_eq_true_eq]
    by_cases c : numT M x (hT T x) = tN T x
    · by_cases d : ckO T (rsT M x (hT T x)) s = true
      · rw [if_pos (hk.mpr ⟨c, d⟩), if_pos ⟨c, by rw [List.countP_cons_of_pos d]; omega⟩]
      · rw [if_neg (fun z => d (hk.mp z).2), List.countP_cons_of_neg d]
    · rw [if_neg (fun z => c (hk.mp z).1), if_neg (fun z => c z.1), if_neg (fun z => c z.1)]
theorem ffO_app {g : Nat → Bool} {e : Int32} : ∀ (a b : List Nat), ffO g e (a ++ b) = ffO g (ffO g e b) a
  | [], b => rfl
  | x :: a, b => by
    show (if g x = true then nN x else ffO g e (a ++ b)) = (if g x = true then nN x else ffO g (ffO g e b) a)
    rw [ffO_app a b]
theorem ffO_n {g : Nat → Bool} {e : Int32} : ∀ (a : List Nat), (∀ x, x ∈ a → g x = false) → ffO g e a = e
  | [], _ => rfl
  | x :: a, h => by
    show (if g x = true then nN x else ffO g e a) = e
    rw [if_neg (by rw [h x (List.mem_cons_self ..)]; decide)]
    exact ffO_n a (fun y hy => h y (List.mem_cons_of_mem _ hy))
theorem ffO_fil {g P : Nat → Bool} : ∀ q, (∃ p, p < q ∧ ((P p = true ∧ g p = true) ∧ ((∀ q', q' < p → ¬ (P q' = true ∧ g q' = true)) ∧ ∀ e, ffO g e ((List.range q).filter P) = nN p))) ∨ ((∀ p, p < q → ¬ (P p = true ∧ g p = true)) ∧ ∀ e, ffO g e ((List.range q).filter P) = e)
  | 0 => Or.inr ⟨fun p hp => absurd hp (Nat.not_lt_zero p), fun _ => rfl⟩
  | q + 1 => by
    have ea : (List.range (q + 1)).filter P = (List.range q).filter P ++ [q].filter P := by rw [List.range_succ, List.filter_append]
    rcases ffO_fil (g := g) (P := P) q with ⟨p, h1, h2, h3, h4⟩ | ⟨h, no⟩
    · exact Or.inl ⟨p, by omega, h2, h3, fun e => by rw [ea, ffO_app]; exact h4 _⟩
    · by_cases c : P q = true
      · by_cases d : g q = true
        · refine Or.inl ⟨q, by omega, ⟨c, d⟩, h, fun e => ?_⟩
          rw [ea, ffO_app, no, List.filter_cons_of_pos c]
          show (if g q = true then nN q else ffO g e (List.filter P [])) = nN q
          rw [if_pos d]
        · refine Or.inr ⟨fun p hp => ?_, fun e => ?_⟩
          · by_cases z : p = q
            · rw [z]; exact fun y => d y.2
            · exact h p (by omega)
          · rw [ea, ffO_app, no, List.filter_cons_of_pos c]
            show (if g q = true then nN q else ffO g e (List.filter P [])) = e
            rw [if_neg d]
            rfl
      · refine Or.inr ⟨fun p hp => ?_, fun e => ?_⟩
        · by_cases z : p = q
          · rw [z]; exact fun y => c y.1
          · exact h p (by omega)
        · rw [ea, ffO_app, no, List.filter_cons_of_neg c]
          rfl
/-- what the model finds is what the class finds -/
theorem fd_gd {T M : Tn} {e : Int32} {n : Nat} (wT : Wf T) (wM : Wf M) (hE : tE M + n ≤ 8) (hl : (resO T M).length = n) (h1 : 1 ≤ n) : (∃ p, p < 12 ∧ (gdO T n p M ∧ ((∀ q, q < p → ¬ gdO T n q M) ∧ fdO T M e (lpO n (resO T M)) = nN p))) ∨ ((∀ p, p < 12 → ¬ gdO T n p M) ∧ fdO T M e (lpO n (resO T M)) = e) := by
  obtain ⟨l, rfl⟩ : ∃ l, n = l + 1 := ⟨n - 1, by omega⟩
  have blk : ∀ (a : List (Nat × List Nat)), (∀ q, q ∈ a → q ∈ pkO (resO T M)) → fdO T M e (a.flatMap (fun q => (lpO l q.2).map (fun s => q.1 :: s))) = ffO (fun x => decide (numT M x (hT T x) = tN T x) && decide (0 < cnO T l (rsT M x (hT T x)))) e (a.map (fun q => q.1)) := by
    intro a
    induction a with
    | nil => intro _; rfl
    | cons q a ih =>
      intro ha
      have hq := ha q (List.mem_cons_self ..)
      obtain ⟨a1, -, c⟩ := pk_mem _ q hq
      obtain ⟨hp, n1, n2⟩ := resO_mem.mp a1
      obtain ⟨x1, x9⟩ := wT.hgt hp n1
      have hb := numT_b wM hp x9 (by omega)
      have ef : resO T (rsT M q.1 (hT T q.1)) = q.2 := by
        rw [pk_fil _ resO_nod q hq]
        exact resO_rs (by omega)
      have ec := cn_eq wT l (rsT M q.1 (hT T q.1)) (wM.rs hp x1 x9 (by omega) n2) (by show tE M + 1 + l ≤ 8; omega) (by rw [ef]; omega)
      rw [ef] at ec
      have hk : (decide (numT M q.1 (hT T q.1) = tN T q.1) && decide (0 < cnO T l (rsT M q.1 (hT T q.1)))) = true ↔ numT M q.1 (hT T q.1) = tN T q.1 ∧ 0 < cnO T l (rsT M q.1 (hT T q.1)) := by
        rw [Bool.and_eq_true, decide_eq_true_eq, decide_eq_true_eq]
      rw [List.flatMap_cons, fdO_blk, ih (fun q' h' => ha q' (List.mem_cons_of_mem _ h')), ← ec]
      show _ = (if (decide (numT M q.1 (hT T q.1) = tN T q.1) && decide (0 < cnO T l (rsT M q.1 (hT T q.1)))) = true then nN q.1 else ffO _ e (a.map (fun q => q.1)))
      by_cases z : numT M q.1 (hT T q.1) = tN T q.1 ∧ 0 < cnO T l (rsT M q.1 (hT T q.1))
      · rw [if_pos z, if_pos (hk.mpr z)]
      · rw [if_neg z, if_neg (fun y => z (hk.mp y))]
  have eb := blk (pkO (resO T M)) (fun _ h => h)
  rw [pk_fst] at eb
  have e0 : fdO T M e (lpO (l + 1) (resO T M)) = ffO (fun x => decide (numT M x (hT T x) = tN T x) && decide (0 < cnO T l (rsT M x (hT T x)))) e (resO T M) := eb
  have hg : ∀ p, gdO T (l + 1) p M ↔ ((decide (tN T p ≠ 0) && decide (tN M p = 0)) = true ∧ (decide (numT M p (hT T p) = tN T p) && decide (0 < cnO T l (rsT M p (hT T p)))) = true) := by
    intro p
    unfold gdO
    rw [oK_t, Bool.and_eq_true, Bool.and_eq_true, decide_eq_true_eq, decide_eq_true_eq, decide_eq_true_eq, decide_eq_true_eq, Nat.add_sub_cancel]
    exact ⟨fun ⟨⟨a, b, c⟩, d⟩ => ⟨⟨a, b⟩, c, d⟩, fun ⟨⟨a, b⟩, c, d⟩ => ⟨⟨a, b, c⟩, d⟩⟩
  rw [e0]
  rcases ffO_fil (g := fun x => decide (numT M x (hT T x) = tN T x) && decide (0 < cnO T l (rsT M x (hT T x)))) (P := fun p => decide (tN T p ≠ 0) && decide (tN M p = 0)) 12 with ⟨p, g1, g2, g3, g4⟩ | ⟨g1, g2⟩
  · exact Or.inl ⟨p, g1, (hg p).mpr g2, fun q hq z => g3 q hq ((hg q).mp z), g4 e⟩
  · exact Or.inr ⟨fun p hp z => g1 p hp ((hg p).mp z), g2 e⟩
end ORN
