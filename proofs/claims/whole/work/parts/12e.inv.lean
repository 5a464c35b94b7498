/-! What a street is (a town): kind and figure of the law in force, events, their plots and heights, numbers. -/
abbrev Tn : Type := Nat × (Nat × (Nat × ((Nat → Nat) × ((Nat → Nat) × (Nat → Nat)))))
abbrev tK (T : Tn) : Nat := T.1
abbrev tF (T : Tn) : Nat := T.2.1
abbrev tE (T : Tn) : Nat := T.2.2.1
abbrev tP (T : Tn) : Nat → Nat := T.2.2.2.1
abbrev tH (T : Tn) : Nat → Nat := T.2.2.2.2.1
abbrev tN (T : Tn) : Nat → Nat := T.2.2.2.2.2
/-- the last of the first e events on plot p -/
def lst (P : Nat → Nat) (p : Nat) : Nat → Nat
  | 0 => 0
  | e + 1 => if P e = p then e else lst P p e
/-- whether a house is on plot p behind the first e events -/
def occ (P H : Nat → Nat) (p : Nat) : Nat → Bool
  | 0 => false
  | e + 1 => if P e = p then decide (H e ≠ 0) else occ P H p e
/-- how many of the first e events built in quarter q -/
def cnt (P H : Nat → Nat) (q : Nat) : Nat → Nat
  | 0 => 0
  | e + 1 => cnt P H q e + (if H e ≠ 0 ∧ P e / 4 = q then 1 else 0)
def bui (P H : Nat → Nat) (e : Nat) : Nat := cnt P H 0 e + cnt P H 1 e + cnt P H 2 e
/-- events that can be -/
def Evs (P H : Nat → Nat) (E : Nat) : Prop := E ≤ 30 ∧ ∀ e, e < E → P e < 12 ∧ H e ≤ 9 ∧ (H e ≠ 0 ↔ occ P H (P e) e = false)
def Nums (P H N : Nat → Nat) (E : Nat) : Prop := ∀ p, p < 12 → (N p ≠ 0 ↔ occ P H p E = true) ∧ N p ≤ 112 + E
def Wf (T : Tn) : Prop := tK T ≤ 7 ∧ (tF T ≤ 9 ∧ (Evs (tP T) (tH T) (tE T) ∧ Nums (tP T) (tH T) (tN T) (tE T)))
def lcl (k : Nat) : Nat := match k with
  | 0 => 3
  | 1 => 0
  | 2 => 4
  | 3 => 1
  | 4 => 9
  | 5 => 7
  | 6 => 2
  | _ => 6
abbrev nN (n : Nat) : Int32 := Int32.ofNat n
/-- the law that a reference names -/
def LawAt (J : List En) (r : Option Nat) (k f : Nat) : Prop := k ≤ 7 ∧ (f ≤ 9 ∧ ((k = 0 ∧ (f = 0 ∧ (r = some 9 ∨ (r = some 18 ∨ r = some 27)))) ∨ ∃ j, r = some (68 + j) ∧ J[j]? = some (eO (lcl k) [vI (nN k), vI (nN f)])))
theorem LawAt.app {J J' : List En} {r : Option Nat} {k f : Nat} (h : LawAt J r k f) : LawAt (J ++ J') r k f := by
  obtain ⟨h1, h2, h3 | ⟨j, h3, h4⟩⟩ := h
  · exact ⟨h1, h2, Or.inl h3⟩
  · exact ⟨h1, h2, Or.inr ⟨j, h3, by rw [List.getElem?_append_left (List.getElem?_eq_some_iff.mp h4).1]; exact h4⟩⟩
/-- a street's object at t -/
def StRep (A : Nat → Nat → Int32) (V : Nat → Nat → Int32) (R : Nat → Nat → Option Nat) (J : List En) (t : Nat) (T : Tn) : Prop :=
  (V t 7 = nN (tE T) ∧ V t 8 = nN (bui (tP T) (tH T) (tE T))) ∧ ((∀ q, q < 3 → A (t + 4) q = nN (cnt (tP T) (tH T) q (tE T))) ∧ ((∀ e, e < tE T → A (t + 5) e = nN (tP T e) ∧ A (t + 6) e = nN (tH T e)) ∧ ((∀ p, p < 12 → A (t + 1) p = nN (tN T p)) ∧
    ((∀ p, p < 12 → tN T p ≠ 0 → A (t + 2) p = nN (tH T (lst (tP T) p (tE T))) ∧ A (t + 3) p = nN (lst (tP T) p (tE T))) ∧ LawAt J (R t 9) (tK T) (tF T)))))
/-- the model's own street -/
def MoRep (A : Nat → Nat → Int32) (V : Nat → Nat → Int32) (T : Tn) : Prop :=
  (V 45 0 = nN (tK T) ∧ (V 45 1 = nN (tF T) ∧ V 45 2 = nN (tE T))) ∧ ((∀ e, e < tE T → A 46 e = nN (tP T e) ∧ A 47 e = nN (tH T e)) ∧ ∀ p, p < 12 → A 48 p = nN (tN T p))
/-- the model's image -/
def ImRep (A : Nat → Nat → Int32) (T : Tn) : Prop :=
  (A 56 0 = nN (tK T) ∧ (A 56 1 = nN (tF T) ∧ A 56 2 = nN (tE T))) ∧ ((∀ e, e < tE T → A 56 (3 + 2 * e) = nN (tP T e) ∧ A 56 (4 + 2 * e) = nN (tH T e)) ∧ ∀ p, p < 12 → A 56 (63 + p) = nN (tN T p))
/-- what an element of a sort may be -/
def inSort (s : Nat) (x : Int32) : Prop := match s with
  | 0 => x.toInt8.toInt32 = x
  | 1 => x.toInt16.toInt32 = x
  | _ => True
/-- a shelf -/
def ShRep (A : Nat → Nat → Int32) (V : Nat → Nat → Int32) (R : Nat → Nat → Option Nat) (B : Nat → Nat → Int64) (J : List En) (d : Nat) : Prop :=
  (R (29 + 2 * d) 0 = none ∧ (V (29 + 2 * d) 1 = -1 ∧ A 60 d = 0)) ∨ ((∃ k f, LawAt J (R (29 + 2 * d) 0) k f ∧ (V (29 + 2 * d) 1 = -1 ∧ (A 60 d = 1 ∧ (A 61 d = nN k ∧ A 62 d = nN f)))) ∨
    ∃ s n, s ≤ 2 ∧ (n ≤ 100 ∧ (R (29 + 2 * d) 0 = none ∧ (V (29 + 2 * d) 1 = nN s ∧ (V (29 + 2 * d) 2 = nN n ∧ (A 60 d = 2 ∧ (A 63 d = nN s ∧ (A 64 d = nN n ∧ ∀ i, i < n → inSort s (A (30 + 2 * d) i) ∧ B 65 (100 * d + i) = (A (30 + 2 * d) i).toInt64))))))))
def Inv (A : Nat → Nat → Int32) (V : Nat → Nat → Int32) (R : Nat → Nat → Option Nat) (B : Nat → Nat → Int64) (J : List En) : Prop :=
  (∃ T, Wf T ∧ (StRep A V R J 1 T ∧ MoRep A V T)) ∧ (((V 0 3 = 0 ∧ V 45 20 = 0) ∨ (V 0 3 = 1 ∧ (V 45 20 = 1 ∧ ∃ T, Wf T ∧ (StRep A V R J 19 T ∧ ImRep A T)))) ∧ ∀ d, d < 8 → ShRep A V R B J d)
/-! What no invariant speaks of: rows to think in. -/
def scA : List Nat := [8, 11, 12, 13, 14, 15, 16, 17, 26, 49, 50, 51, 52, 53, 54, 55, 57, 58, 59]
def scV (a k : Nat) : Prop := a = 10 ∨ (a = 45 ∧ k ∈ [6, 9, 10, 11, 12, 13, 21, 22, 27])
def scR (a : Nat) : Prop := a = 10 ∨ a = 45
def Frm (A : Nat → Nat → Int32) (V : Nat → Nat → Int32) (R : Nat → Nat → Option Nat) (B : Nat → Nat → Int64) (A' : Nat → Nat → Int32) (V' : Nat → Nat → Int32) (R' : Nat → Nat → Option Nat) (B' : Nat → Nat → Int64) : Prop :=
  (∀ a, a ∉ scA → A' a = A a) ∧ ((∀ a k, ¬ scV a k → V' a k = V a k) ∧ ((∀ a k, ¬ scR a → R' a k = R a k) ∧ B' 65 = B 65))
theorem Frm.rf {A V : Nat → Nat → Int32} {R : Nat → Nat → Option Nat} {B : Nat → Nat → Int64} : Frm A V R B A V R B := ⟨fun _ _ => rfl, fun _ _ _ => rfl, fun _ _ _ => rfl, rfl⟩
theorem Frm.tr {A V A1 V1 A2 V2 : Nat → Nat → Int32} {R R1 R2 : Nat → Nat → Option Nat} {B B1 B2 : Nat → Nat → Int64} (h : Frm A V R B A1 V1 R1 B1) (g : Frm A1 V1 R1 B1 A2 V2 R2 B2) : Frm A V R B A2 V2 R2 B2 :=
  ⟨fun a h1 => (g.1 a h1).trans (h.1 a h1), fun a k h1 => (g.2.1 a k h1).trans (h.2.1 a k h1), fun a k h1 => (g.2.2.1 a k h1).trans (h.2.2.1 a k h1), g.2.2.2.trans h.2.2.2⟩
theorem Frm.a {A V : Nat → Nat → Int32} {R : Nat → Nat → Option Nat} {B : Nat → Nat → Int64} {x : Nat} {f : Nat → Int32} (h : x ∈ scA) : Frm A V R B (upA A x f) V R B :=
  ⟨fun a h1 => if_neg (fun q => h1 (by rw [q]; exact h)), fun _ _ _ => rfl, fun _ _ _ => rfl, rfl⟩
theorem Frm.v {A V : Nat → Nat → Int32} {R : Nat → Nat → Option Nat} {B : Nat → Nat → Int64} {x k : Nat} {y : Int32} (h : scV x k) : Frm A V R B A (upV V x k y) R B :=
  ⟨fun _ _ => rfl, fun a j h1 => if_neg (fun q => h1 (by rw [q.1, q.2]; exact h)), fun _ _ _ => rfl, rfl⟩
theorem Frm.r {A V : Nat → Nat → Int32} {R : Nat → Nat → Option Nat} {B : Nat → Nat → Int64} {x k : Nat} {y : Option Nat} (h : scR x) : Frm A V R B A V (upR R x k y) B :=
  ⟨fun _ _ => rfl, fun _ _ _ => rfl, fun a j h1 => if_neg (fun q => h1 (by rw [q.1]; exact h)), rfl⟩
theorem Frm.b {A V : Nat → Nat → Int32} {R : Nat → Nat → Option Nat} {B : Nat → Nat → Int64} {x : Nat} {f : Nat → Int64} (h : x ≠ 65) : Frm A V R B A V R (upB B x f) :=
  ⟨fun _ _ => rfl, fun _ _ _ => rfl, fun _ _ _ => rfl, if_neg (fun q => h q.symm)⟩
/-- a street but for its rises stays -/
theorem StRep.cong {A V A' V' : Nat → Nat → Int32} {R R' : Nat → Nat → Option Nat} {J J' : List En} {t : Nat} {T : Tn} (h : StRep A V R J t T) (ha : ∀ j, j < 6 → A' (t + 1 + j) = A (t + 1 + j)) (h7 : V' t 7 = V t 7) (h8 : V' t 8 = V t 8) (h9 : R' t 9 = R t 9) : StRep A' V' R' (J ++ J') t T := by
  obtain ⟨⟨a1, a2⟩, b, c, d, e, f⟩ := h
  have e0 : A' (t + 1) = A (t + 1) := ha 0 (by decide)
  have e1 : A' (t + 2) = A (t + 2) := ha 1 (by decide)
  have e2 : A' (t + 3) = A (t + 3) := ha 2 (by decide)
  have e3 : A' (t + 4) = A (t + 4) := ha 3 (by decide)
  have e4 : A' (t + 5) = A (t + 5) := ha 4 (by decide)
  have e5 : A' (t + 6) = A (t + 6) := ha 5 (by decide)
  refine ⟨⟨h7.trans a1, h8.trans a2⟩, ?_, ?_, ?_, ?_, ?_⟩
  · rw [e3]; exact b
  · rw [e4, e5]; exact c
  · rw [e0]; exact d
  · rw [e1, e2]; exact e
  · rw [h9]; exact f.app
theorem MoRep.cong {A V A' V' : Nat → Nat → Int32} {T : Tn} (h : MoRep A V T) (ha : A' 46 = A 46 ∧ (A' 47 = A 47 ∧ A' 48 = A 48)) (hv : V' 45 0 = V 45 0 ∧ (V' 45 1 = V 45 1 ∧ V' 45 2 = V 45 2)) : MoRep A' V' T := by
  obtain ⟨a, b, c⟩ := ha
  obtain ⟨d, e, f⟩ := hv
  unfold MoRep
  rw [a, b, c, d, e, f]
  exact h
theorem ShRep.cong {A V A' V' : Nat → Nat → Int32} {R R' : Nat → Nat → Option Nat} {B B' : Nat → Nat → Int64} {J J' : List En} {d : Nat} (h : ShRep A V R B J d) (ha : ∀ a, a = 30 + 2 * d ∨ (60 ≤ a ∧ a < 65) → A' a = A a) (hv : ∀ k, V' (29 + 2 * d) k = V (29 + 2 * d) k) (hr : R' (29 + 2 * d) 0 = R (29 + 2 * d) 0) (hb : B' 65 = B 65) : ShRep A' V' R' B' (J ++ J') d := by
  unfold ShRep
  rw [hr, hv, hv, hb, ha 60 (Or.inr (by decide)), ha 61 (Or.inr (by decide)), ha 62 (Or.inr (by decide)), ha 63 (Or.inr (by decide)), ha 64 (Or.inr (by decide)), ha _ (Or.inl rfl)]
  rcases h with h | ⟨k, f, h1, h2⟩ | h
  · exact Or.inl h
  · exact Or.inr (Or.inl ⟨k, f, h1.app, h2⟩)
  · exact Or.inr (Or.inr h)
theorem Inv.frm {A V A' V' : Nat → Nat → Int32} {R R' : Nat → Nat → Option Nat} {B B' : Nat → Nat → Int64} {J : List En} (J' : List En) (h : Inv A V R B J) (g : Frm A V R B A' V' R' B') : Inv A' V' R' B' (J ++ J') := by
  obtain ⟨⟨T, w, s, m⟩, i, sh⟩ := h
  obtain ⟨ga, gv, gr, gb⟩ := g
  have hv : ∀ a k, a ≠ 10 → (a = 45 → k ∉ [6, 9, 10, 11, 12, 13, 21, 22, 27]) → V' a k = V a k := fun a k h1 h2 => gv a k (fun q => q.elim h1 (fun q => h2 q.1 q.2))
  have ha : ∀ a, a ∉ scA → A' a = A a := ga
  refine ⟨⟨T, w, s.cong ?_ ?_ ?_ ?_, m.cong ⟨ha _ (by decide), ha _ (by decide), ha _ (by decide)⟩ ⟨hv _ _ (by decide) (by decide), hv _ _ (by decide) (by decide), hv _ _ (by decide) (by decide)⟩⟩, ?_, fun d hd => (sh d hd).cong ?_ ?_ ?_ gb⟩
  · intro j hj
    exact ha _ (by unfold scA; simp only [List.mem_cons, List.not_mem_nil, or_false]; omega)
  · exact hv _ _ (by decide) (by decide)
  · exact hv _ _ (by decide) (by decide)
  · exact gr _ _ (by unfold scR; decide)
  · rcases i with ⟨i1, i2⟩ | ⟨i1, i2, T', w', s', m'⟩
    · exact Or.inl ⟨(hv _ _ (by decide) (by decide)).trans i1, (hv _ _ (by decide) (by decide)).trans i2⟩
    · refine Or.inr ⟨(hv _ _ (by decide) (by decide)).trans i1, (hv _ _ (by decide) (by decide)).trans i2, T', w', s'.cong ?_ ?_ ?_ ?_, ?_⟩
      · intro j hj
        exact ha _ (by unfold scA; simp only [List.mem_cons, List.not_mem_nil, or_false]; omega)
      · exact hv _ _ (by decide) (by decide)
      · exact hv _ _ (by decide) (by decide)
      · exact gr _ _ (by unfold scR; decide)
      · unfold ImRep
        rw [ha 56 (by decide)]
        exact m'
  · intro a q
    exact ha _ (by unfold scA; simp only [List.mem_cons, List.not_mem_nil, or_false]; omega)
  · intro k
    exact hv _ _ (by omega) (by omega)
  · exact gr _ _ (by unfold scR; omega)
