section ROX
variable {p : Program} {l : Launch} {e : Env} {R : Room} {s : State} {m : MethodId} {args : Array Value} {below : List Frame} {meth : Method} {c : Code} {H : Heap} {locs : List Loc} {cells slots : Nat} {Q : State → Prop}
variable {cc : ByteArray} {pc : Nat} {ls : Array Slot} {rest : List Value}
theorem ro_aload_nN (hexec : p.tables.exec = Jvm.exec) (hb : c.code = cc) {k : Fin 4} {i : Nat} (hdg : decode cc pc = .ok (.aload_n k, 1)) (hi : (k : Nat) = i) (hl : ls[i]? = some (.val .null))
    (k : W p l e R s m args below meth c H locs cells slots Q (F0 m (pc + 1) ls (.null :: rest))) : W p l e R s m args below meth c H locs cells slots Q (F0 m pc ls (rest)) := by
  subst hi
  intro T hT X
  obtain ⟨t, a, b⟩ := k T hT X
  refine ⟨t, ?_, b⟩
  jvm_step X.here [X.here.top, hexec, hb, hdg, hl, Value.isRef]
  exact a
theorem ro_aloadN (hexec : p.tables.exec = Jvm.exec) (hb : c.code = cc) {i : Nat} (hdg : decode cc pc = .ok (.aload i, 2)) (hl : ls[i]? = some (.val .null))
    (k : W p l e R s m args below meth c H locs cells slots Q (F0 m (pc + 2) ls (.null :: rest))) : W p l e R s m args below meth c H locs cells slots Q (F0 m pc ls (rest)) := by
  intro T hT X
  obtain ⟨t, a, b⟩ := k T hT X
  refine ⟨t, ?_, b⟩
  jvm_step X.here [X.here.top, hexec, hb, hdg, hl, Value.isRef]
  exact a
end ROX
/-! THE ABSTRACT HEAP: cells by their place behind a base; values; what a heap holds; a judgement RJ over them, a row an instruction. -/
abbrev Vv : Type := Int32 ⊕ (Int64 ⊕ (Option Nat ⊕ Nat))
abbrev vI (x : Int32) : Vv := .inl x
abbrev vL (x : Int64) : Vv := .inr (.inl x)
abbrev vR (x : Option Nat) : Vv := .inr (.inr (.inl x))
/-- the script, which is no cell of the heap told here -/
abbrev vX (x : Nat) : Vv := .inr (.inr (.inr x))
def cv (b : Nat) : Vv → Value := fun v => match v with
  | .inl x => .int x
  | .inr (.inl x) => .long x
  | .inr (.inr (.inl none)) => .null
  | .inr (.inr (.inl (some a))) => .ref (b + a)
  | .inr (.inr (.inr a)) => .ref a
def vW : Vv → Bool := fun v => match v with
  | .inr (.inl _) => true
  | _ => false
/-- cells: int rows, long rows, rows of references, objects (class, fields), others (so many slots) -/
abbrev En : Type := (Nat × (Nat → Int32)) ⊕ ((Nat × (Nat → Int64)) ⊕ ((Nat × (Nat → Option Nat)) ⊕ ((Nat × List Vv) ⊕ Nat)))
abbrev eI (n : Nat) (f : Nat → Int32) : En := .inl (n, f)
abbrev eL (n : Nat) (f : Nat → Int64) : En := .inr (.inl (n, f))
abbrev eR (n : Nat) (f : Nat → Option Nat) : En := .inr (.inr (.inl (n, f)))
abbrev eO (c : Nat) (fs : List Vv) : En := .inr (.inr (.inr (.inl (c, fs))))
abbrev eJ (n : Nat) : En := .inr (.inr (.inr (.inr n)))
abbrev Hp : Type := List En
def en_sz : En → Nat := fun e => match e with
  | .inl a => a.1
  | .inr (.inl a) => a.1
  | .inr (.inr (.inl a)) => a.1
  | .inr (.inr (.inr (.inl a))) => a.2.length
  | .inr (.inr (.inr (.inr n))) => n
def sl (h : Hp) : Nat := (h.map en_sz).sum
def Le (h h' : Hp) : Prop := h.length ≤ h'.length ∧ sl h ≤ sl h'
theorem Le.rf {h : Hp} : Le h h := ⟨Nat.le_refl _, Nat.le_refl _⟩
theorem Le.tr {a b c : Hp} (x : Le a b) (y : Le b c) : Le a c := ⟨Nat.le_trans x.1 y.1, Nat.le_trans x.2 y.2⟩
theorem sl_push (h : Hp) (e : En) : sl (h ++ [e]) = sl h + en_sz e := by simp [sl]
theorem Le.push {h : Hp} {e : En} : Le h (h ++ [e]) := ⟨by simp, by rw [sl_push]; omega⟩
theorem sl_set : ∀ (h : Hp) (a : Nat) (e e' : En), h[a]? = some e → en_sz e' = en_sz e → sl (h.set a e') = sl h
  | [], a, e, e', h1, _ => by simp at h1
  | x :: h, 0, e, e', h1, h2 => by
    simp at h1
    subst h1
    simp [sl, h2]
  | x :: h, a + 1, e, e', h1, h2 => by
    have ih := sl_set h a e e' (by simpa using h1) h2
    simp only [sl, List.set_cons_succ, List.map_cons, List.sum_cons] at ih ⊢
    omega
theorem Le.set {h : Hp} {a : Nat} {e e' : En} (h1 : h[a]? = some e) (h2 : en_sz e' = en_sz e) : Le h (h.set a e') := ⟨by simp, by rw [sl_set h a e e' h1 h2]; exact Nat.le_refl _⟩
-- the operations
def hO (h : Hp) (r : Option Nat) : Option (Nat × Nat × List Vv) := match r with
  | none => none
  | some a => match h[a]? with
    | some (.inr (.inr (.inr (.inl (c, fs))))) => some (a, c, fs)
    | _ => none
/-- the class of an object, its place -/
def rcv (h : Hp) (r : Option Nat) (c : Nat) : Option Nat := match hO h r with
  | some (a, c', _) => if c' = c then some a else none
  | none => none
def rcl (h : Hp) (r : Option Nat) : Option (Nat × Nat) := match hO h r with
  | some (a, c', _) => some (a, c')
  | none => none
def gF (h : Hp) (r : Option Nat) (cs : List Nat) (k : Nat) : Option Vv := match hO h r with
  | some (_, c, fs) => if c ∈ cs then fs[k]? else none
  | none => none
def gI (h : Hp) (r : Option Nat) (cs : List Nat) (k : Nat) : Option Int32 := match gF h r cs k with
  | some (.inl x) => some x
  | _ => none
def gR (h : Hp) (r : Option Nat) (cs : List Nat) (k : Nat) : Option (Option Nat) := match gF h r cs k with
  | some (.inr (.inr (.inl x))) => some x
  | _ => none
def pF (h : Hp) (r : Option Nat) (cs : List Nat) (k : Nat) (v : Vv) : Option Hp := match hO h r with
  | some (a, c, fs) => if c ∈ cs ∧ k < fs.length then some (h.set a (eO c (fs.set k v))) else none
  | none => none
/-- a boolean -/
def okZ (x : Int32) : Option Int32 := if x = 0 ∨ x = 1 then some x else none
def inB (i : Int32) (n : Nat) : Bool := decide (0 ≤ i) && decide (i.toNatClampNeg < n)
def hA (h : Hp) (r : Option Nat) : Option (Nat × Nat × (Nat → Int32)) := match r with
  | none => none
  | some a => match h[a]? with
    | some (.inl (n, f)) => some (a, n, f)
    | _ => none
def hB (h : Hp) (r : Option Nat) : Option (Nat × Nat × (Nat → Int64)) := match r with
  | none => none
  | some a => match h[a]? with
    | some (.inr (.inl (n, f))) => some (a, n, f)
    | _ => none
def hC (h : Hp) (r : Option Nat) : Option (Nat × Nat × (Nat → Option Nat)) := match r with
  | none => none
  | some a => match h[a]? with
    | some (.inr (.inr (.inl (n, f)))) => some (a, n, f)
    | _ => none
def aI (h : Hp) (r : Option Nat) (i : Int32) : Option Int32 := match hA h r with
  | some (_, n, f) => if inB i n = true then some (f i.toNatClampNeg) else none
  | none => none
def aL (h : Hp) (r : Option Nat) (i : Int32) : Option Int64 := match hB h r with
  | some (_, n, f) => if inB i n = true then some (f i.toNatClampNeg) else none
  | none => none
def aR (h : Hp) (r : Option Nat) (i : Int32) : Option (Option Nat) := match hC h r with
  | some (_, n, f) => if inB i n = true then some (f i.toNatClampNeg) else none
  | none => none
def wI (h : Hp) (r : Option Nat) (i x : Int32) : Option Hp := match hA h r with
  | some (a, n, f) => if inB i n = true then some (h.set a (eI n (upd f i.toNatClampNeg x))) else none
  | none => none
def wL (h : Hp) (r : Option Nat) (i : Int32) (x : Int64) : Option Hp := match hB h r with
  | some (a, n, f) => if inB i n = true then some (h.set a (eL n (vp_updL f i.toNatClampNeg x))) else none
  | none => none
/-- a row of references gets an object of class c -/
def wR (h : Hp) (r : Option Nat) (i : Int32) (x : Option Nat) (c : Nat) : Option Hp := match hC h r with
  | some (a, n, f) => match hO h x with
    | some (y, c', _) => if inB i n = true ∧ c' = c then some (h.set a (eR n (va_up f i.toNatClampNeg (some y)))) else none
    | none => none
  | none => none
def lenI (h : Hp) (r : Option Nat) : Option Int32 := match hA h r with
  | some (_, n, _) => some (Int32.ofNat n)
  | none => none
def lenR (h : Hp) (r : Option Nat) : Option Int32 := match hC h r with
  | some (_, n, _) => some (Int32.ofNat n)
  | none => none
/-- n ints of a row, from sp on, come to another from dp on -/
def cpI (h : Hp) (r : Option Nat) (sp : Int32) (r2 : Option Nat) (dp n : Int32) : Option Hp := match hA h r with
  | some (_, n0, f) => match hA h r2 with
    | some (a1, n1, g) => if ¬ sp < 0 ∧ ¬ dp < 0 ∧ ¬ n < 0 ∧ sp.toNatClampNeg + n.toNatClampNeg ≤ n0 ∧ dp.toNatClampNeg + n.toNatClampNeg ≤ n1 then some (h.set a1 (eI n1 (va_cpy f g sp.toNatClampNeg dp.toNatClampNeg n.toNatClampNeg))) else none
    | none => none
  | none => none
def dvI (x y : Int32) : Option Int32 := if y = 0 then none else some (x / y)
def rmI (x y : Int32) : Option Int32 := if y = 0 then none else some (x - x / y * y)
theorem ob {α β : Type} {o : Option α} {f : α → Option β} {r : β} (h : o.bind f = some r) : ∃ v, o = some v ∧ f v = some r := Option.bind_eq_some_iff.mp h
theorem hO_sp {h : Hp} {r : Option Nat} {a c : Nat} {fs : List Vv} (e : hO h r = some (a, c, fs)) : r = some a ∧ h[a]? = some (eO c fs) := by
  unfold hO at e
  split at e
  · cases e
  · split at e
    · rename_i h1
      cases e
      exact ⟨rfl, h1⟩
    · cases e
theorem hA_sp {h : Hp} {r : Option Nat} {a n : Nat} {f : Nat → Int32} (e : hA h r = some (a, n, f)) : r = some a ∧ h[a]? = some (eI n f) := by
  unfold hA at e
  split at e
  · cases e
  · split at e
    · rename_i h1
      cases e
      exact ⟨rfl, h1⟩
    · cases e
theorem hB_sp {h : Hp} {r : Option Nat} {a n : Nat} {f : Nat → Int64} (e : hB h r = some (a, n, f)) : r = some a ∧ h[a]? = some (eL n f) := by
  unfold hB at e
  split at e
  · cases e
  · split at e
    · rename_i h1
      cases e
      exact ⟨rfl, h1⟩
    · cases e
theorem hC_sp {h : Hp} {r : Option Nat} {a n : Nat} {f : Nat → Option Nat} (e : hC h r = some (a, n, f)) : r = some a ∧ h[a]? = some (eR n f) := by
  unfold hC at e
  split at e
  · cases e
  · split at e
    · rename_i h1
      cases e
      exact ⟨rfl, h1⟩
    · cases e
theorem rcv_sp {h : Hp} {r : Option Nat} {c a : Nat} (e : rcv h r c = some a) : r = some a ∧ ∃ fs, h[a]? = some (eO c fs) := by
  unfold rcv at e
  split at e
  · rename_i h1
    split at e
    · rename_i h2
      cases e
      obtain ⟨e1, e2⟩ := hO_sp h1
      exact ⟨e1, _, h2 ▸ e2⟩
    · cases e
  · cases e
theorem rcl_sp {h : Hp} {r : Option Nat} {q : Nat × Nat} (e : rcl h r = some q) : r = some q.1 ∧ ∃ fs, h[q.1]? = some (eO q.2 fs) := by
  unfold rcl at e
  split at e
  · rename_i h1
    cases e
    obtain ⟨e1, e2⟩ := hO_sp h1
    exact ⟨e1, _, e2⟩
  · cases e
theorem gF_sp {h : Hp} {r : Option Nat} {cs : List Nat} {k : Nat} {v : Vv} (e : gF h r cs k = some v) : ∃ a c fs, r = some a ∧ h[a]? = some (eO c fs) ∧ c ∈ cs ∧ fs[k]? = some v := by
  unfold gF at e
  split at e
  · rename_i h1
    split at e
    · rename_i h2
      obtain ⟨e1, e2⟩ := hO_sp h1
      exact ⟨_, _, _, e1, e2, h2, e⟩
    · cases e
  · cases e
theorem gI_sp {h : Hp} {r : Option Nat} {cs : List Nat} {k : Nat} {x : Int32} (e : gI h r cs k = some x) : gF h r cs k = some (vI x) := by
  unfold gI at e
  split at e
  · rename_i h1
    cases e
    exact h1
  · cases e
theorem gR_sp {h : Hp} {r : Option Nat} {cs : List Nat} {k : Nat} {x : Option Nat} (e : gR h r cs k = some x) : gF h r cs k = some (vR x) := by
  unfold gR at e
  split at e
  · rename_i h1
    cases e
    exact h1
  · cases e
theorem pF_sp {h h1 : Hp} {r : Option Nat} {cs : List Nat} {k : Nat} {v : Vv} (e : pF h r cs k v = some h1) : ∃ a c fs, r = some a ∧ h[a]? = some (eO c fs) ∧ c ∈ cs ∧ k < fs.length ∧ h1 = h.set a (eO c (fs.set k v)) := by
  unfold pF at e
  split at e
  · rename_i h1
    split at e
    · rename_i h2
      obtain ⟨e1, e2⟩ := hO_sp h1
      cases e
      exact ⟨_, _, _, e1, e2, h2.1, h2.2, rfl⟩
    · cases e
  · cases e
theorem okZ_sp {x y : Int32} (e : okZ x = some y) : y = x ∧ (x = 0 ∨ x = 1) := by
  unfold okZ at e
  split at e
  · rename_i h1
    cases e
    exact ⟨rfl, h1⟩
  · cases e
theorem inB_sp {i : Int32} {n : Nat} (h : inB i n = true) : vp_in i n := by
  unfold inB at h
  simp only [Bool.and_eq_true, decide_eq_true_eq] at h
  rintro (q | q)
  · exact absurd h.1 (Int32.not_le.mpr q)
  · omega
theorem aI_sp {h : Hp} {r : Option Nat} {i x : Int32} (e : aI h r i = some x) : ∃ a n f, r = some a ∧ h[a]? = some (eI n f) ∧ vp_in i n ∧ x = f i.toNatClampNeg := by
  unfold aI at e
  split at e
  · rename_i h1
    split at e
    · rename_i h2
      cases e
      obtain ⟨e1, e2⟩ := hA_sp h1
      exact ⟨_, _, _, e1, e2, inB_sp h2, rfl⟩
    · cases e
  · cases e
theorem aL_sp {h : Hp} {r : Option Nat} {i : Int32} {x : Int64} (e : aL h r i = some x) : ∃ a n f, r = some a ∧ h[a]? = some (eL n f) ∧ vp_in i n ∧ x = f i.toNatClampNeg := by
  unfold aL at e
  split at e
  · rename_i h1
    split at e
    · rename_i h2
      cases e
      obtain ⟨e1, e2⟩ := hB_sp h1
      exact ⟨_, _, _, e1, e2, inB_sp h2, rfl⟩
    · cases e
  · cases e
theorem aR_sp {h : Hp} {r : Option Nat} {i : Int32} {x : Option Nat} (e : aR h r i = some x) : ∃ a n f, r = some a ∧ h[a]? = some (eR n f) ∧ vp_in i n ∧ x = f i.toNatClampNeg := by
  unfold aR at e
  split at e
  · rename_i h1
    split at e
    · rename_i h2
      cases e
      obtain ⟨e1, e2⟩ := hC_sp h1
      exact ⟨_, _, _, e1, e2, inB_sp h2, rfl⟩
    · cases e
  · cases e
theorem wI_sp {h h1 : Hp} {r : Option Nat} {i x : Int32} (e : wI h r i x = some h1) : ∃ a n f, r = some a ∧ h[a]? = some (eI n f) ∧ vp_in i n ∧ h1 = h.set a (eI n (upd f i.toNatClampNeg x)) := by
  unfold wI at e
  split at e
  · rename_i h1
    split at e
    · rename_i h2
      cases e
      obtain ⟨e1, e2⟩ := hA_sp h1
      exact ⟨_, _, _, e1, e2, inB_sp h2, rfl⟩
    · cases e
  · cases e
theorem wL_sp {h h1 : Hp} {r : Option Nat} {i : Int32} {x : Int64} (e : wL h r i x = some h1) : ∃ a n f, r = some a ∧ h[a]? = some (eL n f) ∧ vp_in i n ∧ h1 = h.set a (eL n (vp_updL f i.toNatClampNeg x)) := by
  unfold wL at e
  split at e
  · rename_i h1
    split at e
    · rename_i h2
      cases e
      obtain ⟨e1, e2⟩ := hB_sp h1
      exact ⟨_, _, _, e1, e2, inB_sp h2, rfl⟩
    · cases e
  · cases e
theorem wR_sp {h h1 : Hp} {r x : Option Nat} {i : Int32} {c : Nat} (e : wR h r i x c = some h1) : ∃ a n f y fs, r = some a ∧ h[a]? = some (eR n f) ∧ x = some y ∧ h[y]? = some (eO c fs) ∧ vp_in i n ∧ h1 = h.set a (eR n (va_up f i.toNatClampNeg (some y))) := by
  unfold wR at e
  split at e
  · rename_i h1
    split at e
    · rename_i h3
      split at e
      · rename_i h2
        cases e
        obtain ⟨e1, e2⟩ := hC_sp h1
        obtain ⟨e3, e4⟩ := hO_sp h3
        obtain ⟨h2, h4⟩ := h2
        subst h4
        exact ⟨_, _, _, _, _, e1, e2, e3, e4, inB_sp h2, rfl⟩
      · cases e
    · cases e
  · cases e
theorem lenI_sp {h : Hp} {r : Option Nat} {x : Int32} (e : lenI h r = some x) : ∃ a n f, r = some a ∧ h[a]? = some (eI n f) ∧ x = Int32.ofNat n := by
  unfold lenI at e
  split at e
  · rename_i h1
    cases e
    obtain ⟨e1, e2⟩ := hA_sp h1
    exact ⟨_, _, _, e1, e2, rfl⟩
  · cases e
theorem lenR_sp {h : Hp} {r : Option Nat} {x : Int32} (e : lenR h r = some x) : ∃ a n f, r = some a ∧ h[a]? = some (eR n f) ∧ x = Int32.ofNat n := by
  unfold lenR at e
  split at e
  · rename_i h1
    cases e
    obtain ⟨e1, e2⟩ := hC_sp h1
    exact ⟨_, _, _, e1, e2, rfl⟩
  · cases e
theorem cpI_sp {h h1 : Hp} {r r2 : Option Nat} {sp dp n : Int32} (e : cpI h r sp r2 dp n = some h1) : ∃ a0 n0 f a1 n1 g, r = some a0 ∧ h[a0]? = some (eI n0 f) ∧ r2 = some a1 ∧ h[a1]? = some (eI n1 g) ∧ (¬ sp < 0 ∧ ¬ dp < 0 ∧ ¬ n < 0 ∧ sp.toNatClampNeg + n.toNatClampNeg ≤ n0 ∧ dp.toNatClampNeg + n.toNatClampNeg ≤ n1) ∧ h1 = h.set a1 (eI n1 (va_cpy f g sp.toNatClampNeg dp.toNatClampNeg n.toNatClampNeg)) := by
  unfold cpI at e
  split at e
  · rename_i h1
    split at e
    · rename_i h3
      split at e
      · rename_i h2
        cases e
        obtain ⟨e1, e2⟩ := hA_sp h1
        obtain ⟨e3, e4⟩ := hA_sp h3
        exact ⟨_, _, _, _, _, _, e1, e2, e3, e4, h2, rfl⟩
      · cases e
    · cases e
  · cases e
theorem dvI_sp {x y z : Int32} (e : dvI x y = some z) : ¬ y = 0 ∧ z = x / y := by
  unfold dvI at e
  split at e
  · cases e
  · rename_i h
    cases e
    exact ⟨h, rfl⟩
theorem rmI_sp {x y z : Int32} (e : rmI x y = some z) : ¬ y = 0 ∧ z = x - x / y * y := by
  unfold rmI at e
  split at e
  · cases e
  · rename_i h
    cases e
    exact ⟨h, rfl⟩
/-! what a heap holds of it -/
abbrev Gx : Type := va_G × (Nat × (ClassId × (ClassId × (ClassId × (Nat × (Nat × (Nat → Int32)))))))
def cE (b : Nat) (f : Nat → Option Nat) : Nat → Option Nat := fun j => (f j).map (fun x => b + x)
def atE (G : Gx) (e : En) (a : Nat) (H : Heap) : Prop := match e with
  | .inl x => H[G.2.1 + a]? = some (vp_cell G.2.2.1 (x.1, .inl x.2))
  | .inr (.inl x) => H[G.2.1 + a]? = some (vp_cell G.2.2.2.1 (x.1, .inr (.inl x.2)))
  | .inr (.inr (.inl x)) => H[G.2.1 + a]? = some (vp_cell G.2.2.2.2.1 (x.1, .inr (.inr (.inr (.inr (cE G.2.1 x.2))))))
  | .inr (.inr (.inr (.inl x))) => va_at G.1 vwCl (G.2.1 + a, .inr (x.1, x.2.map (cv G.2.1))) H
  | .inr (.inr (.inr (.inr _))) => True
def Rep (G : Gx) (h : Hp) (H : Heap) : Prop := H.size = G.2.1 + h.length ∧ ∀ (a : Nat) (e : En), h[a]? = some e → atE G e a H
theorem atE.kept {G : Gx} {e : En} {a : Nat} {H H1 : Heap} (h : atE G e a H) (hq : H1[G.2.1 + a]? = H[G.2.1 + a]?) : atE G e a H1 := by
  match e, h with
  | .inl x, h => exact hq.trans h
  | .inr (.inl x), h => exact hq.trans h
  | .inr (.inr (.inl x)), h => exact hq.trans h
  | .inr (.inr (.inr (.inl x))), h => exact va_at.kept (q := (G.2.1 + a, .inr (x.1, x.2.map (cv G.2.1)))) h hq
  | .inr (.inr (.inr (.inr _))), _ => exact trivial
theorem lt_of_get {h : Hp} {a : Nat} {e : En} (q : h[a]? = some e) : a < h.length := (List.getElem?_eq_some_iff.mp q).1
theorem Rep.set {G : Gx} {h : Hp} {H H1 : Heap} {a : Nat} {e : En} (r : Rep G h H) (z : H1.size = H.size) (oq : ∀ q : Nat, q ≠ G.2.1 + a → H1[q]? = H[q]?) (he : atE G e a H1) : Rep G (h.set a e) H1 := by
  refine ⟨by rw [z, r.1, List.length_set], fun k e' hk => ?_⟩
  rw [List.getElem?_set] at hk
  by_cases q : a = k
  · subst q
    rw [if_pos rfl] at hk
    split at hk
    · cases hk
      exact he
    · cases hk
  · rw [if_neg q] at hk
    exact (r.2 k e' hk).kept (oq _ (by omega))
theorem Rep.push {G : Gx} {h : Hp} {H H1 : Heap} {e : En} (r : Rep G h H) (z : H1.size = H.size + 1) (oq : ∀ q : Nat, q < H.size → H1[q]? = H[q]?) (he : atE G e h.length H1) : Rep G (h ++ [e]) H1 := by
  refine ⟨by rw [z, r.1]; simp; omega, fun k e' hk => ?_⟩
  rw [List.getElem?_append] at hk
  split at hk
  · rename_i q
    exact (r.2 k e' hk).kept (oq _ (by rw [r.1]; omega))
  · rename_i q
    have hk2 : k - h.length < 1 := (List.getElem?_eq_some_iff.mp hk).1
    have hk3 : k = h.length := by omega
    subst hk3
    rw [Nat.sub_self] at hk
    cases hk
    exact he
def Kn (G : Gx) (U : State) : Prop := va_K G.1 vwCl [(G.2.2.1, .int), (G.2.2.2.1, .long), (G.2.2.2.2.1, .object "NumberedByAge$Shelf")] U
theorem Kn.moved {G : Gx} {u U : State} (hvm : u.vm.Alike U.vm) (h : Kn G u) : Kn G U := va_K.moved hvm h
def n_host : String := "NumberedByAge"
def nstM : List (String × Nat × MethodName) := [(RX8, 77, yX10_isHeight), (RX8, 73, yX10_isPlot), (RX10, 28, yX5_init), (RX10, 11, yX8_init)]
def nstF : List (String × Nat × String × String × String) := [(RX3, 16, "NumberedByAge$Street", "built", "I"), (RX10, 59, "NumberedByAge$Street", "law", "LNumberedByAge$Law;"), (RX10, 51, "NumberedByAge$Shelf", "law", "LNumberedByAge$Law;"), (RX10, 227, "NumberedByAge$Shelf", "elements", "[I"), (RX10, 220, "NumberedByAge$Shelf", "sort", "I"), (RX10, 179, "NumberedByAge$Street", "built", "I"), (RX10, 176, "NumberedByAge$Street", "events", "I"), (RX10, 157, "NumberedByAge$Shelf", "size", "I")]
/-- the links between nest mates -/
def Nst (U : State) : Prop := (∀ q ∈ nstM, va_Nw (.methodLinkNest q.1 q.2.1 q.2.2 n_host) U) ∧ ∀ q ∈ nstF, va_Nw (.fieldLinkNest q.1 q.2.1 q.2.2.1 q.2.2.2.1 q.2.2.2.2 n_host) U
theorem Nst.warm {s U : State} (hW : s.WarmedH U.vm) (h : Nst s) : Nst U := ⟨fun q hq => va_Nw.warmM hW (h.1 q hq), fun q hq => va_Nw.warmF hW (h.2 q hq)⟩
theorem Nst.same {u U : State} (hv : u.vm = U.vm) (h : Nst u) : Nst U := ⟨fun q hq => va_Nw.same rfl hv (h.1 q hq), fun q hq => va_Nw.same rfl hv (h.2 q hq)⟩
/-- what a throw needs of the machine -/
def xIAE : String := "java/lang/IllegalArgumentException"
def xISE : String := "java/lang/IllegalStateException"
def xUOE : String := "java/lang/UnsupportedOperationException"
def xstr : List (String × Nat × String) := [(RX10, 203, "there is no such SHELF"), (RX10, 214, "there is no ROW with such a place"), (RX2, 28, "a LAST one failed"), (RX3, 23, "a LAW failed"), (RX6, 23, "a SIDE one failed")]
def xneg : List (String × String) := [(xIAE, xISE), (xIAE, xUOE), (xISE, xIAE), (xISE, xUOE), (xUOE, xIAE), (xUOE, xISE)]
def xcd : List Cond := [.castable xIAE xIAE, .castable xISE xISE, .castable xUOE xUOE, .declares (Bundle.initS Bundle.tN), .declares (Bundle.initS "java/lang/RuntimeException"), .declares (Bundle.initS "java/lang/Exception")]
theorem xcd_ot : ∀ w ∈ xcd, w.onTables = true := by decide +kernel
theorem xcd_c : ∀ E ∈ [xIAE, xISE, xUOE], Cond.castable E E ∈ xcd := by decide +kernel
theorem xcd_warm {s U : State} (hW : s.WarmedH U.vm) : ∀ w ∈ xcd, va_Nw w s → va_Nw w U := by
  intro w hw h
  simp only [xcd, List.mem_cons, List.not_mem_nil, or_false] at hw
  rcases hw with rfl | rfl | rfl | rfl | rfl | rfl
  · exact va_Nw.warmC hW h
  · exact va_Nw.warmC hW h
  · exact va_Nw.warmC hW h
  · exact va_Nw.warmD hW h
  · exact va_Nw.warmD hW h
  · exact va_Nw.warmD hW h
def Xs (G : Gx) (U : State) (H : Heap) : Prop :=
  (vx_Zq Bundle.tN "UNASSIGNED_STACK" Bundle.steD (fun q => G.2.1 ≤ q) U H ∧ vx_Zq Bundle.tN "SUPPRESSED_SENTINEL" Bundle.listD (fun q => G.2.1 ≤ q) U H) ∧ ((∀ q ∈ xstr, ∃ sa, vk_R q.1 q.2.1 q.2.2 sa U) ∧ ((∀ w ∈ xcd, va_Nw w U) ∧ ((∀ q ∈ xneg, va_Nc q.1 q.2 U) ∧ (va_AO "NumberedByAge$Shelf" U ∧ (va_X G.2.2.2.2.2.1 G.2.2.2.2.2.2.1 G.2.2.2.2.2.2.2 U H ∧ G.2.2.2.2.2.1 < G.2.1)))))
theorem Xs.go {G : Gx} {s U : State} {H : Heap} (hW : s.WarmedH U.vm) (h : Xs G s H) : Xs G U H :=
  ⟨⟨vx_Zq.moved hW.alike h.1.1, vx_Zq.moved hW.alike h.1.2⟩, fun q hq => (h.2.1 q hq).imp fun _ x => vk_R.warm hW x, fun w hw => xcd_warm hW w hw (h.2.2.1 w hw), fun q hq => va_Nc.moved hW.alike (h.2.2.2.1 q hq), va_AO.moved hW.alike h.2.2.2.2.1, va_X.moved hW.alike h.2.2.2.2.2.1, h.2.2.2.2.2.2⟩
theorem Xs.same {G : Gx} {s U : State} {H : Heap} (hv : s.vm = U.vm) (h : Xs G s H) : Xs G U H := by
  have hA : s.vm.Alike U.vm := by rw [hv]; exact Vm.Alike.refl _
  exact ⟨⟨vx_Zq.moved hA h.1.1, vx_Zq.moved hA h.1.2⟩, fun q hq => (h.2.1 q hq).imp fun _ x => vk_R.same hv.symm x, fun w hw => va_Nw.same (xcd_ot w hw) hv (h.2.2.1 w hw), fun q hq => va_Nc.moved hA (h.2.2.2.1 q hq), va_AO.moved hA h.2.2.2.2.1, va_X.moved hA h.2.2.2.2.2.1, h.2.2.2.2.2.2⟩
theorem Xs.kept {G : Gx} {s : State} {H H1 : Heap} (h : Xs G s H) (hq : ∀ a : Nat, a < H.size → ¬ G.2.1 ≤ a → H1[a]? = H[a]?) : Xs G s H1 := ⟨⟨vx_Zq.kept h.1.1 hq, vx_Zq.kept h.1.2 hq⟩, h.2.1, h.2.2.1, h.2.2.2.1, h.2.2.2.2.1, h.2.2.2.2.2.1.kept (hq _ (by obtain ⟨scr, e1, -⟩ := h.2.2.2.2.2.1; exact (Array.getElem?_eq_some_iff.mp e1).1) (Nat.not_le.mpr h.2.2.2.2.2.2)), h.2.2.2.2.2.2⟩
def Wl (G : Gx) (h : Hp) (U : State) : Prop := Rep G h U.heap ∧ (Kn G U ∧ (Nst U ∧ Xs G U U.heap))
def PQ (G : Gx) (v : Option Vv) (h' : Hp) : Array Value → State → Outcome → State → Prop := fun _ st o t => o = .returned (v.map (cv G.2.1)) ∧ Rep G h' t.heap ∧ va_F (fun q => G.2.1 ≤ q) st t
/-- a method's contract -/
def KM (l : Launch) (y : MethodName) (ws : List Cond) (fr lo : Nat) (G : Gx) (av : List Vv) (h : Hp) (v : Option Vv) (h' : Hp) : Prop :=
  Le h h' ∧ Met l y ws ({ frames := fr, cells := h'.length - h.length, slots := sl h' - sl h, locals := lo }) (va_Pc (av.map (cv G.2.1)) (Wl G h)) (PQ G v h') (h'.length - h.length) (sl h' - sl h) (fun q => G.2.1 ≤ q)
/-- what a method's text is: its bytes, its locals, its class, whether it is a constructor, its table of handlers, its type, its frames, its room -/
abbrev Mx : Type := ByteArray × (Nat × (String × ((Bool × List (Nat × Nat × Nat × Nat)) × (Option FieldType × (Nat × Nat)))))
def CX (G : Gx) (p : Program) (R : Room) (s : State) (m : MethodId) (args : Array Value) (meth : Method) (c : Code) (M : Mx) (h0 h' : Hp) : Prop :=
  CallFix p m c M.1 M.2.1 s args wsK M.2.2.1 ∧ (meth.locks = false ∧ meth.sig.returnType = M.2.2.2.2.1 ∧ ((M.2.2.2.1.1 = true → meth.name = "<init>") ∧ c.exceptionTable.toList = tableOf M.2.2.2.1.2)) ∧ (Kn G s ∧ (Nst s ∧ Xs G s s.heap)) ∧ (M.2.2.2.2.2.1 ≤ R.frames ∧ M.2.2.2.2.2.2 ≤ R.locals ∧ h'.length - h0.length ≤ R.cells ∧ sl h' - sl h0 ≤ R.slots) ∧ s.heap.size = G.2.1 + h0.length
abbrev cvl (b : Nat) (lv : List (Nat × Vv)) : List (Nat × Value) := lv.map fun q => (q.1, cv b q.2)
def RQ (G : Gx) (l : Launch) (M : Mx) (Qf : List Frame → Array Value → State → Hp → State → Prop) (h' : Hp) (pc : Nat) (lv : List (Nat × Vv)) (st : List Vv) (h : Hp) : Prop :=
  Le h h' ∧ ∀ (p : Program) (e : Env) (R : Room) (s : State) (m : MethodId) (args : Array Value) (below : List Frame) (meth : Method) (c : Code) (h0 : Hp), CX G p R s m args meth c M h0 h' → Le h0 h →
    ∀ (H : Heap) (locs : List Loc) (ls : Array Slot), Rep G h H → va_S (fun q => G.2.1 ≤ q) s.heap H locs → lv_has ls M.2.1 (cvl G.2.1 lv) →
      W p l e R s m args below meth c H locs (h.length - h0.length) (sl h - sl h0) (Qf below args s h0) (F0 m pc ls (st.map (cv G.2.1)))
/-- a method that returns v and leaves h' -/
abbrev qM (G : Gx) (v : Option Vv) (h' : Hp) : List Frame → Array Value → State → Hp → State → Prop := fun below args s h0 => MQ below (PQ G v h') args s (h'.length - h0.length) (sl h' - sl h0) (fun q => G.2.1 ≤ q)
abbrev RJ (G : Gx) (l : Launch) (M : Mx) (v : Option Vv) (h' : Hp) (pc : Nat) (lv : List (Nat × Vv)) (st : List Vv) (h : Hp) : Prop := RQ G l M (qM G v h') h' pc lv st h
section RJR
variable {G : Gx} {l : Launch} {M : Mx} {Qf : List Frame → Array Value → State → Hp → State → Prop} {h' : Hp} {pc : Nat} {lv : List (Nat × Vv)} {st : List Vv} {h : Hp}
theorem cvl_at {b : Nat} {lv : List (Nat × Vv)} {k i : Nat} {x : Vv} (q : lv[k]? = some (i, x)) : (cvl b lv)[k]? = some (i, cv b x) := by
  simp [cvl, q]
/-- fewer locals, in another order -/
def lpick (lv : List (Nat × Vv)) (ks : List Nat) : List (Nat × Vv) := ks.filterMap (fun k => lv[k]?)
theorem r_sub {lv' : List (Nat × Vv)} (ks : List Nat) (hl : lpick lv ks = lv') (K : RQ G l M Qf h' pc lv' st h) : RQ G l M Qf h' pc lv st h := by
  refine ⟨K.1, fun p e R s m args below meth c h0 C hl0 H locs ls hR hS hv => K.2 p e R s m args below meth c h0 C hl0 H locs ls hR hS (lv_sub hv ks ?_)⟩
  subst hl
  simp only [lv_pick, lpick, cvl, List.map_filterMap, List.getElem?_map]
/-- storing into a local -/
def lset (i : Nat) (x : Vv) (lv : List (Nat × Vv)) : List (Nat × Vv) := (i, x) :: lv.filter (fun q => !(q.1 == i) && !(q.1 + 1 == i && vW q.2))
def lset2 (i : Nat) (x : Vv) (lv : List (Nat × Vv)) : List (Nat × Vv) := (i, x) :: lv.filter (fun q => !(q.1 == i) && (!(q.1 == i + 1) && !(q.1 + 1 == i && vW q.2)))
theorem vW_cat (b : Nat) (x : Vv) : ((cv b x).category == 2) = vW x := by
  match x with
  | .inl x => rfl
  | .inr (.inl x) => rfl
  | .inr (.inr (.inl none)) => rfl
  | .inr (.inr (.inl (some a))) => rfl
  | .inr (.inr (.inr a)) => rfl
theorem lset_cv (b i : Nat) (x : Vv) (lv : List (Nat × Vv)) : (i, cv b x) :: (cvl b lv).filter (fun q => !(q.1 == i) && !(q.1 + 1 == i && q.2.category == 2)) = cvl b (lset i x lv) := by
  simp only [lset, cvl, List.map_cons, List.filter_map]
  congr 2
  refine List.filter_congr fun q _ => ?_
  simp only [Function.comp, vW_cat]
theorem lset2_cv (b i : Nat) (x : Vv) (lv : List (Nat × Vv)) : (i, cv b x) :: (cvl b lv).filter (fun q => !(q.1 == i) && (!(q.1 == i + 1) && !(q.1 + 1 == i && q.2.category == 2))) = cvl b (lset2 i x lv) := by
  simp only [lset2, cvl, List.map_cons, List.filter_map]
  congr 2
  refine List.filter_congr fun q _ => ?_
  simp only [Function.comp, vW_cat]

theorem r_iconst {n : Int} {x : Int32} (hd : decode M.1 pc = .ok (.iconst n, 1)) (hv9 : Int32.ofInt n = x) (K : RQ G l M Qf h' (pc + 1) lv (vI x :: st) h) : RQ G l M Qf h' pc lv st h :=
  ⟨K.1, fun p e R s m args below meth c h0 C hl0 H locs ls hR hS hv => lv_iconst C.1.1 C.1.2.1 hd hv9 (K.2 p e R s m args below meth c h0 C hl0 H locs ls hR hS hv)⟩
theorem r_bipush {n : Int} {x : Int32} (hd : decode M.1 pc = .ok (.bipush n, 2)) (hv9 : (Int8.ofInt n).toInt32 = x) (K : RQ G l M Qf h' (pc + 2) lv (vI x :: st) h) : RQ G l M Qf h' pc lv st h :=
  ⟨K.1, fun p e R s m args below meth c h0 C hl0 H locs ls hR hS hv => lv_bipush C.1.1 C.1.2.1 hd hv9 (K.2 p e R s m args below meth c h0 C hl0 H locs ls hR hS hv)⟩
theorem r_sipush {n : Int} {x : Int32} (hd : decode M.1 pc = .ok (.sipush n, 3)) (hv9 : (Int16.ofInt n).toInt32 = x) (K : RQ G l M Qf h' (pc + 3) lv (vI x :: st) h) : RQ G l M Qf h' pc lv st h :=
  ⟨K.1, fun p e R s m args below meth c h0 C hl0 H locs ls hR hS hv => lv_sipush C.1.1 C.1.2.1 hd hv9 (K.2 p e R s m args below meth c h0 C hl0 H locs ls hR hS hv)⟩
theorem r_lconst {n : Fin 2} {x : Int64} (hd : decode M.1 pc = .ok (.lconst n, 1)) (hv9 : Int64.ofNat (n : Nat) = x) (K : RQ G l M Qf h' (pc + 1) lv (vL x :: st) h) : RQ G l M Qf h' pc lv st h :=
  ⟨K.1, fun p e R s m args below meth c h0 C hl0 H locs ls hR hS hv => lv_lconst C.1.1 C.1.2.1 hd hv9 (K.2 p e R s m args below meth c h0 C hl0 H locs ls hR hS hv)⟩
theorem r_null  (hd : decode M.1 pc = .ok (.aconst_null, 1))  (K : RQ G l M Qf h' (pc + 1) lv (vR none :: st) h) : RQ G l M Qf h' pc lv st h :=
  ⟨K.1, fun p e R s m args below meth c h0 C hl0 H locs ls hR hS hv => lv_null C.1.1 C.1.2.1 hd (K.2 p e R s m args below meth c h0 C hl0 H locs ls hR hS hv)⟩
theorem r_ldc {i : Nat} {x : Int32} (hd : decode M.1 pc = .ok (.ldc i, 2)) (hw : Cond.constant M.2.2.1 i x ∈ wsK) (K : RQ G l M Qf h' (pc + 2) lv (vI x :: st) h) : RQ G l M Qf h' pc lv st h :=
  ⟨K.1, fun p e R s m args below meth c h0 C hl0 H locs ls hR hS hv => lv_ldc C.1.1 C.1.2.1 C.1.2.2.2.1 (C.1.2.2.2.2 _ hw) hd (K.2 p e R s m args below meth c h0 C hl0 H locs ls hR hS hv)⟩
theorem r_ldcw {i : Nat} {x : Int32} (hd : decode M.1 pc = .ok (.ldc_w i, 3)) (hw : Cond.constant M.2.2.1 i x ∈ wsK) (K : RQ G l M Qf h' (pc + 3) lv (vI x :: st) h) : RQ G l M Qf h' pc lv st h :=
  ⟨K.1, fun p e R s m args below meth c h0 C hl0 H locs ls hR hS hv => lv_ldcw C.1.1 C.1.2.1 C.1.2.2.2.1 (C.1.2.2.2.2 _ hw) hd (K.2 p e R s m args below meth c h0 C hl0 H locs ls hR hS hv)⟩
theorem r_ldc2 {i : Nat} {x : Int64} (hd : decode M.1 pc = .ok (.ldc2_w i, 3)) (hw : Cond.constantLong M.2.2.1 i x ∈ wsK) (K : RQ G l M Qf h' (pc + 3) lv (vL x :: st) h) : RQ G l M Qf h' pc lv st h :=
  ⟨K.1, fun p e R s m args below meth c h0 C hl0 H locs ls hR hS hv => lv_ldc2 C.1.1 C.1.2.1 C.1.2.2.2.1 (C.1.2.2.2.2 _ hw) hd (K.2 p e R s m args below meth c h0 C hl0 H locs ls hR hS hv)⟩
theorem r_iload_n {k : Fin 4} {x : Int32} (j : Nat) (hd : decode M.1 pc = .ok (.iload_n k, 1)) (hj : lv[j]? = some ((k : Nat), vI x)) (K : RQ G l M Qf h' (pc + 1) lv (vI x :: st) h) : RQ G l M Qf h' pc lv st h :=
  ⟨K.1, fun p e R s m args below meth c h0 C hl0 H locs ls hR hS hv => lv_iload_n C.1.1 C.1.2.1 hd rfl (lv_at hv j (cvl_at hj)) (K.2 p e R s m args below meth c h0 C hl0 H locs ls hR hS hv)⟩
theorem r_iload {i : Nat} {x : Int32} (j : Nat) (hd : decode M.1 pc = .ok (.iload i, 2)) (hj : lv[j]? = some (i, vI x)) (K : RQ G l M Qf h' (pc + 2) lv (vI x :: st) h) : RQ G l M Qf h' pc lv st h :=
  ⟨K.1, fun p e R s m args below meth c h0 C hl0 H locs ls hR hS hv => lv_iload C.1.1 C.1.2.1 hd (lv_at hv j (cvl_at hj)) (K.2 p e R s m args below meth c h0 C hl0 H locs ls hR hS hv)⟩
theorem r_lload_n {k : Fin 4} {x : Int64} (j : Nat) (hd : decode M.1 pc = .ok (.lload_n k, 1)) (hj : lv[j]? = some ((k : Nat), vL x)) (K : RQ G l M Qf h' (pc + 1) lv (vL x :: st) h) : RQ G l M Qf h' pc lv st h :=
  ⟨K.1, fun p e R s m args below meth c h0 C hl0 H locs ls hR hS hv => lv_lload_n C.1.1 C.1.2.1 hd rfl (lv_at hv j (cvl_at hj)) (K.2 p e R s m args below meth c h0 C hl0 H locs ls hR hS hv)⟩
theorem r_lload {i : Nat} {x : Int64} (j : Nat) (hd : decode M.1 pc = .ok (.lload i, 2)) (hj : lv[j]? = some (i, vL x)) (K : RQ G l M Qf h' (pc + 2) lv (vL x :: st) h) : RQ G l M Qf h' pc lv st h :=
  ⟨K.1, fun p e R s m args below meth c h0 C hl0 H locs ls hR hS hv => lv_lload C.1.1 C.1.2.1 hd (lv_at hv j (cvl_at hj)) (K.2 p e R s m args below meth c h0 C hl0 H locs ls hR hS hv)⟩
theorem r_aload_n {k : Fin 4} {x : Option Nat} (j : Nat) (hd : decode M.1 pc = .ok (.aload_n k, 1)) (hj : lv[j]? = some ((k : Nat), vR x)) (K : RQ G l M Qf h' (pc + 1) lv (vR x :: st) h) : RQ G l M Qf h' pc lv st h :=
  ⟨K.1, fun p e R s m args below meth c h0 C hl0 H locs ls hR hS hv => by
    have K2 := K.2 p e R s m args below meth c h0 C hl0 H locs ls hR hS hv
    cases x with
    | none => exact ro_aload_nN C.1.1 C.1.2.1 hd rfl (lv_at hv j (cvl_at hj)) K2
    | some a => exact lv_aload_n C.1.1 C.1.2.1 hd rfl (lv_at hv j (cvl_at hj)) K2⟩
theorem r_aload {i : Nat} {x : Option Nat} (j : Nat) (hd : decode M.1 pc = .ok (.aload i, 2)) (hj : lv[j]? = some (i, vR x)) (K : RQ G l M Qf h' (pc + 2) lv (vR x :: st) h) : RQ G l M Qf h' pc lv st h :=
  ⟨K.1, fun p e R s m args below meth c h0 C hl0 H locs ls hR hS hv => by
    have K2 := K.2 p e R s m args below meth c h0 C hl0 H locs ls hR hS hv
    cases x with
    | none => exact ro_aloadN C.1.1 C.1.2.1 hd (lv_at hv j (cvl_at hj)) K2
    | some a => exact lv_aload C.1.1 C.1.2.1 hd (lv_at hv j (cvl_at hj)) K2⟩
theorem r_istore_n {k : Fin 4} {x : Int32} {lv' : List (Nat × Vv)} (hd : decode M.1 pc = .ok (.istore_n k, 1)) (hn : (k : Nat) < M.2.1) (hl : lset (k : Nat) (vI x) lv = lv') (K : RQ G l M Qf h' (pc + 1) lv' st h) : RQ G l M Qf h' pc lv (vI x :: st) h := by
  subst hl
  exact ⟨K.1, fun p e R s m args below meth c h0 C hl0 H locs ls hR hS hv => lv_istore_n C.1.1 C.1.2.1 hd rfl hv hn (lset_cv _ _ (vI x) lv) (fun ls' hv' => K.2 p e R s m args below meth c h0 C hl0 H locs ls' hR hS hv')⟩
theorem r_istore {i : Nat} {x : Int32} {lv' : List (Nat × Vv)} (hd : decode M.1 pc = .ok (.istore i, 2)) (hn : i < M.2.1) (hl : lset i (vI x) lv = lv') (K : RQ G l M Qf h' (pc + 2) lv' st h) : RQ G l M Qf h' pc lv (vI x :: st) h := by
  subst hl
  exact ⟨K.1, fun p e R s m args below meth c h0 C hl0 H locs ls hR hS hv => lv_istore C.1.1 C.1.2.1 hd hv hn (lset_cv _ _ (vI x) lv) (fun ls' hv' => K.2 p e R s m args below meth c h0 C hl0 H locs ls' hR hS hv')⟩
theorem r_lstore_n {k : Fin 4} {x : Int64} {lv' : List (Nat × Vv)} (hd : decode M.1 pc = .ok (.lstore_n k, 1)) (hn : (k : Nat) + 1 < M.2.1) (hl : lset2 (k : Nat) (vL x) lv = lv') (K : RQ G l M Qf h' (pc + 1) lv' st h) : RQ G l M Qf h' pc lv (vL x :: st) h := by
  subst hl
  exact ⟨K.1, fun p e R s m args below meth c h0 C hl0 H locs ls hR hS hv => lv_lstore_n C.1.1 C.1.2.1 hd rfl hv hn (lset2_cv _ _ (vL x) lv) (fun ls' hv' => K.2 p e R s m args below meth c h0 C hl0 H locs ls' hR hS hv')⟩
theorem r_lstore {i : Nat} {x : Int64} {lv' : List (Nat × Vv)} (hd : decode M.1 pc = .ok (.lstore i, 2)) (hn : i + 1 < M.2.1) (hl : lset2 i (vL x) lv = lv') (K : RQ G l M Qf h' (pc + 2) lv' st h) : RQ G l M Qf h' pc lv (vL x :: st) h := by
  subst hl
  exact ⟨K.1, fun p e R s m args below meth c h0 C hl0 H locs ls hR hS hv => lv_lstore C.1.1 C.1.2.1 hd hv hn (lset2_cv _ _ (vL x) lv) (fun ls' hv' => K.2 p e R s m args below meth c h0 C hl0 H locs ls' hR hS hv')⟩
theorem r_aload_x {k : Fin 4} {a : Nat} (j : Nat) (hd : decode M.1 pc = .ok (.aload_n k, 1)) (hj : lv[j]? = some ((k : Nat), vX a)) (K : RQ G l M Qf h' (pc + 1) lv (vX a :: st) h) : RQ G l M Qf h' pc lv st h :=
  ⟨K.1, fun p e R s m args below meth c h0 C hl0 H locs ls hR hS hv => lv_aload_n C.1.1 C.1.2.1 hd rfl (lv_at hv j (cvl_at hj)) (K.2 p e R s m args below meth c h0 C hl0 H locs ls hR hS hv)⟩
theorem r_astoreX_n {k : Fin 4} {x : Nat} {lv' : List (Nat × Vv)} (hd : decode M.1 pc = .ok (.astore_n k, 1)) (hn : (k : Nat) < M.2.1) (hl : lset (k : Nat) (vX x) lv = lv') (K : RQ G l M Qf h' (pc + 1) lv' st h) : RQ G l M Qf h' pc lv (vX x :: st) h := by
  subst hl
  exact ⟨K.1, fun p e R s m args below meth c h0 C hl0 H locs ls hR hS hv => lv_astore_n C.1.1 C.1.2.1 hd rfl hv hn (lset_cv _ _ (vX x) lv) (fun ls' hv' => K.2 p e R s m args below meth c h0 C hl0 H locs ls' hR hS hv')⟩
theorem r_astoreX {i x : Nat} {lv' : List (Nat × Vv)} (hd : decode M.1 pc = .ok (.astore i, 2)) (hn : i < M.2.1) (hl : lset i (vX x) lv = lv') (K : RQ G l M Qf h' (pc + 2) lv' st h) : RQ G l M Qf h' pc lv (vX x :: st) h := by
  subst hl
  exact ⟨K.1, fun p e R s m args below meth c h0 C hl0 H locs ls hR hS hv => lv_astore C.1.1 C.1.2.1 hd hv hn (lset_cv _ _ (vX x) lv) (fun ls' hv' => K.2 p e R s m args below meth c h0 C hl0 H locs ls' hR hS hv')⟩
theorem r_pc {pc' : Nat} (e : pc = pc') (K : RQ G l M Qf h' pc' lv st h) : RQ G l M Qf h' pc lv st h := by
  subst e
  exact K
theorem r_astore_n {k : Fin 4} {x : Option Nat} {lv' : List (Nat × Vv)} (hd : decode M.1 pc = .ok (.astore_n k, 1)) (hn : (k : Nat) < M.2.1) (hl : lset (k : Nat) (vR x) lv = lv') (K : RQ G l M Qf h' (pc + 1) lv' st h) : RQ G l M Qf h' pc lv (vR x :: st) h := by
  subst hl
  refine ⟨K.1, fun p e R s m args below meth c h0 C hl0 H locs ls hR hS hv => ?_⟩
  cases x with
  | none => exact lv_astore_nN C.1.1 C.1.2.1 hd rfl hv hn (lset_cv _ _ (vR none) lv) (fun ls' hv' => K.2 p e R s m args below meth c h0 C hl0 H locs ls' hR hS hv')
  | some a => exact lv_astore_n C.1.1 C.1.2.1 hd rfl hv hn (lset_cv _ _ (vR (some a)) lv) (fun ls' hv' => K.2 p e R s m args below meth c h0 C hl0 H locs ls' hR hS hv')
theorem r_astore {i : Nat} {x : Option Nat} {lv' : List (Nat × Vv)} (hd : decode M.1 pc = .ok (.astore i, 2)) (hn : i < M.2.1) (hl : lset i (vR x) lv = lv') (K : RQ G l M Qf h' (pc + 2) lv' st h) : RQ G l M Qf h' pc lv (vR x :: st) h := by
  subst hl
  refine ⟨K.1, fun p e R s m args below meth c h0 C hl0 H locs ls hR hS hv => ?_⟩
  cases x with
  | none => exact lv_astoreN C.1.1 C.1.2.1 hd hv hn (lset_cv _ _ (vR none) lv) (fun ls' hv' => K.2 p e R s m args below meth c h0 C hl0 H locs ls' hR hS hv')
  | some a => exact lv_astore C.1.1 C.1.2.1 hd hv hn (lset_cv _ _ (vR (some a)) lv) (fun ls' hv' => K.2 p e R s m args below meth c h0 C hl0 H locs ls' hR hS hv')
theorem r_iinc {i : Nat} {n : Int} {x y : Int32} {lv' : List (Nat × Vv)} (j : Nat) (hd : decode M.1 pc = .ok (.iinc i n, 3)) (hj : lv[j]? = some (i, vI x)) (hy : x + Int32.ofInt n = y) (hn : i < M.2.1) (hl : lset i (vI y) lv = lv') (K : RQ G l M Qf h' (pc + 3) lv' st h) : RQ G l M Qf h' pc lv st h := by
  subst hl
  exact ⟨K.1, fun p e R s m args below meth c h0 C hl0 H locs ls hR hS hv => lv_iinc C.1.1 C.1.2.1 hd hv (cvl_at hj) hy hn (lset_cv _ _ (vI y) lv) (fun ls' hv' => K.2 p e R s m args below meth c h0 C hl0 H locs ls' hR hS hv')⟩
theorem r_iadd {x y : Int32} (hd : decode M.1 pc = .ok (.iadd, 1))  (K : RQ G l M Qf h' (pc + 1) lv (vI (x + y) :: st) h) : RQ G l M Qf h' pc lv (vI y :: vI x :: st) h :=
  ⟨K.1, fun p e R s m args below meth c h0 C hl0 H locs ls hR hS hv => lv_iadd C.1.1 C.1.2.1 hd (K.2 p e R s m args below meth c h0 C hl0 H locs ls hR hS hv)⟩
theorem r_isub {x y : Int32} (hd : decode M.1 pc = .ok (.isub, 1))  (K : RQ G l M Qf h' (pc + 1) lv (vI (x - y) :: st) h) : RQ G l M Qf h' pc lv (vI y :: vI x :: st) h :=
  ⟨K.1, fun p e R s m args below meth c h0 C hl0 H locs ls hR hS hv => lv_isub C.1.1 C.1.2.1 hd (K.2 p e R s m args below meth c h0 C hl0 H locs ls hR hS hv)⟩
theorem r_imul {x y : Int32} (hd : decode M.1 pc = .ok (.imul, 1))  (K : RQ G l M Qf h' (pc + 1) lv (vI (x * y) :: st) h) : RQ G l M Qf h' pc lv (vI y :: vI x :: st) h :=
  ⟨K.1, fun p e R s m args below meth c h0 C hl0 H locs ls hR hS hv => lv_imul C.1.1 C.1.2.1 hd (K.2 p e R s m args below meth c h0 C hl0 H locs ls hR hS hv)⟩
theorem r_iand {x y : Int32} (hd : decode M.1 pc = .ok (.iand, 1))  (K : RQ G l M Qf h' (pc + 1) lv (vI (x &&& y) :: st) h) : RQ G l M Qf h' pc lv (vI y :: vI x :: st) h :=
  ⟨K.1, fun p e R s m args below meth c h0 C hl0 H locs ls hR hS hv => lv_iand C.1.1 C.1.2.1 hd (K.2 p e R s m args below meth c h0 C hl0 H locs ls hR hS hv)⟩
theorem r_ior {x y : Int32} (hd : decode M.1 pc = .ok (.ior, 1))  (K : RQ G l M Qf h' (pc + 1) lv (vI (x ||| y) :: st) h) : RQ G l M Qf h' pc lv (vI y :: vI x :: st) h :=
  ⟨K.1, fun p e R s m args below meth c h0 C hl0 H locs ls hR hS hv => lv_ior C.1.1 C.1.2.1 hd (K.2 p e R s m args below meth c h0 C hl0 H locs ls hR hS hv)⟩
theorem r_ishl {x y : Int32} (hd : decode M.1 pc = .ok (.ishl, 1))  (K : RQ G l M Qf h' (pc + 1) lv (vI (x <<< (y &&& 31)) :: st) h) : RQ G l M Qf h' pc lv (vI y :: vI x :: st) h :=
  ⟨K.1, fun p e R s m args below meth c h0 C hl0 H locs ls hR hS hv => lv_ishl C.1.1 C.1.2.1 hd (K.2 p e R s m args below meth c h0 C hl0 H locs ls hR hS hv)⟩
theorem r_ishr {x y : Int32} (hd : decode M.1 pc = .ok (.ishr, 1))  (K : RQ G l M Qf h' (pc + 1) lv (vI (x >>> (y &&& 31)) :: st) h) : RQ G l M Qf h' pc lv (vI y :: vI x :: st) h :=
  ⟨K.1, fun p e R s m args below meth c h0 C hl0 H locs ls hR hS hv => lv_ishr C.1.1 C.1.2.1 hd (K.2 p e R s m args below meth c h0 C hl0 H locs ls hR hS hv)⟩
theorem r_ladd {x y : Int64} (hd : decode M.1 pc = .ok (.ladd, 1))  (K : RQ G l M Qf h' (pc + 1) lv (vL (x + y) :: st) h) : RQ G l M Qf h' pc lv (vL y :: vL x :: st) h :=
  ⟨K.1, fun p e R s m args below meth c h0 C hl0 H locs ls hR hS hv => lv_ladd C.1.1 C.1.2.1 hd (K.2 p e R s m args below meth c h0 C hl0 H locs ls hR hS hv)⟩
theorem r_ineg {x : Int32} (hd : decode M.1 pc = .ok (.ineg, 1))  (K : RQ G l M Qf h' (pc + 1) lv (vI (-x) :: st) h) : RQ G l M Qf h' pc lv (vI x :: st) h :=
  ⟨K.1, fun p e R s m args below meth c h0 C hl0 H locs ls hR hS hv => lv_ineg C.1.1 C.1.2.1 hd (K.2 p e R s m args below meth c h0 C hl0 H locs ls hR hS hv)⟩
theorem r_lcmp {x y : Int64} (hd : decode M.1 pc = .ok (.lcmp, 1))  (K : RQ G l M Qf h' (pc + 1) lv (vI (lg_cmp x y) :: st) h) : RQ G l M Qf h' pc lv (vL y :: vL x :: st) h :=
  ⟨K.1, fun p e R s m args below meth c h0 C hl0 H locs ls hR hS hv => W.lcmp C.1.1 C.1.2.1 hd (K.2 p e R s m args below meth c h0 C hl0 H locs ls hR hS hv)⟩
theorem r_i2l {x : Int32} (hd : decode M.1 pc = .ok (.i2l, 1))  (K : RQ G l M Qf h' (pc + 1) lv (vL x.toInt64 :: st) h) : RQ G l M Qf h' pc lv (vI x :: st) h :=
  ⟨K.1, fun p e R s m args below meth c h0 C hl0 H locs ls hR hS hv => lv_i2l C.1.1 C.1.2.1 hd rfl (K.2 p e R s m args below meth c h0 C hl0 H locs ls hR hS hv)⟩
theorem r_l2i {x : Int64} (hd : decode M.1 pc = .ok (.l2i, 1))  (K : RQ G l M Qf h' (pc + 1) lv (vI x.toInt32 :: st) h) : RQ G l M Qf h' pc lv (vL x :: st) h :=
  ⟨K.1, fun p e R s m args below meth c h0 C hl0 H locs ls hR hS hv => lv_l2i C.1.1 C.1.2.1 hd rfl (K.2 p e R s m args below meth c h0 C hl0 H locs ls hR hS hv)⟩
theorem r_i2b {x : Int32} (hd : decode M.1 pc = .ok (.i2b, 1))  (K : RQ G l M Qf h' (pc + 1) lv (vI x.toInt8.toInt32 :: st) h) : RQ G l M Qf h' pc lv (vI x :: st) h :=
  ⟨K.1, fun p e R s m args below meth c h0 C hl0 H locs ls hR hS hv => lv_i2b C.1.1 C.1.2.1 hd rfl (K.2 p e R s m args below meth c h0 C hl0 H locs ls hR hS hv)⟩
theorem r_i2s {x : Int32} (hd : decode M.1 pc = .ok (.i2s, 1))  (K : RQ G l M Qf h' (pc + 1) lv (vI x.toInt16.toInt32 :: st) h) : RQ G l M Qf h' pc lv (vI x :: st) h :=
  ⟨K.1, fun p e R s m args below meth c h0 C hl0 H locs ls hR hS hv => lv_i2s C.1.1 C.1.2.1 hd rfl (K.2 p e R s m args below meth c h0 C hl0 H locs ls hR hS hv)⟩
theorem r_idiv {x y z : Int32} (hd : decode M.1 pc = .ok (.idiv, 1)) (ez : dvI x y = some z) (K : RQ G l M Qf h' (pc + 1) lv (vI z :: st) h) : RQ G l M Qf h' pc lv (vI y :: vI x :: st) h := by
  obtain ⟨h1, rfl⟩ := dvI_sp ez
  exact ⟨K.1, fun p e R s m args below meth c h0 C hl0 H locs ls hR hS hv => lv_idiv C.1.1 C.1.2.1 hd h1 (K.2 p e R s m args below meth c h0 C hl0 H locs ls hR hS hv)⟩
theorem r_irem {x y z : Int32} (hd : decode M.1 pc = .ok (.irem, 1)) (ez : rmI x y = some z) (K : RQ G l M Qf h' (pc + 1) lv (vI z :: st) h) : RQ G l M Qf h' pc lv (vI y :: vI x :: st) h := by
  obtain ⟨h1, rfl⟩ := rmI_sp ez
  exact ⟨K.1, fun p e R s m args below meth c h0 C hl0 H locs ls hR hS hv => lv_irem C.1.1 C.1.2.1 hd h1 (K.2 p e R s m args below meth c h0 C hl0 H locs ls hR hS hv)⟩
theorem cat_cv {b : Nat} {x : Vv} (h : vW x = false) : (cv b x).category = 1 := by
  match x, h with
  | .inl x, _ => rfl
  | .inr (.inr (.inl none)), _ => rfl
  | .inr (.inr (.inl (some a))), _ => rfl
  | .inr (.inr (.inr a)), _ => rfl
theorem r_dup {x : Vv} (hd : decode M.1 pc = .ok (.dup, 1)) (hx : vW x = false) (K : RQ G l M Qf h' (pc + 1) lv (x :: x :: st) h) : RQ G l M Qf h' pc lv (x :: st) h :=
  ⟨K.1, fun p e R s m args below meth c h0 C hl0 H locs ls hR hS hv => lv_dup C.1.1 C.1.2.1 hd (cat_cv hx) (K.2 p e R s m args below meth c h0 C hl0 H locs ls hR hS hv)⟩
theorem r_pop {x : Vv} (hd : decode M.1 pc = .ok (.pop, 1)) (hx : vW x = false) (K : RQ G l M Qf h' (pc + 1) lv st h) : RQ G l M Qf h' pc lv (x :: st) h :=
  ⟨K.1, fun p e R s m args below meth c h0 C hl0 H locs ls hR hS hv => lv_pop C.1.1 C.1.2.1 hd (cat_cv hx) (K.2 p e R s m args below meth c h0 C hl0 H locs ls hR hS hv)⟩
theorem r_dup2 {x y : Vv} (hd : decode M.1 pc = .ok (.dup2, 1)) (hx : vW x = false) (hy : vW y = false) (K : RQ G l M Qf h' (pc + 1) lv (x :: y :: x :: y :: st) h) : RQ G l M Qf h' pc lv (x :: y :: st) h :=
  ⟨K.1, fun p e R s m args below meth c h0 C hl0 H locs ls hR hS hv => lv_dup2_11 C.1.1 C.1.2.1 hd (cat_cv hx) (cat_cv hy) (K.2 p e R s m args below meth c h0 C hl0 H locs ls hR hS hv)⟩
theorem r_goto {off : Int} {tgt : Nat} (hd : decode M.1 pc = .ok (.goto off, 3)) (ht : (pc : Int) + off = (tgt : Int)) (K : RQ G l M Qf h' tgt lv st h) : RQ G l M Qf h' pc lv st h :=
  ⟨K.1, fun p e R s m args below meth c h0 C hl0 H locs ls hR hS hv => lv_goto C.1.1 C.1.2.1 hd ht (K.2 p e R s m args below meth c h0 C hl0 H locs ls hR hS hv)⟩
theorem r_if_eq {x : Int32} {off : Int} {tgt : Nat} (hd : decode M.1 pc = .ok (.ifCond .eq off, 3)) (ht : (pc : Int) + off = (tgt : Int)) (K1 : x = 0 → RQ G l M Qf h' tgt lv st h) (K2 : ¬ (x = 0) → RQ G l M Qf h' (pc + 3) lv st h) : RQ G l M Qf h' pc lv (vI x :: st) h := by
  by_cases q : x = 0
  · exact ⟨(K1 q).1, fun p e R s m args below meth c h0 C hl0 H locs ls hR hS hv => lv_if_eq C.1.1 C.1.2.1 hd ht (fun _ => (K1 q).2 p e R s m args below meth c h0 C hl0 H locs ls hR hS hv) (fun nq => absurd q nq)⟩
  · exact ⟨(K2 q).1, fun p e R s m args below meth c h0 C hl0 H locs ls hR hS hv => lv_if_eq C.1.1 C.1.2.1 hd ht (fun q2 => absurd q2 q) (fun _ => (K2 q).2 p e R s m args below meth c h0 C hl0 H locs ls hR hS hv)⟩
theorem r_icmp_eq {x y : Int32} {off : Int} {tgt : Nat} (hd : decode M.1 pc = .ok (.if_icmp .eq off, 3)) (ht : (pc : Int) + off = (tgt : Int)) (K1 : x = y → RQ G l M Qf h' tgt lv st h) (K2 : ¬ (x = y) → RQ G l M Qf h' (pc + 3) lv st h) : RQ G l M Qf h' pc lv (vI y :: vI x :: st) h := by
  by_cases q : x = y
  · exact ⟨(K1 q).1, fun p e R s m args below meth c h0 C hl0 H locs ls hR hS hv => lv_icmp_eq C.1.1 C.1.2.1 hd ht (fun _ => (K1 q).2 p e R s m args below meth c h0 C hl0 H locs ls hR hS hv) (fun nq => absurd q nq)⟩
  · exact ⟨(K2 q).1, fun p e R s m args below meth c h0 C hl0 H locs ls hR hS hv => lv_icmp_eq C.1.1 C.1.2.1 hd ht (fun q2 => absurd q2 q) (fun _ => (K2 q).2 p e R s m args below meth c h0 C hl0 H locs ls hR hS hv)⟩
theorem r_if_lt {x : Int32} {off : Int} {tgt : Nat} (hd : decode M.1 pc = .ok (.ifCond .lt off, 3)) (ht : (pc : Int) + off = (tgt : Int)) (K1 : x < 0 → RQ G l M Qf h' tgt lv st h) (K2 : ¬ (x < 0) → RQ G l M Qf h' (pc + 3) lv st h) : RQ G l M Qf h' pc lv (vI x :: st) h := by
  by_cases q : x < 0
  · exact ⟨(K1 q).1, fun p e R s m args below meth c h0 C hl0 H locs ls hR hS hv => lv_if_lt C.1.1 C.1.2.1 hd ht (fun _ => (K1 q).2 p e R s m args below meth c h0 C hl0 H locs ls hR hS hv) (fun nq => absurd q nq)⟩
  · exact ⟨(K2 q).1, fun p e R s m args below meth c h0 C hl0 H locs ls hR hS hv => lv_if_lt C.1.1 C.1.2.1 hd ht (fun q2 => absurd q2 q) (fun _ => (K2 q).2 p e R s m args below meth c h0 C hl0 H locs ls hR hS hv)⟩
theorem r_icmp_lt {x y : Int32} {off : Int} {tgt : Nat} (hd : decode M.1 pc = .ok (.if_icmp .lt off, 3)) (ht : (pc : Int) + off = (tgt : Int)) (K1 : x < y → RQ G l M Qf h' tgt lv st h) (K2 : ¬ (x < y) → RQ G l M Qf h' (pc + 3) lv st h) : RQ G l M Qf h' pc lv (vI y :: vI x :: st) h := by
  by_cases q : x < y
  · exact ⟨(K1 q).1, fun p e R s m args below meth c h0 C hl0 H locs ls hR hS hv => lv_icmp_lt C.1.1 C.1.2.1 hd ht (fun _ => (K1 q).2 p e R s m args below meth c h0 C hl0 H locs ls hR hS hv) (fun nq => absurd q nq)⟩
  · exact ⟨(K2 q).1, fun p e R s m args below meth c h0 C hl0 H locs ls hR hS hv => lv_icmp_lt C.1.1 C.1.2.1 hd ht (fun q2 => absurd q2 q) (fun _ => (K2 q).2 p e R s m args below meth c h0 C hl0 H locs ls hR hS hv)⟩
theorem r_if_ge {x : Int32} {off : Int} {tgt : Nat} (hd : decode M.1 pc = .ok (.ifCond .ge off, 3)) (ht : (pc : Int) + off = (tgt : Int)) (K1 : 0 ≤ x → RQ G l M Qf h' tgt lv st h) (K2 : ¬ (0 ≤ x) → RQ G l M Qf h' (pc + 3) lv st h) : RQ G l M Qf h' pc lv (vI x :: st) h := by
  by_cases q : 0 ≤ x
  · exact ⟨(K1 q).1, fun p e R s m args below meth c h0 C hl0 H locs ls hR hS hv => lv_if_ge C.1.1 C.1.2.1 hd ht (fun _ => (K1 q).2 p e R s m args below meth c h0 C hl0 H locs ls hR hS hv) (fun nq => absurd q nq)⟩
  · exact ⟨(K2 q).1, fun p e R s m args below meth c h0 C hl0 H locs ls hR hS hv => lv_if_ge C.1.1 C.1.2.1 hd ht (fun q2 => absurd q2 q) (fun _ => (K2 q).2 p e R s m args below meth c h0 C hl0 H locs ls hR hS hv)⟩
theorem r_icmp_ge {x y : Int32} {off : Int} {tgt : Nat} (hd : decode M.1 pc = .ok (.if_icmp .ge off, 3)) (ht : (pc : Int) + off = (tgt : Int)) (K1 : y ≤ x → RQ G l M Qf h' tgt lv st h) (K2 : ¬ (y ≤ x) → RQ G l M Qf h' (pc + 3) lv st h) : RQ G l M Qf h' pc lv (vI y :: vI x :: st) h := by
  by_cases q : y ≤ x
  · exact ⟨(K1 q).1, fun p e R s m args below meth c h0 C hl0 H locs ls hR hS hv => lv_icmp_ge C.1.1 C.1.2.1 hd ht (fun _ => (K1 q).2 p e R s m args below meth c h0 C hl0 H locs ls hR hS hv) (fun nq => absurd q nq)⟩
  · exact ⟨(K2 q).1, fun p e R s m args below meth c h0 C hl0 H locs ls hR hS hv => lv_icmp_ge C.1.1 C.1.2.1 hd ht (fun q2 => absurd q2 q) (fun _ => (K2 q).2 p e R s m args below meth c h0 C hl0 H locs ls hR hS hv)⟩
theorem r_if_gt {x : Int32} {off : Int} {tgt : Nat} (hd : decode M.1 pc = .ok (.ifCond .gt off, 3)) (ht : (pc : Int) + off = (tgt : Int)) (K1 : 0 < x → RQ G l M Qf h' tgt lv st h) (K2 : ¬ (0 < x) → RQ G l M Qf h' (pc + 3) lv st h) : RQ G l M Qf h' pc lv (vI x :: st) h := by
  by_cases q : 0 < x
  · exact ⟨(K1 q).1, fun p e R s m args below meth c h0 C hl0 H locs ls hR hS hv => lv_if_gt C.1.1 C.1.2.1 hd ht (fun _ => (K1 q).2 p e R s m args below meth c h0 C hl0 H locs ls hR hS hv) (fun nq => absurd q nq)⟩
  · exact ⟨(K2 q).1, fun p e R s m args below meth c h0 C hl0 H locs ls hR hS hv => lv_if_gt C.1.1 C.1.2.1 hd ht (fun q2 => absurd q2 q) (fun _ => (K2 q).2 p e R s m args below meth c h0 C hl0 H locs ls hR hS hv)⟩
theorem r_icmp_gt {x y : Int32} {off : Int} {tgt : Nat} (hd : decode M.1 pc = .ok (.if_icmp .gt off, 3)) (ht : (pc : Int) + off = (tgt : Int)) (K1 : y < x → RQ G l M Qf h' tgt lv st h) (K2 : ¬ (y < x) → RQ G l M Qf h' (pc + 3) lv st h) : RQ G l M Qf h' pc lv (vI y :: vI x :: st) h := by
  by_cases q : y < x
  · exact ⟨(K1 q).1, fun p e R s m args below meth c h0 C hl0 H locs ls hR hS hv => lv_icmp_gt C.1.1 C.1.2.1 hd ht (fun _ => (K1 q).2 p e R s m args below meth c h0 C hl0 H locs ls hR hS hv) (fun nq => absurd q nq)⟩
  · exact ⟨(K2 q).1, fun p e R s m args below meth c h0 C hl0 H locs ls hR hS hv => lv_icmp_gt C.1.1 C.1.2.1 hd ht (fun q2 => absurd q2 q) (fun _ => (K2 q).2 p e R s m args below meth c h0 C hl0 H locs ls hR hS hv)⟩
theorem r_if_le {x : Int32} {off : Int} {tgt : Nat} (hd : decode M.1 pc = .ok (.ifCond .le off, 3)) (ht : (pc : Int) + off = (tgt : Int)) (K1 : x ≤ 0 → RQ G l M Qf h' tgt lv st h) (K2 : ¬ (x ≤ 0) → RQ G l M Qf h' (pc + 3) lv st h) : RQ G l M Qf h' pc lv (vI x :: st) h := by
  by_cases q : x ≤ 0
  · exact ⟨(K1 q).1, fun p e R s m args below meth c h0 C hl0 H locs ls hR hS hv => lv_if_le C.1.1 C.1.2.1 hd ht (fun _ => (K1 q).2 p e R s m args below meth c h0 C hl0 H locs ls hR hS hv) (fun nq => absurd q nq)⟩
  · exact ⟨(K2 q).1, fun p e R s m args below meth c h0 C hl0 H locs ls hR hS hv => lv_if_le C.1.1 C.1.2.1 hd ht (fun q2 => absurd q2 q) (fun _ => (K2 q).2 p e R s m args below meth c h0 C hl0 H locs ls hR hS hv)⟩
theorem r_icmp_le {x y : Int32} {off : Int} {tgt : Nat} (hd : decode M.1 pc = .ok (.if_icmp .le off, 3)) (ht : (pc : Int) + off = (tgt : Int)) (K1 : x ≤ y → RQ G l M Qf h' tgt lv st h) (K2 : ¬ (x ≤ y) → RQ G l M Qf h' (pc + 3) lv st h) : RQ G l M Qf h' pc lv (vI y :: vI x :: st) h := by
  by_cases q : x ≤ y
  · exact ⟨(K1 q).1, fun p e R s m args below meth c h0 C hl0 H locs ls hR hS hv => lv_icmp_le C.1.1 C.1.2.1 hd ht (fun _ => (K1 q).2 p e R s m args below meth c h0 C hl0 H locs ls hR hS hv) (fun nq => absurd q nq)⟩
  · exact ⟨(K2 q).1, fun p e R s m args below meth c h0 C hl0 H locs ls hR hS hv => lv_icmp_le C.1.1 C.1.2.1 hd ht (fun q2 => absurd q2 q) (fun _ => (K2 q).2 p e R s m args below meth c h0 C hl0 H locs ls hR hS hv)⟩
theorem r_if_ne {x : Int32} {off : Int} {tgt : Nat} (hd : decode M.1 pc = .ok (.ifCond .ne off, 3)) (ht : (pc : Int) + off = (tgt : Int)) (K1 : x = 0 → RQ G l M Qf h' (pc + 3) lv st h) (K2 : ¬ (x = 0) → RQ G l M Qf h' tgt lv st h) : RQ G l M Qf h' pc lv (vI x :: st) h := by
  by_cases q : x = 0
  · exact ⟨(K1 q).1, fun p e R s m args below meth c h0 C hl0 H locs ls hR hS hv => lv_if_ne C.1.1 C.1.2.1 hd ht (fun q2 => absurd q q2) (fun _ => (K1 q).2 p e R s m args below meth c h0 C hl0 H locs ls hR hS hv)⟩
  · exact ⟨(K2 q).1, fun p e R s m args below meth c h0 C hl0 H locs ls hR hS hv => lv_if_ne C.1.1 C.1.2.1 hd ht (fun _ => (K2 q).2 p e R s m args below meth c h0 C hl0 H locs ls hR hS hv) (fun q2 => absurd q2 q)⟩
theorem r_icmp_ne {x y : Int32} {off : Int} {tgt : Nat} (hd : decode M.1 pc = .ok (.if_icmp .ne off, 3)) (ht : (pc : Int) + off = (tgt : Int)) (K1 : x = y → RQ G l M Qf h' (pc + 3) lv st h) (K2 : ¬ (x = y) → RQ G l M Qf h' tgt lv st h) : RQ G l M Qf h' pc lv (vI y :: vI x :: st) h := by
  by_cases q : x = y
  · exact ⟨(K1 q).1, fun p e R s m args below meth c h0 C hl0 H locs ls hR hS hv => lv_icmp_ne C.1.1 C.1.2.1 hd ht (fun q2 => absurd q q2) (fun _ => (K1 q).2 p e R s m args below meth c h0 C hl0 H locs ls hR hS hv)⟩
  · exact ⟨(K2 q).1, fun p e R s m args below meth c h0 C hl0 H locs ls hR hS hv => lv_icmp_ne C.1.1 C.1.2.1 hd ht (fun _ => (K2 q).2 p e R s m args below meth c h0 C hl0 H locs ls hR hS hv) (fun q2 => absurd q2 q)⟩
theorem r_ifnull {x : Option Nat} {off : Int} {tgt : Nat} (hd : decode M.1 pc = .ok (.ifnull off, 3)) (ht : (pc : Int) + off = (tgt : Int)) (K1 : x = none → RQ G l M Qf h' tgt lv st h) (K2 : ¬ x = none → RQ G l M Qf h' (pc + 3) lv st h) : RQ G l M Qf h' pc lv (vR x :: st) h := by
  cases x with
  | none =>
    have K := K1 rfl
    exact ⟨K.1, fun p e R s m args below meth c h0 C hl0 H locs ls hR hS hv => lv_ifnullN C.1.1 C.1.2.1 hd ht (K.2 p e R s m args below meth c h0 C hl0 H locs ls hR hS hv)⟩
  | some a =>
    have K := K2 (fun q => by cases q)
    exact ⟨K.1, fun p e R s m args below meth c h0 C hl0 H locs ls hR hS hv => lv_ifnull C.1.1 C.1.2.1 hd (K.2 p e R s m args below meth c h0 C hl0 H locs ls hR hS hv)⟩
theorem r_ifnonnull {x : Option Nat} {off : Int} {tgt : Nat} (hd : decode M.1 pc = .ok (.ifnonnull off, 3)) (ht : (pc : Int) + off = (tgt : Int)) (K1 : x = none → RQ G l M Qf h' (pc + 3) lv st h) (K2 : ¬ x = none → RQ G l M Qf h' tgt lv st h) : RQ G l M Qf h' pc lv (vR x :: st) h := by
  cases x with
  | none =>
    have K := K1 rfl
    exact ⟨K.1, fun p e R s m args below meth c h0 C hl0 H locs ls hR hS hv => lv_ifnonnullN C.1.1 C.1.2.1 hd (K.2 p e R s m args below meth c h0 C hl0 H locs ls hR hS hv)⟩
  | some a =>
    have K := K2 (fun q => by cases q)
    exact ⟨K.1, fun p e R s m args below meth c h0 C hl0 H locs ls hR hS hv => lv_ifnonnull C.1.1 C.1.2.1 hd ht (K.2 p e R s m args below meth c h0 C hl0 H locs ls hR hS hv)⟩
theorem r_lookup {dflt : Int} {ps : Array (Int × Int)} {len : Nat} {x : Int32} {off : Int} {tgt : Nat} (hd : decode M.1 pc = .ok (.lookupswitch dflt ps, len)) (hp : (ps.toList.zip (ps.toList.drop 1)).all (fun (a, next) => a.1 < next.1) = true) (ho : Op.lookupswitch.offset ps.toList dflt x.toInt = off) (ht : (pc : Int) + off = (tgt : Int)) (K : RQ G l M Qf h' tgt lv st h) : RQ G l M Qf h' pc lv (vI x :: st) h :=
  ⟨K.1, fun p e R s m args below meth c h0 C hl0 H locs ls hR hS hv => lv_lookup C.1.1 C.1.2.1 hd hp ho ht (K.2 p e R s m args below meth c h0 C hl0 H locs ls hR hS hv)⟩
theorem r_tabOut {dflt lo hi : Int} {offs : Array Int} {len : Nat} {x : Int32} {tgt : Nat} (hd : decode M.1 pc = .ok (.tableswitch dflt lo hi offs, len)) (hx : x.toInt < lo ∨ hi < x.toInt) (ht : (pc : Int) + dflt = (tgt : Int)) (K : RQ G l M Qf h' tgt lv st h) : RQ G l M Qf h' pc lv (vI x :: st) h :=
  ⟨K.1, fun p e R s m args below meth c h0 C hl0 H locs ls hR hS hv => lv_tableOut C.1.1 C.1.2.1 hd hx ht (K.2 p e R s m args below meth c h0 C hl0 H locs ls hR hS hv)⟩
theorem r_tabIn {dflt lo hi : Int} {offs : Array Int} {len : Nat} {x : Int32} {off : Int} {tgt : Nat} (hd : decode M.1 pc = .ok (.tableswitch dflt lo hi offs, len)) (h1 : ¬ x.toInt < lo) (h2 : ¬ hi < x.toInt) (ho : offs[(x.toInt - lo).toNat]? = some off) (ht : (pc : Int) + off = (tgt : Int)) (K : RQ G l M Qf h' tgt lv st h) : RQ G l M Qf h' pc lv (vI x :: st) h :=
  ⟨K.1, fun p e R s m args below meth c h0 C hl0 H locs ls hR hS hv => lv_tableIn C.1.1 C.1.2.1 hd h1 h2 ho ht (K.2 p e R s m args below meth c h0 C hl0 H locs ls hR hS hv)⟩
end RJR
