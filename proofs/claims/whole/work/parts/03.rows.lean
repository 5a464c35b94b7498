/-! Rows of the heap: fields, rows of numbers, what is made; calls; ends. -/
theorem gd_w {w : Cond} (h : w ∈ wsK) : (w.onTables && w.keeps) = true ∨ ∃ ty, w = .arrayClass ty := good_of_word (wsK_gd w h)
theorem gIn {ws : List Cond} (h : ∀ w ∈ ws, w ∈ wsK) : GoodIn wsK ws := fun w hw => ⟨h w hw, gd_w (h w hw)⟩
theorem P1 {D : va_G} {cl : List vw_C} {q : Nat × va_E} {H : Heap} (h : va_at D cl q H) : va_P D cl [q] H := by
  intro k x hk
  match k, hk with
  | 0, hk => cases hk; exact h
  | k + 1, hk => simp at hk
/-- the class table's row of a field, for some classes -/
def FL (cs : List Nat) (k : Nat) (O nm ds : String) (fin : Bool) : Prop :=
  ∀ ci ∈ cs, ∃ (C : String) (T : u_T) (N : Nat) (ty : Nat → FieldType), vwCl[ci]? = some (C, T, N) ∧ ((∀ w ∈ u_ws C T N, w ∈ wsK) ∧ (T k = (O, nm, ds, fin) ∧ (k < N ∧ ((∀ k, k < N → parseFieldDescriptor (T k).2.2.1 = some (ty k)) ∧ (∀ a, a < N → ∀ b, b < N → a ≠ b → (T a).2.1 ≠ (T b).2.1)))))
theorem FL.one {ci k : Nat} {O nm ds : String} {fin : Bool} {C : String} {T : u_T} {N : Nat} (ty : Nat → FieldType) (h1 : vwCl[ci]? = some (C, T, N)) (h2 : ∀ w ∈ u_ws C T N, w ∈ wsK) (h3 : T k = (O, nm, ds, fin)) (h4 : k < N) (h5 : ∀ k, k < N → parseFieldDescriptor (T k).2.2.1 = some (ty k)) (h6 : ∀ a, a < N → ∀ b, b < N → a ≠ b → (T a).2.1 ≠ (T b).2.1) : FL [ci] k O nm ds fin := by
  intro c hc
  rw [List.mem_singleton.mp hc]
  exact ⟨C, T, N, ty, h1, h2, h3, h4, h5, h6⟩
theorem FL.cons {ci k : Nat} {cs : List Nat} {O nm ds : String} {fin : Bool} (h1 : FL [ci] k O nm ds fin) (h2 : FL cs k O nm ds fin) : FL (ci :: cs) k O nm ds fin := by
  intro c hc
  rcases List.mem_cons.mp hc with q | q
  · exact h1 c (by rw [q]; exact List.mem_singleton.mpr rfl)
  · exact h2 c q
section RJH
variable {G : Gx} {l : Launch} {M : Mx} {Qf : List Frame → Array Value → State → Hp → State → Prop} {h' : Hp} {pc : Nat} {lv : List (Nat × Vv)} {st : List Vv} {h : Hp}
theorem RQ.same {h1 : Hp} (K : RQ G l M Qf h' pc lv st h1) (e1 : h1.length = h.length) (e2 : sl h1 = sl h) : Le h h' ∧ ∀ (p : Program) (e : Env) (R : Room) (s : State) (m : MethodId) (args : Array Value) (below : List Frame) (meth : Method) (c : Code) (h0 : Hp), CX G p R s m args meth c M h0 h' → Le h0 h →
    ∀ (H : Heap) (locs : List Loc) (ls : Array Slot), Rep G h1 H → va_S (fun q => G.2.1 ≤ q) s.heap H locs → lv_has ls M.2.1 (cvl G.2.1 lv) →
      W p l e R s m args below meth c H locs (h.length - h0.length) (sl h - sl h0) (Qf below args s h0) (F0 m pc ls (st.map (cv G.2.1))) := by
  refine ⟨⟨by rw [← e1]; exact K.1.1, by rw [← e2]; exact K.1.2⟩, fun p e R s m args below meth c h0 C hl0 H locs ls hR hS hv => ?_⟩
  have K2 := K.2 p e R s m args below meth c h0 C ⟨by rw [e1]; exact hl0.1, by rw [e2]; exact hl0.2⟩ H locs ls hR hS hv
  rw [← e1, ← e2]
  exact K2
theorem obj_at {H : Heap} {a ci : Nat} {fs : List Vv} (hR : Rep G h H) (he : h[a]? = some (eO ci fs)) : va_at G.1 vwCl (G.2.1 + a, .inr (ci, fs.map (cv G.2.1))) H := hR.2 a _ he
theorem int_at {H : Heap} {a n : Nat} {f : Nat → Int32} (hR : Rep G h H) (he : h[a]? = some (eI n f)) : va_at G.1 vwCl (G.2.1 + a, .inl (G.2.2.1, n, .inl f)) H := hR.2 a _ he
theorem lng_at {H : Heap} {a n : Nat} {f : Nat → Int64} (hR : Rep G h H) (he : h[a]? = some (eL n f)) : va_at G.1 vwCl (G.2.1 + a, .inl (G.2.2.2.1, n, .inr (.inl f))) H := hR.2 a _ he
theorem rfs_at {H : Heap} {a n : Nat} {f : Nat → Option Nat} (hR : Rep G h H) (he : h[a]? = some (eR n f)) : va_at G.1 vwCl (G.2.1 + a, .inl (G.2.2.2.2.1, n, .inr (.inr (.inr (.inr (cE G.2.1 f)))))) H := hR.2 a _ he
theorem rf_cv (b : Nat) (f : Nat → Option Nat) (j : Nat) : va_rf (cE b f j) = cv b (vR (f j)) := by
  unfold cE
  cases f j <;> rfl
theorem r_get {r : Option Nat} {cs : List Nat} {k idx : Nat} {ref O nm ds : String} {fin : Bool} {x : Vv} (hd : decode M.1 pc = .ok (.getfield idx, 3)) (hF : FL cs k O nm ds fin) (hl : Cond.fieldLink M.2.2.1 idx ref nm ds ∈ wsK) (hs : ref = O ∨ Cond.sameField ref O nm ds ∈ wsK) (e : gF h r cs k = some x) (K : RQ G l M Qf h' (pc + 3) lv (x :: st) h) : RQ G l M Qf h' pc lv (vR r :: st) h := by
  obtain ⟨a, ci, fs, rfl, he, hc, hk⟩ := gF_sp e
  obtain ⟨C1, T, N, ty, f1, f2, f3, f4, f5, f6⟩ := hF ci hc
  refine ⟨K.1, fun p e R s m args below meth c h0 C hl0 H locs ls hR hS hv => ?_⟩
  have K2 := K.2 p e R s m args below meth c h0 C hl0 H locs ls hR hS hv
  have e1 : (T k).1 = O := by rw [f3]
  have e2 : (T k).2.1 = nm := by rw [f3]
  have e3 : (T k).2.2.1 = ds := by rw [f3]
  subst e1; subst e2; subst e3
  refine va_get (ref := ref) C.1.1 C.1.2.1 C.1.2.2.2.2 f2 C.1.2.2.2.1 C.2.2.1.1 (P1 (obj_at hR he)) 0 rfl f1 k f4 (C.1.2.2.2.2 _ hl) ?_ (v := cv G.2.1 x) (by rw [List.getElem?_map, hk]; rfl) hd K2
  rcases hs with hs | hs
  · intro y hy
    rw [hs]
    exact hy
  · exact fun y hy => u_same (C.1.2.2.2.2 _ hs) y hy
theorem r_getN {r : Option Nat} {cs : List Nat} {k idx : Nat} {O nm ds : String} {fin : Bool} {x : Vv} (hd : decode M.1 pc = .ok (.getfield idx, 3)) (hF : FL cs k O nm ds fin) (hl : (M.2.2.1, idx, O, nm, ds) ∈ nstF) (e : gF h r cs k = some x) (K : RQ G l M Qf h' (pc + 3) lv (x :: st) h) : RQ G l M Qf h' pc lv (vR r :: st) h := by
  obtain ⟨a, ci, fs, rfl, he, hc, hk⟩ := gF_sp e
  obtain ⟨C1, T, N, ty, f1, f2, f3, f4, f5, f6⟩ := hF ci hc
  refine ⟨K.1, fun p e R s m args below meth c h0 C hl0 H locs ls hR hS hv => ?_⟩
  have K2 := K.2 p e R s m args below meth c h0 C hl0 H locs ls hR hS hv
  have e1 : (T k).1 = O := by rw [f3]
  have e2 : (T k).2.1 = nm := by rw [f3]
  have e3 : (T k).2.2.1 = ds := by rw [f3]
  subst e1; subst e2; subst e3
  exact va_getN (ref := (T k).1) (host := n_host) C.1.1 C.1.2.1 C.1.2.2.2.2 f2 C.1.2.2.2.1 C.2.2.1.1 (P1 (obj_at hR he)) 0 rfl f1 k f4 (va_Nw.use rfl (C.2.2.1.2.1.2 _ hl)) (fun _ q => q) (v := cv G.2.1 x) (by rw [List.getElem?_map, hk]; rfl) hd K2
/-- what a field of a type may hold -/
def FitV (ty : FieldType) (x : Vv) : Prop := ∀ b, narrow ty (cv b x) = cv b x ∧ fits ty (cv b x) = true
theorem fit_int (x : Int32) : FitV .int (vI x) := fun _ => ⟨rfl, rfl⟩
theorem fit_bool {x : Int32} (hx : x = 0 ∨ x = 1) : FitV .boolean (vI x) := fun _ => by
  rcases hx with rfl | rfl
  · exact ⟨(by decide +kernel : narrow .boolean (.int 0) = .int 0), (by decide +kernel : fits .boolean (.int 0) = true)⟩
  · exact ⟨(by decide +kernel : narrow .boolean (.int 1) = .int 1), (by decide +kernel : fits .boolean (.int 1) = true)⟩
theorem fit_ref (C : String) (r : Option Nat) : FitV (.object C) (vR r) := fun b => by
  cases r with
  | none => exact ⟨rfl, rfl⟩
  | some a => exact ⟨rfl, rfl⟩
theorem fit_arr (t : FieldType) (r : Option Nat) : FitV (.array t) (vR r) := fun b => by
  cases r with
  | none => exact ⟨rfl, rfl⟩
  | some a => exact ⟨rfl, rfl⟩

theorem r_put {r : Option Nat} {cs : List Nat} {k idx : Nat} {ref O nm ds : String} {x : Vv} {h1 : Hp} {ty : FieldType} (hd : decode M.1 pc = .ok (.putfield idx, 3)) (hF : FL cs k O nm ds false) (hl : Cond.fieldLink M.2.2.1 idx ref nm ds ∈ wsK) (hs : ref = O ∨ Cond.sameField ref O nm ds ∈ wsK) (hp : parseFieldDescriptor ds = some ty) (hfit : FitV ty x) (e : pF h r cs k x = some h1) (K : RQ G l M Qf h' (pc + 3) lv st h1) : RQ G l M Qf h' pc lv (x :: vR r :: st) h := by
  obtain ⟨a, ci, fs, rfl, he, hc, hk, rfl⟩ := pF_sp e
  obtain ⟨C1, T, N, ty0, f1, f2, f3, f4, f5, f6⟩ := hF ci hc
  obtain ⟨kle, K2⟩ := K.same (h := h) (by simp) (sl_set h a _ _ he (by simp [en_sz]))
  refine ⟨kle, fun p e R s m args below meth c h0 C hl0 H locs ls hR hS hv => ?_⟩
  have hts := C.1.2.2.2.2
  have hK := C.2.2.1.1
  have hap := va_apart (own := M.2.2.1) hts f2 ty0 f5 f6 hK f1
  obtain ⟨r, g1, cell, q1, q2, q3, q4⟩ := obj_at hR he
  have hr : r = (C1, T, N) := Option.some.inj (g1.symm.trans f1)
  subst hr
  obtain ⟨hSl, hfc, kC, hkC, hkind⟩ := hK.1 ci _ f1
  obtain ⟨cf, kf, fi, fd, hi, hsl⟩ := hSl k f4
  have hlay := hts _ (f2 _ (u_in_lay f4))
  unfold u_lay at hlay
  rw [if_neg (by rw [f3]; exact Bool.false_ne_true)] at hlay
  have hst := (u_facts hfc hkC (u_lays hts f2 f4) hi).1
  have e1 : (T k).1 = O := by rw [f3]
  have e2 : (T k).2.1 = nm := by rw [f3]
  have e3 : (T k).2.2.1 = ds := by rw [f3]
  subst e1; subst e2; subst e3
  have hsm : ∀ y, s.fieldFound? (T k).1 (T k).2.1 (T k).2.2.1 = some y → s.fieldFound? ref (T k).2.1 (T k).2.2.1 = some y := by
    rcases hs with hs | hs
    · intro y hy
      rw [hs]
      exact hy
    · exact fun y hy => u_same (C.1.2.2.2.2 _ hs) y hy
  have h6 := u_store hfc hkC hkind hlay hi hp (hfit G.2.1).1 (hfit G.2.1).2
  refine W.putK C.1.1 C.1.2.1 (f := fd) ⟨C.1.2.2.2.1, hts _ hl, ⟨_, _, _, hsm _ hi⟩, hst⟩ (by rw [q2]; exact h6) q1 q3 (by rw [hsl]; exact k2_hasslot (q4 k f4)) rfl rfl hd fun H' z1 z2 z3 => ?_
  rw [hsl] at z1 ⊢
  refine K2 p e R s m args below meth c h0 C hl0 H' _ ls (hR.set z2 z3 ?_) (hS.put z2 z3 (Nat.le_add_right _ _)) hv
  refine ⟨_, f1, ?_⟩
  have hV := t_OB.to (V := updV (vp_V (fs.map (cv G.2.1))) k (cv G.2.1 x)) (V' := vp_V ((fs.map (cv G.2.1)).set k (cv G.2.1 x))) ⟨_, z1, q2, q3, t_set q4 hap f4 (cv G.2.1 x)⟩ (fun j _ => vp_updV_set (by rw [List.length_map]; exact hk) (cv G.2.1 x) j)
  rw [← List.map_set] at hV
  exact hV

theorem r_putF {r : Option Nat} {cs : List Nat} {k idx : Nat} {ref O nm ds : String} {x : Vv} {h1 : Hp} {ty : FieldType} (hd : decode M.1 pc = .ok (.putfield idx, 3)) (hF : FL cs k O nm ds true) (hl : Cond.fieldLink M.2.2.1 idx ref nm ds ∈ wsK) (hs : ref = O ∨ Cond.sameField ref O nm ds ∈ wsK) (hct : M.2.2.2.1.1 = true) (hO : O = M.2.2.1) (hp : parseFieldDescriptor ds = some ty) (hfit : FitV ty x) (e : pF h r cs k x = some h1) (K : RQ G l M Qf h' (pc + 3) lv st h1) : RQ G l M Qf h' pc lv (x :: vR r :: st) h := by
  obtain ⟨a, ci, fs, rfl, he, hc, hk, rfl⟩ := pF_sp e
  obtain ⟨C1, T, N, ty0, f1, f2, f3, f4, f5, f6⟩ := hF ci hc
  obtain ⟨kle, K2⟩ := K.same (h := h) (by simp) (sl_set h a _ _ he (by simp [en_sz]))
  refine ⟨kle, fun p e R s m args below meth c h0 C hl0 H locs ls hR hS hv => ?_⟩
  have hts := C.1.2.2.2.2
  have hK := C.2.2.1.1
  have hap := va_apart (own := M.2.2.1) hts f2 ty0 f5 f6 hK f1
  obtain ⟨r, g1, cell, q1, q2, q3, q4⟩ := obj_at hR he
  have hr : r = (C1, T, N) := Option.some.inj (g1.symm.trans f1)
  subst hr
  obtain ⟨hSl, hfc, kC, hkC, hkind⟩ := hK.1 ci _ f1
  obtain ⟨cf, kf, fi, fd, hi, hsl⟩ := hSl k f4
  have hlay := hts _ (f2 _ (u_in_lay f4))
  unfold u_lay at hlay
  rw [if_pos (by rw [f3])] at hlay
  have hst := (u_facts hfc hkC (u_lays hts f2 f4) hi).1
  have e1 : (T k).1 = O := by rw [f3]
  have e2 : (T k).2.1 = nm := by rw [f3]
  have e3 : (T k).2.2.1 = ds := by rw [f3]
  subst e1; subst e2; subst e3
  have hsm : ∀ y, s.fieldFound? (T k).1 (T k).2.1 (T k).2.2.1 = some y → s.fieldFound? ref (T k).2.1 (T k).2.2.1 = some y := by
    rcases hs with hs | hs
    · intro y hy
      rw [hs]
      exact hy
    · exact fun y hy => u_same (C.1.2.2.2.2 _ hs) y hy
  have hcf : m.cls = cf := by
    obtain ⟨_, _, c', _, _, _, -, -, hf', -, -, -, hown2, -⟩ := Cond.laysFinal_spec hlay
    have e1 : c' = cf := by have := hi.symm.trans hf'; simp at this; exact this.1.symm
    rw [hO] at hown2
    rw [← e1]; exact Option.some.inj (C.1.2.2.2.1.symm.trans hown2)
  have h6 := u_fits hfc hkC hkind (Or.inr hlay) hi hp (hfit G.2.1).1 (hfit G.2.1).2
  refine W.putFinK C.1.1 C.1.2.1 C.1.2.2.2.1 (hts _ hl) (hsm _ hi) hst hcf (C.2.1.2.2.1 hct) (by rw [q2]; exact h6) q1 q3 (by rw [hsl]; exact k2_hasslot (q4 k f4)) rfl rfl hd fun H' z1 z2 z3 => ?_
  rw [hsl] at z1 ⊢
  refine K2 p e R s m args below meth c h0 C hl0 H' _ ls (hR.set z2 z3 ?_) (hS.put z2 z3 (Nat.le_add_right _ _)) hv
  refine ⟨_, f1, ?_⟩
  have hV := t_OB.to (V := updV (vp_V (fs.map (cv G.2.1))) k (cv G.2.1 x)) (V' := vp_V ((fs.map (cv G.2.1)).set k (cv G.2.1 x))) ⟨_, z1, q2, q3, t_set q4 hap f4 (cv G.2.1 x)⟩ (fun j _ => vp_updV_set (by rw [List.length_map]; exact hk) (cv G.2.1 x) j)
  rw [← List.map_set] at hV
  exact hV

theorem r_putN {r : Option Nat} {cs : List Nat} {k idx : Nat} {ref O nm ds : String} {x : Vv} {h1 : Hp} {ty : FieldType} (hd : decode M.1 pc = .ok (.putfield idx, 3)) (hF : FL cs k O nm ds false) (hl : (M.2.2.1, idx, O, nm, ds) ∈ nstF) (hp : parseFieldDescriptor ds = some ty) (hfit : FitV ty x) (e : pF h r cs k x = some h1) (K : RQ G l M Qf h' (pc + 3) lv st h1) : RQ G l M Qf h' pc lv (x :: vR r :: st) h := by
  obtain ⟨a, ci, fs, rfl, he, hc, hk, rfl⟩ := pF_sp e
  obtain ⟨C1, T, N, ty0, f1, f2, f3, f4, f5, f6⟩ := hF ci hc
  obtain ⟨kle, K2⟩ := K.same (h := h) (by simp) (sl_set h a _ _ he (by simp [en_sz]))
  refine ⟨kle, fun p e R s m args below meth c h0 C hl0 H locs ls hR hS hv => ?_⟩
  have hts := C.1.2.2.2.2
  have hK := C.2.2.1.1
  have hap := va_apart (own := M.2.2.1) hts f2 ty0 f5 f6 hK f1
  obtain ⟨r, g1, cell, q1, q2, q3, q4⟩ := obj_at hR he
  have hr : r = (C1, T, N) := Option.some.inj (g1.symm.trans f1)
  subst hr
  obtain ⟨hSl, hfc, kC, hkC, hkind⟩ := hK.1 ci _ f1
  obtain ⟨cf, kf, fi, fd, hi, hsl⟩ := hSl k f4
  have hlay := hts _ (f2 _ (u_in_lay f4))
  unfold u_lay at hlay
  rw [if_neg (by rw [f3]; exact Bool.false_ne_true)] at hlay
  have hst := (u_facts hfc hkC (u_lays hts f2 f4) hi).1
  have e1 : (T k).1 = O := by rw [f3]
  have e2 : (T k).2.1 = nm := by rw [f3]
  have e3 : (T k).2.2.1 = ds := by rw [f3]
  subst e1; subst e2; subst e3
  have h6 := u_store hfc hkC hkind hlay hi hp (hfit G.2.1).1 (hfit G.2.1).2
  refine va_WputK (host := n_host) C.1.1 C.1.2.1 (f := fd) C.1.2.2.2.1 (va_Nw.use rfl (C.2.2.1.2.1.2 _ hl)) hi hst (by rw [q2]; exact h6) q1 q3 (by rw [hsl]; exact k2_hasslot (q4 k f4)) rfl rfl hd fun H' z1 z2 z3 => ?_
  rw [hsl] at z1 ⊢
  refine K2 p e R s m args below meth c h0 C hl0 H' _ ls (hR.set z2 z3 ?_) (hS.put z2 z3 (Nat.le_add_right _ _)) hv
  refine ⟨_, f1, ?_⟩
  have hV := t_OB.to (V := updV (vp_V (fs.map (cv G.2.1))) k (cv G.2.1 x)) (V' := vp_V ((fs.map (cv G.2.1)).set k (cv G.2.1 x))) ⟨_, z1, q2, q3, t_set q4 hap f4 (cv G.2.1 x)⟩ (fun j _ => vp_updV_set (by rw [List.length_map]; exact hk) (cv G.2.1 x) j)
  rw [← List.map_set] at hV
  exact hV

theorem r_iaload {r : Option Nat} {i x : Int32} (hd : decode M.1 pc = .ok (.iaload, 1)) (e : aI h r i = some x) (K : RQ G l M Qf h' (pc + 1) lv (vI x :: st) h) : RQ G l M Qf h' pc lv (vI i :: vR r :: st) h := by
  obtain ⟨a, n, f, rfl, he, hin, rfl⟩ := aI_sp e
  exact ⟨K.1, fun p e R s m args below meth c h0 C hl0 H locs ls hR hS hv => va_iald C.1.1 C.1.2.1 C.2.2.1.1 (P1 (int_at hR he)) 0 0 rfl rfl hin hd (K.2 p e R s m args below meth c h0 C hl0 H locs ls hR hS hv)⟩
theorem r_laload {r : Option Nat} {i : Int32} {x : Int64} (hd : decode M.1 pc = .ok (.laload, 1)) (e : aL h r i = some x) (K : RQ G l M Qf h' (pc + 1) lv (vL x :: st) h) : RQ G l M Qf h' pc lv (vI i :: vR r :: st) h := by
  obtain ⟨a, n, f, rfl, he, hin, rfl⟩ := aL_sp e
  exact ⟨K.1, fun p e R s m args below meth c h0 C hl0 H locs ls hR hS hv => va_lald C.1.1 C.1.2.1 C.2.2.1.1 (P1 (lng_at hR he)) 0 1 rfl rfl hin hd (K.2 p e R s m args below meth c h0 C hl0 H locs ls hR hS hv)⟩
theorem r_aaload {r : Option Nat} {i : Int32} {x : Option Nat} (hd : decode M.1 pc = .ok (.aaload, 1)) (e : aR h r i = some x) (K : RQ G l M Qf h' (pc + 1) lv (vR x :: st) h) : RQ G l M Qf h' pc lv (vI i :: vR r :: st) h := by
  obtain ⟨a, n, f, rfl, he, hin, rfl⟩ := aR_sp e
  refine ⟨K.1, fun p e R s m args below meth c h0 C hl0 H locs ls hR hS hv => va_aldq C.1.1 C.1.2.1 C.2.2.1.1 (P1 (rfs_at hR he)) 0 2 rfl rfl hin hd ?_⟩
  have K2 := K.2 p e R s m args below meth c h0 C hl0 H locs ls hR hS hv
  rw [rf_cv]
  exact K2
theorem r_iastore {r : Option Nat} {i x : Int32} {h1 : Hp} (hd : decode M.1 pc = .ok (.iastore, 1)) (e : wI h r i x = some h1) (K : RQ G l M Qf h' (pc + 1) lv st h1) : RQ G l M Qf h' pc lv (vI x :: vI i :: vR r :: st) h := by
  obtain ⟨a, n, f, rfl, he, hin, rfl⟩ := wI_sp e
  obtain ⟨kle, K2⟩ := K.same (h := h) (by simp) (sl_set h a _ _ he (by simp [en_sz]))
  refine ⟨kle, fun p e R s m args below meth c h0 C hl0 H locs ls hR hS hv => ?_⟩
  refine W.iast C.1.1 C.1.2.1 (int_at hR he) ((C.2.2.1.1.2 0 _ rfl).1 n (fun j => .int (f j))) (fun q => by cases q) (by show ¬ (i < 0 ∨ (arrV _ _ _).slots.size ≤ _); rw [arrV_size]; exact hin) rfl rfl hd fun H1 e1 z oq => ?_
  refine K2 p e R s m args below meth c h0 C hl0 H1 _ ls (hR.set z oq ?_) (hS.put z oq (Nat.le_add_right _ _)) hv
  show H1[_]? = some (vp_cell _ _)
  rw [e1]
  rw [vp_cell_i, vp_cell_i, arrV_store]
  congr 2
  funext q
  by_cases hq : q = i.toNatClampNeg
  · subst hq
    simp [updV, upd]
  · simp [updV, upd, hq]
theorem r_lastore {r : Option Nat} {i : Int32} {x : Int64} {h1 : Hp} (hd : decode M.1 pc = .ok (.lastore, 1)) (e : wL h r i x = some h1) (K : RQ G l M Qf h' (pc + 1) lv st h1) : RQ G l M Qf h' pc lv (vL x :: vI i :: vR r :: st) h := by
  obtain ⟨a, n, f, rfl, he, hin, rfl⟩ := wL_sp e
  obtain ⟨kle, K2⟩ := K.same (h := h) (by simp) (sl_set h a _ _ he (by simp [en_sz]))
  refine ⟨kle, fun p e R s m args below meth c h0 C hl0 H locs ls hR hS hv => ?_⟩
  refine W.last C.1.1 C.1.2.1 (lng_at hR he) ((C.2.2.1.1.2 1 _ rfl).1 n (fun j => .long (f j))) (fun q => by cases q) (by show ¬ (i < 0 ∨ (arrV _ _ _).slots.size ≤ _); rw [arrV_size]; exact hin) rfl rfl hd fun H1 e1 z oq => ?_
  refine K2 p e R s m args below meth c h0 C hl0 H1 _ ls (hR.set z oq ?_) (hS.put z oq (Nat.le_add_right _ _)) hv
  show H1[_]? = some (vp_cell _ _)
  rw [e1]
  rw [vp_cell_l, vp_cell_l, arrV_store]
  congr 2
  funext q
  by_cases hq : q = i.toNatClampNeg
  · subst hq
    simp [updV, vp_updL]
  · simp [updV, vp_updL, hq]
theorem r_aastore {r x : Option Nat} {i : Int32} {h1 : Hp} (hd : decode M.1 pc = .ok (.aastore, 1)) (e : wR h r i x 5 = some h1) (K : RQ G l M Qf h' (pc + 1) lv st h1) : RQ G l M Qf h' pc lv (vR x :: vI i :: vR r :: st) h := by
  obtain ⟨a, n, f, y, fs, rfl, he, rfl, hy, hin, rfl⟩ := wR_sp e
  obtain ⟨kle, K2⟩ := K.same (h := h) (by simp) (sl_set h a _ _ he (by simp [en_sz]))
  refine ⟨kle, fun p e R s m args below meth c h0 C hl0 H locs ls hR hS hv => ?_⟩
  have hlt : i.toNatClampNeg < n := Nat.not_le.mp fun q => hin (Or.inr q)
  have h00 : ¬ i < 0 := fun q => hin (Or.inl q)
  obtain ⟨r', hr', cellV, g1, g2, g3, -⟩ := obj_at hR hy
  have hcls := (C.2.2.1.1.1 5 _ rfl).2
  obtain ⟨kA, comp, k1, k2, k3, -⟩ := (C.2.2.1.1.2 2 _ rfl).2
  have hcomp : comp = G.1.1 5 := Option.some.inj (k3.symm.trans hcls.1)
  subst hcomp
  obtain ⟨kC, hkC, -⟩ := hcls.2
  refine W.aast C.1.1 C.1.2.1 (rfs_at hR he) (fun q h => by cases h) (fun h => by cases h) k1 k2 rfl hkC ⟨h00, by show _ < (arrV _ _ _).slots.size; rw [arrV_size]; exact hlt⟩ g1 (fun q h => by rw [g3] at h; cases h) (by rw [g2]; exact hkC) (by rw [g2]; exact va_assign hcls) rfl rfl hd fun H1 e1 z oq => ?_
  refine K2 p e R s m args below meth c h0 C hl0 H1 _ ls (hR.set z oq ?_) (hS.put z oq (Nat.le_add_right _ _)) hv
  show H1[_]? = some (vp_cell _ _)
  rw [e1]
  rw [vp_cell_q, vp_cell_q, arrV_store]
  congr 2
  funext q
  by_cases hq : q = i.toNatClampNeg
  · subst hq
    simp [updV, va_up, va_rf, cE]
  · simp [updV, va_up, hq, cE]
/-- the script's ints -/
def sI (L : Nat) (xs : Nat → Int32) (i : Int32) : Option Int32 := if inB i L = true then some (xs i.toNatClampNeg) else none
theorem sI_sp {L : Nat} {xs : Nat → Int32} {i x : Int32} (e : sI L xs i = some x) : vp_in i L ∧ x = xs i.toNatClampNeg := by
  unfold sI at e
  split at e
  · rename_i h1
    cases e
    exact ⟨inB_sp h1, rfl⟩
  · cases e
theorem r_sload {i x : Int32} (hd : decode M.1 pc = .ok (.iaload, 1)) (e : sI G.2.2.2.2.2.2.1 G.2.2.2.2.2.2.2 i = some x) (K : RQ G l M Qf h' (pc + 1) lv (vI x :: st) h) : RQ G l M Qf h' pc lv (vI i :: vX G.2.2.2.2.2.1 :: st) h := by
  obtain ⟨hin, rfl⟩ := sI_sp e
  refine ⟨K.1, fun p e R s m args below meth c h0 C hl0 H locs ls hR hS hv => ?_⟩
  have hX := C.2.2.1.2.2.2.2.2.2.2
  exact va_sld C.1.1 C.1.2.1 hX.1 (by obtain ⟨scr, e1, -⟩ := hX.1; exact (Array.getElem?_eq_some_iff.mp e1).1) (Nat.not_le.mpr hX.2) hS hin hd (K.2 p e R s m args below meth c h0 C hl0 H locs ls hR hS hv)
theorem r_slen (hd : decode M.1 pc = .ok (.arraylength, 1)) (K : RQ G l M Qf h' (pc + 1) lv (vI (Int32.ofNat G.2.2.2.2.2.2.1) :: st) h) : RQ G l M Qf h' pc lv (vX G.2.2.2.2.2.1 :: st) h := by
  refine ⟨K.1, fun p e R s m args below meth c h0 C hl0 H locs ls hR hS hv => ?_⟩
  have hX := C.2.2.1.2.2.2.2.2.2.2
  exact va_slen C.1.1 C.1.2.1 hX.1 (by obtain ⟨scr, e1, -⟩ := hX.1; exact (Array.getElem?_eq_some_iff.mp e1).1) (Nat.not_le.mpr hX.2) hS hd (K.2 p e R s m args below meth c h0 C hl0 H locs ls hR hS hv)
theorem r_lenI {r : Option Nat} {x : Int32} (hd : decode M.1 pc = .ok (.arraylength, 1)) (e : lenI h r = some x) (K : RQ G l M Qf h' (pc + 1) lv (vI x :: st) h) : RQ G l M Qf h' pc lv (vR r :: st) h := by
  obtain ⟨a, n, f, rfl, he, rfl⟩ := lenI_sp e
  exact ⟨K.1, fun p e R s m args below meth c h0 C hl0 H locs ls hR hS hv => va_alen C.1.1 C.1.2.1 C.2.2.1.1 (P1 (int_at hR he)) 0 0 rfl rfl rfl hd (K.2 p e R s m args below meth c h0 C hl0 H locs ls hR hS hv)⟩
theorem r_lenR {r : Option Nat} {x : Int32} (hd : decode M.1 pc = .ok (.arraylength, 1)) (e : lenR h r = some x) (K : RQ G l M Qf h' (pc + 1) lv (vI x :: st) h) : RQ G l M Qf h' pc lv (vR r :: st) h := by
  obtain ⟨a, n, f, rfl, he, rfl⟩ := lenR_sp e
  exact ⟨K.1, fun p e R s m args below meth c h0 C hl0 H locs ls hR hS hv => va_alen C.1.1 C.1.2.1 C.2.2.1.1 (P1 (rfs_at hR he)) 0 2 rfl rfl rfl hd (K.2 p e R s m args below meth c h0 C hl0 H locs ls hR hS hv)⟩
/-- the room for one more cell -/
theorem room_new {h0 h' : Hp} {e : En} {R : Room} (h1 : Le h0 h) (h2 : Le (h ++ [e]) h') (r1 : h'.length - h0.length ≤ R.cells) (r2 : sl h' - sl h0 ≤ R.slots) : h.length - h0.length + 1 ≤ R.cells ∧ sl h - sl h0 + en_sz e ≤ R.slots := by
  have a1 := h1.1
  have a2 := h1.2
  have b1 := h2.1
  have b2 := h2.2
  rw [sl_push] at b2
  simp at b1
  constructor <;> omega
theorem vaS_new {A : Nat → Prop} {H0 H H1 : Heap} {locs : List Loc} (hS : va_S A H0 H locs) (z1 : H1.size = H.size + 1) (o1 : ∀ q : Nat, q < H.size → H1[q]? = H[q]?) : va_S A H0 H1 locs :=
  ⟨Nat.le_trans hS.1 (by omega), fun x h1 h2 => (o1 x (Nat.lt_of_lt_of_le h1 hS.1)).trans (hS.2.1 x h1 h2), hS.2.2⟩
theorem RQ.more {e : En} {st' : List Vv} (K : RQ G l M Qf h' pc lv st' (h ++ [e])) : Le h h' ∧ ∀ (p : Program) (e' : Env) (R : Room) (s : State) (m : MethodId) (args : Array Value) (below : List Frame) (meth : Method) (c : Code) (h0 : Hp), CX G p R s m args meth c M h0 h' → Le h0 h →
    ∀ (H : Heap) (locs : List Loc) (ls : Array Slot), Rep G (h ++ [e]) H → va_S (fun q => G.2.1 ≤ q) s.heap H locs → lv_has ls M.2.1 (cvl G.2.1 lv) →
      W p l e' R s m args below meth c H locs (h.length - h0.length + 1) (sl h - sl h0 + en_sz e) (Qf below args s h0) (F0 m pc ls (st'.map (cv G.2.1))) := by
  refine ⟨Le.tr Le.push K.1, fun p e' R s m args below meth c h0 C hl0 H locs ls hR hS hv => ?_⟩
  have K2 := K.2 p e' R s m args below meth c h0 C (Le.tr hl0 Le.push) H locs ls hR hS hv
  have a1 := hl0.1
  have a2 := hl0.2
  refine W.widen ?_ ?_ K2 <;> first | (rw [sl_push]; omega) | (simp; omega)
theorem r_newI {x : Int32} {n : Nat} (hd : decode M.1 pc = .ok (.newarray .int, 2)) (hw : Cond.arrayClass .int ∈ wsK) (hn : ¬ x < 0) (hN : x.toNatClampNeg = n) (hb : n * 4 ≤ 536870912) (K : RQ G l M Qf h' (pc + 2) lv (vR (some h.length) :: st) (h ++ [eI n (fun _ => 0)])) : RQ G l M Qf h' pc lv (vI x :: st) h := by
  obtain ⟨kle, K2⟩ := K.more
  refine ⟨kle, fun p e R s m args below meth c h0 C hl0 H locs ls hR hS hv => ?_⟩
  obtain ⟨r1, r2⟩ := room_new hl0 K.1 C.2.2.2.1.2.2.1 C.2.2.2.1.2.2.2
  refine va_newaK C.1.1 C.1.2.1 (atype := .int) (C.1.2.2.2.2 _ hw) rfl hd rfl hn hN hb r1 r2 hR.1 fun H1 cA e1 z1 o1 hAr hNm => ?_
  have hcA : cA = G.2.2.1 := Option.some.inj (hNm.symm.trans (C.2.2.1.1.2 0 _ rfl).2)
  subst hcA
  have o2 : ∀ q : Nat, q < H.size → H1[q]? = H[q]? := fun q hq => o1 q (by rw [← hR.1]; exact hq)
  exact K2 p e R s m args below meth c h0 C hl0 H1 locs ls (hR.push (by rw [z1, hR.1]) o2 e1) (vaS_new hS (by rw [z1, hR.1]) o2) hv
theorem r_newL {x : Int32} {n : Nat} (hd : decode M.1 pc = .ok (.newarray .long, 2)) (hw : Cond.arrayClass .long ∈ wsK) (hn : ¬ x < 0) (hN : x.toNatClampNeg = n) (hb : n * 8 ≤ 536870912) (K : RQ G l M Qf h' (pc + 2) lv (vR (some h.length) :: st) (h ++ [eL n (fun _ => 0)])) : RQ G l M Qf h' pc lv (vI x :: st) h := by
  obtain ⟨kle, K2⟩ := K.more
  refine ⟨kle, fun p e R s m args below meth c h0 C hl0 H locs ls hR hS hv => ?_⟩
  obtain ⟨r1, r2⟩ := room_new hl0 K.1 C.2.2.2.1.2.2.1 C.2.2.2.1.2.2.2
  refine va_newaK C.1.1 C.1.2.1 (atype := .long) (C.1.2.2.2.2 _ hw) rfl hd rfl hn hN hb r1 r2 hR.1 fun H1 cA e1 z1 o1 hAr hNm => ?_
  have hcA : cA = G.2.2.2.1 := Option.some.inj (hNm.symm.trans (C.2.2.1.1.2 1 _ rfl).2)
  subst hcA
  have o2 : ∀ q : Nat, q < H.size → H1[q]? = H[q]? := fun q hq => o1 q (by rw [← hR.1]; exact hq)
  exact K2 p e R s m args below meth c h0 C hl0 H1 locs ls (hR.push (by rw [z1, hR.1]) o2 e1) (vaS_new hS (by rw [z1, hR.1]) o2) hv
theorem r_newR {x : Int32} {n idx : Nat} (hd : decode M.1 pc = .ok (.anewarray idx, 3)) (hw : Cond.classLink M.2.2.1 idx "NumberedByAge$Shelf" ∈ wsK) (hn : ¬ x < 0) (hN : x.toNatClampNeg = n) (hb : n * 4 ≤ 536870912) (K : RQ G l M Qf h' (pc + 3) lv (vR (some h.length) :: st) (h ++ [eR n (fun _ => none)])) : RQ G l M Qf h' pc lv (vI x :: st) h := by
  obtain ⟨kle, K2⟩ := K.more
  refine ⟨kle, fun p e R s m args below meth c h0 C hl0 H locs ls hR hS hv => ?_⟩
  obtain ⟨r1, r2⟩ := room_new hl0 K.1 C.2.2.2.1.2.2.1 C.2.2.2.1.2.2.2
  subst hN
  refine W.anew C.1.1 C.1.2.1 C.1.2.2.2.1 (C.1.2.2.2.2 _ hw) (va_AO.use C.2.2.1.2.2.2.2.2.2.1) rfl hd rfl hn hb r1 r2 fun cA kA comp f1 f2 f3 f4 => ?_
  obtain ⟨kA', comp', -, -, -, k4⟩ := (C.2.2.1.1.2 2 _ rfl).2
  have hcA : cA = G.2.2.2.2.1 := Option.some.inj (f1.symm.trans k4)
  subst hcA
  generalize hH1 : H.push ({ cls := G.2.2.2.2.1, slots := Array.replicate x.toNatClampNeg .null, vm := .none } : Cell) = H1
  have z1 : H1.size = H.size + 1 := by rw [← hH1, Array.size_push]
  have e1 : H1[H.size]? = some (arrV G.2.2.2.2.1 x.toNatClampNeg (fun _ => .null)) := by rw [← hH1, Array.getElem?_push_size, ← arrV_new]
  have o1 : ∀ q : Nat, q < H.size → H1[q]? = H[q]? := fun q hq => by rw [← hH1, Array.getElem?_push, if_neg (Nat.ne_of_lt hq)]
  have K3 := K2 p e R s m args below meth c h0 C hl0 H1 locs ls (hR.push z1 o1 (by rw [hR.1] at e1; exact e1)) (vaS_new hS z1 o1) hv
  rw [hR.1]
  exact K3
/-- an object is made -/
theorem r_new {ci idx : Nat} {Cn : String} {T : u_T} {N : Nat} {fs : List Vv} (ty : Nat → FieldType) (hd : decode M.1 pc = .ok (.new idx, 3)) (hc : vwCl[ci]? = some (Cn, T, N)) (hin : ∀ w ∈ u_ws Cn T N, w ∈ wsK) (hty : ∀ k, k < N → parseFieldDescriptor (T k).2.2.1 = some (ty k)) (hl : Cond.classLink M.2.2.1 idx Cn ∈ wsK) (hi : Cond.instantiable Cn N ∈ wsK) (hni : Cond.initialized Cn ∈ wsK) (hn : fs.length = N) (hfs : ∀ j, j < N → defaultValue (ty j) = vp_V (fs.map (cv G.2.1)) j) (K : RQ G l M Qf h' (pc + 3) lv (vR (some h.length) :: st) (h ++ [eO ci fs])) : RQ G l M Qf h' pc lv st h := by
  obtain ⟨kle, K2⟩ := K.more
  refine ⟨kle, fun p e R s m args below meth c h0 C hl0 H locs ls hR hS hv => ?_⟩
  obtain ⟨r1, r2⟩ := room_new hl0 K.1 C.2.2.2.1.2.2.1 C.2.2.2.1.2.2.2
  have hts := C.1.2.2.2.2
  have hKn := C.2.2.1.1.1 ci _ hc
  have hN2 : en_sz (eO ci fs) = N := hn
  rw [hN2] at r2 K2
  refine W.newcK C.1.1 C.1.2.1 C.1.2.2.2.1 (hts _ hl) (hts _ hi) (hts _ hni) rfl hd r1 r2 hKn.2.1 hR.1 fun H1 kC hkC e1 z1 o1 => ?_
  have o2 : ∀ q : Nat, q < H.size → H1[q]? = H[q]? := fun q hq => o1 q (by rw [← hR.1]; exact hq)
  exact K2 p e R s m args below meth c h0 C hl0 H1 locs ls (hR.push (by rw [z1, hR.1]) o2 ⟨_, hc, (u_born ty hts hin hKn hkC e1 hty).to hfs⟩) (vaS_new hS (by rw [z1, hR.1]) o2) hv
theorem r_copy {r r2 : Option Nat} {sp dp n : Int32} {idx : Nat} {h1 : Hp} (hd : decode M.1 pc = .ok (.invokestatic idx, 3)) (w1 : Cond.methodLink M.2.2.1 idx arraycopyName ∈ wsK) (w2 : Cond.native arraycopyName ∈ wsK) (w3 : Cond.static arraycopyName ∈ wsK) (w4 : Cond.initialized "java/lang/System" ∈ wsK) (hfr : 1 ≤ M.2.2.2.2.2.1) (hlo : 40 ≤ M.2.2.2.2.2.2) (hst : (st.map (fun x => if vW x = true then 2 else 1)).sum ≤ 8) (e : cpI h r sp r2 dp n = some h1) (K : RQ G l M Qf h' (pc + 3) lv st h1) : RQ G l M Qf h' pc lv (vI n :: vI dp :: vR r2 :: vI sp :: vR r :: st) h := by
  obtain ⟨a0, n0, f, a, n1, g, rfl, ha0, rfl, ha1, ⟨q1, q2, q3, q4, q5⟩, rfl⟩ := cpI_sp e
  obtain ⟨kle, K2⟩ := K.same (h := h) (by simp) (sl_set h a _ _ ha1 (by simp [en_sz]))
  refine ⟨kle, fun p e R s m args below meth c h0 C hl0 H locs ls hR hS hv => ?_⟩
  have nn : ∀ z : Int32, ¬ z < 0 → z.toInt = (z.toNatClampNeg : Int) := by
    intro z hz
    have hz0 : (0 : Int) ≤ z.toInt := by
      have := Int32.not_lt.mp hz
      simpa using Int32.le_iff_toInt_le.mp this
    show z.toInt = ((z.toInt.toNat : Nat) : Int)
    omega
  have hml : c.maxLocals = ls.size := C.1.2.2.1.trans hv.1.symm
  have hb := C.1.2.1
  have hlo' := C.2.2.2.1.2.1
  have hsum : ((st.map (cv G.2.1)).map fun v => v.category).sum ≤ 8 := by
    have e : (st.map (cv G.2.1)).map (fun v => v.category) = st.map (fun x => if vW x = true then 2 else 1) := by
      rw [List.map_map]
      refine List.map_congr_left fun x _ => ?_
      match x with
      | .inl x => rfl
      | .inr (.inl x) => rfl
      | .inr (.inr (.inl none)) => rfl
      | .inr (.inr (.inl (some a))) => rfl
      | .inr (.inr (.inr a)) => rfl
    rw [e]
    exact hst
  intro T hT X
  have hc0 := int_at hR ha0
  have hc1 := int_at hR ha1
  obtain ⟨-, k0, hk0, cm0, hkk0⟩ := (C.2.2.1.1.2 0 _ rfl).1 n0 (fun j => .int (f j))
  obtain ⟨-, k1, hk1, cm1, hkk1⟩ := (C.2.2.1.1.2 0 _ rfl).1 n1 (fun j => .int (g j))
  obtain ⟨vm', X', step⟩ := X.arraycopy C.1.1 C.1.2.2.2.1 (C.1.2.2.2.2 _ w1) (C.1.2.2.2.2 _ w2) (C.1.2.2.2.2 _ w3) (C.1.2.2.2.2 _ w4) (src := G.2.1 + a0) (dst := G.2.1 + a) (cs := vp_cell G.2.2.1 (n0, .inl f)) (cd := vp_cell G.2.2.1 (n1, .inl g)) (srcPos := sp) (destPos := dp) (n := n) (by rw [hT]; exact hc0) (by rw [hT]; exact hc1)
    (fun _ h => by cases h) (fun _ h => by cases h) (fun h => by cases h) (fun h => by cases h) hk0 hk1 hkk0 hkk1 (by simp [refKind]) q1 q2 q3
    (by rw [nn sp q1, nn n q3]; show ¬ _ > ((arrV G.2.2.1 n0 (fun j => .int (f j))).slots.size : Int); rw [arrV_size]; omega)
    (by rw [nn dp q2, nn n q3]; show ¬ _ > ((arrV G.2.2.1 n1 (fun j => .int (g j))).slots.size : Int); rw [arrV_size]; omega)
    (fun vm₁ _ i hi => by
      have e : (vp_cell G.2.2.1 (n0, .inl f)).slots.getD (sp.toNatClampNeg + i) .null = .int (f (sp.toNatClampNeg + i)) := by
        show (arrV G.2.2.1 n0 (fun j => .int (f j))).slots.getD _ _ = _
        rw [Array.getD_eq_getD_getElem?, arrV_read _ _ (by omega)]
        rfl
      refine ⟨?_, ?_⟩
      · rw [e]
        rfl
      · rw [e]
        exact trivial)
    (g := F0 m pc ls ((vI n :: vI dp :: vR (some a) :: vI sp :: vR (some a0) :: st).map (cv G.2.1))) rfl (by rw [hml]) (rest := st.map (cv G.2.1)) rfl (by rw [hb]; exact hd) (Nat.le_trans hfr C.2.2.2.1.1) (by
      have e9 : nativeFrameWords "java/lang/System" "arraycopy" 5 + 11 ≤ 30 := by decide +kernel
      show 2 * 0 + _ + _ ≤ _
      omega)
  have e1 : copied (vp_cell G.2.2.1 (n0, .inl f)) (vp_cell G.2.2.1 (n1, .inl g)) sp dp n = vp_cell G.2.2.1 (n1, .inl (va_cpy f g sp.toNatClampNeg dp.toNatClampNeg n.toNatClampNeg)) := va_copied (fun z => .int z) G.2.2.1 G.2.2.1 f g q4
  rw [e1] at X' step
  have hl : G.2.1 + a < H.size := (Array.getElem?_eq_some_iff.mp hc1).1
  have hheap : ((T.setVm vm').setCell (G.2.1 + a) (vp_cell G.2.2.1 (n1, .inl (va_cpy f g sp.toNatClampNeg dp.toNatClampNeg n.toNatClampNeg)))).heap = H.setIfInBounds (G.2.1 + a) (vp_cell G.2.2.1 (n1, .inl (va_cpy f g sp.toNatClampNeg dp.toNatClampNeg n.toNatClampNeg))) := by rw [← hT]; rfl
  have oq : ∀ q : Nat, q ≠ G.2.1 + a → (H.setIfInBounds (G.2.1 + a) (vp_cell G.2.2.1 (n1, .inl (va_cpy f g sp.toNatClampNeg dp.toNatClampNeg n.toNatClampNeg))))[q]? = H[q]? := fun q hq => by simp [Array.getElem?_setIfInBounds, Ne.symm hq]
  have at1 : atE G (eI n1 (va_cpy f g sp.toNatClampNeg dp.toNatClampNeg n.toNatClampNeg)) a (H.setIfInBounds (G.2.1 + a) (vp_cell G.2.2.1 (n1, .inl (va_cpy f g sp.toNatClampNeg dp.toNatClampNeg n.toNatClampNeg)))) := by
    show (H.setIfInBounds (G.2.1 + a) _)[G.2.1 + a]? = some _
    simp [Array.getElem?_setIfInBounds, hl]
  obtain ⟨t, a1, b1⟩ := K2 p e R s m args below meth c h0 C hl0 _ _ ls (hR.set (by simp) oq at1) ⟨by simp; exact hS.1, fun q g1 g2 => by
      rw [oq q (fun e => g2 (by rw [e]; exact Nat.le_add_right _ _))]
      exact hS.2.1 q g1 g2, fun q hq => by
      rcases List.mem_append.mp hq with h | h
      · exact hS.2.2 q h
      · obtain ⟨z, -, hz⟩ := List.mem_map.mp h
        rw [← hz]
        exact Nat.le_add_right _ _⟩ hv _ hheap X'
  exact ⟨t, step t a1, b1⟩
end RJH

