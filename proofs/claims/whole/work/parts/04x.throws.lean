/-! ===== BEGIN a method of a class above, found by the receiver, that may throw (follows va_callVU, va_runU of this kit) ===== -/
section
variable {p : Program} {l : Launch} {e : Env} {R : Room} {s : State} {m : MethodId} {args : Array Value} {below : List Frame} {meth : Method} {c : Code} {H : Heap} {locs : List Loc} {cells slots : Nat}
theorem vx_callVU {T : State} {locs : List Loc} {cells slots : Nat} (X : Stand p l e R s m args below meth c T locs cells slots) (hexec : p.tables.exec = Jvm.exec) {own C owner : String} {index : Nat} {x y : MethodName} {bytes : ByteArray} {maxL : Nat} {ret : Option FieldType}
    (hown : s.vm.findClass own = some m.cls) (hlink : (Cond.methodLink own index x).before args s = true) (hsame : (Cond.sameMethod x.cls owner x.name x.desc).before args s = true)
    (hd0 : va_Decl s ⟨owner, x.name, x.desc⟩) (howner : owner ≠ "java/lang/invoke/MethodHandle" ∧ owner ≠ "java/lang/invoke/VarHandle")
    (hsel : (Cond.selects C x y).before args s = true) (hinst : (Cond.instanceMethod y).before args s = true) (hcode : (Cond.code y bytes maxL ret).before args s = true)
    {W : Nat} {Pre : Pt → Array Value → Prop} {Post : Pt → Array Value → Option Value → Pt → Prop} {PostX : Pt → Array Value → Addr → Pt → Prop} (hK : vx_Back l R p e below s args y 3 W Pre Post PostX)
    {b : Addr} {cellB : Cell} (hcell : T.heap[b]? = some cellB) (hobj : cellB.vm.isStatics = false) (hcls : s.vm.findClass C = some cellB.cls)
    {g : JFrame} (hg : g.method = m) (hsize : g.locals.size = c.maxLocals) {argsL rest : List Value} (hlen : ∀ sig, parseMethodDescriptor x.desc = some sig → argsL.length = sig.parameters.length)
    (hstack : g.stack = argsL.reverse ++ .ref b :: rest) (hW : 2 * g.monitorRoom + (rest.map fun v => v.category).sum ≤ W) (hdg : decode c.code g.pc = .ok (.invokevirtual index, 3))
    (hpre : ∀ vm₁, s.WarmedH vm₁ → Pre ⟨T.setVm vm₁, locs, cells, slots⟩ (Value.ref b :: argsL).toArray) :
    (∃ (v : Option Value) (vm₁ : Vm) (B : Pt), s.WarmedH vm₁ ∧ Stand p l e R s m args below meth c B.U B.locs B.cells B.slots ∧ Post ⟨T.setVm vm₁, locs, cells, slots⟩ (Value.ref b :: argsL).toArray v B ∧
      ∀ target, Steps p.tables e below (B.U.setTop { g with pc := g.pc + 3, stack := v.toList ++ rest }) target → Steps p.tables e below (T.setTop g) target) ∨
    (∃ (q : Addr) (vm₁ : Vm) (B : Pt), s.WarmedH vm₁ ∧ Stand p l e R s m args below meth c B.U B.locs B.cells B.slots ∧ PostX ⟨T.setVm vm₁, locs, cells, slots⟩ (Value.ref b :: argsL).toArray q B ∧
      Steps p.tables e below (T.setTop g) ((B.U.setTop { g with stack := rest }).pushFrame (.throwing q))) := by
  obtain ⟨r0, r, hn, hrm, hstR, hsigR⟩ := hd0
  obtain ⟨cn, ck, r1, hcn, hck, hni, hf, hn1⟩ := Cond.sameMethod_found hsame
  cases hn.symm.trans hn1
  obtain ⟨mk, methM, hnamed, hmethM, -, habM⟩ := Cond.instanceMethod_spec hinst
  obtain ⟨c2, r2, m2, q1, q2, q3, q4, kP, hkP, hkPi⟩ := Cond.selects_spec hsel
  cases hcls.symm.trans q1
  cases hf.symm.trans q2
  cases hnamed.symm.trans q3
  have hselP : selectMethod e.platform s.vm cellB.cls r0 = .method mk := by rw [Launch.admits_selectMethod X.admits]; exact q4
  obtain ⟨vm₁, X₁, hstep₁⟩ := X.invokevirtualUp hexec hown hlink hsame howner hn hrm hstR (a := b) (cell := cellB) hcell
    (fun z h => by rw [h] at hobj; cases hobj) hselP hmethM habM hkP hkPi (g := g) hg (argsL := argsL) (rest := rest) (hlen _ hsigR) hstack hdg
  rcases hK m meth c ⟨T.setVm vm₁, locs, cells, slots⟩ { g with stack := rest } (.invokevirtual index) mk (Value.ref b :: argsL).toArray X₁ hg hsize hdg hW (X₁.named hnamed) (hpre vm₁ X₁.warmed) with ⟨v, B, X', hpost, hsteps⟩ | ⟨q, B, X', hpost, hsteps⟩
  · exact Or.inl ⟨v, vm₁, B, X₁.warmed, X', hpost, fun target h => hstep₁ _ fun acts => by rw [doInvoke_state]; exact hsteps.trans h⟩
  · exact Or.inr ⟨q, vm₁, B, X₁.warmed, X', hpost, hstep₁ _ fun acts => by rw [doInvoke_state]; exact hsteps⟩
theorem vx_runU {x y : MethodName} {bytes cc : ByteArray} {maxL nL mc ms n index : Nat} {ret : Option FieldType} {ws : List Cond} {rm : Room} {Pc : Array Value → State → Prop} {Qc : Array Value → State → Outcome → State → Prop} {XC : String → State → State → Prop} {free : Addr → Prop} {Ts : List Cond} {own C owner : String} {b : Addr} {As rest : List Value} {g : JFrame}
    (S : CallFix p m c cc nL s args Ts own) (hM : vx_Met l y ws rm Pc Qc XC mc ms free) (cw : va_CU R s args own C owner index x y bytes maxL ret ws rm mc ms n) (hp : PreV s H C b Pc As)
    (hg : g.method = m) (hn : As.length = n) (hsize : g.locals.size = nL) (hstack : g.stack = As.reverse ++ .ref b :: rest) (hW : 2 * g.monitorRoom + (rest.map fun v => v.category).sum ≤ 8) (hdg : decode cc g.pc = .ok (.invokevirtual index, 3)) (hf : cells + mc ≤ R.cells ∧ slots + ms ≤ R.slots) :
    vx_Run p l e R s m args below meth c H locs cells slots mc ms g rest (Qc (Value.ref b :: As).toArray) XC free := by
  obtain ⟨hrc, hrs, hfr, hlo, hws, hcw⟩ := cw.back
  have hini := cw.init
  have hK : vx_Back l R p e below s args y 3 8 (PreOf R mc ms Pc) (PostOf Qc mc ms free) (vx_Post XC mc ms free) := vx_back (bytes := bytes) (maxL := maxL) (ret := ret) hM hp.1 hrc hrs hfr hlo hws hcw (fun a' U hW => word_at hW (Or.inl (by first | rfl | simp [Cond.onTables, Cond.keeps, Cond.steady])) hini)
  obtain ⟨hx, hb, hml, ho, -⟩ := S
  obtain ⟨-, ⟨cellB, hcB, hoB, hclB⟩, hPc⟩ := hp
  intro T hT X
  rcases vx_callVU X hx (C := C) (owner := owner) (bytes := bytes) (maxL := maxL) (ret := ret) ho cw.link cw.same cw.decl cw.notMH cw.sel cw.inst cw.code hK (by rw [hT]; exact hcB) hoB hclB hg (hsize.trans hml.symm) (argsL := As) (rest := rest) (fun sig h => hn.trans (cw.len sig h)) hstack hW (by rw [hb]; exact hdg)
    (fun vm₁ hW₁ => ⟨hf.1, hf.2, hPc (T.setVm vm₁) hT hW₁⟩) with ⟨v, vm₁, ⟨U', l2, c2, s2⟩, hW₁, X', ⟨g', mk, t, L, e1, e2, hq, h1, hL, h2, h3⟩, st⟩ | ⟨q, vm₁, ⟨U', l2, c2, s2⟩, hW₁, X', ⟨g', mk, t, L, E, ce, e1, e2, hq, hce, hcv, hcl, h1, hL, h2, h3⟩, st⟩
  · dsimp only [Pt.U, Pt.locs, Pt.cells, Pt.slots] at X' e1 e2 h1 h2 h3 st
    subst h1; subst h2; subst h3
    exact Or.inl ⟨v, (T.setVm vm₁).calling g' mk (Value.ref b :: As).toArray, t, U', L, hT, X', hL, e1, e2, hq, st⟩
  · dsimp only [Pt.U, Pt.locs, Pt.cells, Pt.slots] at X' e1 e2 h1 h2 h3 st hcl
    subst h1; subst h2; subst h3
    exact Or.inr ⟨q, (T.setVm vm₁).calling g' mk (Value.ref b :: As).toArray, t, U', L, E, ce, hT, X', hL, e1, e2, hq, hce, hcv, vx_cls hW₁ hcl, st⟩
end
/-! ===== END ===== -/
section RXT
variable {p : Program} {l : Launch} {e : Env} {R : Room} {s : State} {m : MethodId} {args : Array Value} {below : List Frame} {meth : Method} {c : Code} {H : Heap} {locs : List Loc} {cells slots : Nat}
variable {mc ms : Nat} {free : Addr → Prop} {A0 A1 : Nat → Prop} {H0 : Heap} {a : Array Value} {ls : Array Slot} {st0 rest : List Value}
variable {Qc : Array Value → State → Outcome → State → Prop} {XC : String → State → State → Prop}
theorem rx_throwS {cc : ByteArray} {pc : Nat} (hexec : p.tables.exec = Jvm.exec) (hb : c.code = cc) (hl : l.stackTraces = false) {own cls text : String} {names : List String} {ik is ic mc ms sa : Nat} {A : Nat → Prop}
    (hown : s.vm.findClass own = some m.cls) (hcls : Bundle.fit cls = true) (hnames : ∀ n ∈ names, Bundle.fit n = true)
    (hk : (Cond.classLink own ik cls).before args s = true) (hini : (Cond.initialized cls).before args s = true) (hstr : vk_R own is text sa s) (hat : ∀ w ∈ vx_atS own ic cls names, w.before args s = true)
    (hgood : ∀ w ∈ Cond.classLink own ik cls :: Cond.initialized cls :: vx_atS own ic cls names, vx_ot w = true)
    (hU : vx_Zq Bundle.tN "UNASSIGNED_STACK" Bundle.steD A s s.heap) (hN : vx_Zq Bundle.tN "SUPPRESSED_SENTINEL" Bundle.listD A s s.heap) (hS : va_S A s.heap H locs) (hsize : ls.size = c.maxLocals)
    (d0 : decode cc pc = .ok (.new ik, 3)) (d3 : decode cc (pc + 3) = .ok (.dup, 1)) (d4 : decode cc (pc + 4) = .ok (.ldc is, 2)) (d6 : decode cc (pc + 6) = .ok (.invokespecial ic, 3)) (d9 : decode cc (pc + 9) = .ok (.athrow, 1))
    (hout : ∀ x ∈ c.exceptionTable.toList, covers x (pc + 9) = false)
    (hRframes : names.length + 3 < R.frames) (hRlocals : (rest.map fun v => v.category).sum + (13 * (names.length + 1) + 43) ≤ R.locals) (hRcells : cells + 1 ≤ R.cells) (hRslots : slots + 6 ≤ R.slots) (hlocks : meth.locks = false)
    (hx : ∀ t : State, s.vm.Alike t.vm → t.heap.size = H.size + 1 → (∀ q : Nat, q < H.size → t.heap[q]? = H[q]?) → XC cls s t)
    (hf : ∀ z ∈ locs, free z.base) (hc : cells + 1 ≤ mc) (hs : slots + 6 ≤ ms) :
    W p l e R s m args below meth c H locs cells slots (vx_MQ below Qc XC args s mc ms free) (F0 m pc ls rest) := by
  intro T hT X
  have htr : e.platform.stackTraces = false := (show e.platform.stackTraces = l.stackTraces by rw [X.admits.platform]).trans hl
  have Y := vx_rebase X (R' := { frames := R.frames, locals := R.locals, cells := 1, slots := 6 }) (Nat.le_refl _) (Nat.le_refl _) hRcells hRslots
  obtain ⟨s', hA⟩ : ∃ z, z = (T.setVm s.vm).setFrames (.invoking m args :: below) := ⟨_, rfl⟩
  rw [← hA] at Y
  have hvm : s'.vm = s.vm := by rw [hA]; rfl
  have hhp : s'.heap = H := by rw [hA]; exact hT
  have hW0 : s.WarmedH s'.vm := by rw [hvm]; exact State.WarmedH.refl s
  have hat' : ∀ w ∈ vx_atS own ic cls names, w.before args s' = true := fun w hw => vx_ot_at hW0 hvm.symm (hgood w (List.mem_cons_of_mem _ (List.mem_cons_of_mem _ hw))) (hat w hw)
  have hk' : (Cond.classLink own ik cls).before args s' = true := vx_ot_at hW0 hvm.symm (hgood _ List.mem_cons_self) hk
  have hini' : (Cond.initialized cls).before args s' = true := vx_ot_at hW0 hvm.symm (hgood _ (List.mem_cons_of_mem _ List.mem_cons_self)) hini
  have hU' : vx_Zq Bundle.tN "UNASSIGNED_STACK" Bundle.steD A s' s'.heap := by rw [hhp]; exact vx_Zq.moved hW0.alike (hU.kept hS.2.1)
  have hN' : vx_Zq Bundle.tN "SUPPRESSED_SENTINEL" Bundle.listD A s' s'.heap := by rw [hhp]; exact vx_Zq.moved hW0.alike (hN.kept hS.2.1)
  have h : ∀ w ∈ Bundle.ownAtoms own ic cls names, w.before args s' = true := vx_own hat' (vx_isRefq hU'.1) (vx_isRefq hN'.1) hU'.2.word hN'.2.word
  have hown' : s'.vm.findClass own = some m.cls := by rw [hvm]; exact hown
  have hins : (Cond.instantiable cls 6).before args s' = true := h _ (by simp [Bundle.ownAtoms])
  obtain ⟨vm₁, cX, kX, hfX, hkX, -, -, X₁, st1⟩ := Y.newCold hexec (own := own) (C := cls) (index := ik) (n := 6) hown' hk' hins hini'
    (g := F0 m pc ls rest) rfl (by rw [hb]; exact d0) (Nat.le_refl _) (Nat.le_refl _)
  generalize hT1 : (T.setVm vm₁).pushCell { cls := cX, slots := kX.instanceTypes.map defaultValue, vm := .none } = T1 at X₁ st1
  have hcat : (Value.ref T.heap.size).category = 1 := rfl
  have hcellA : T1.heap[T.heap.size]? = some (freshCell cX kX) := by rw [← hT1]; exact State.heap_pushCell_size _ _
  have d3' : decode c.code (pc + 3) = .ok (.dup, 1) := by rw [hb]; exact d3
  have d4' : decode c.code (pc + 4) = .ok (.ldc is, 2) := by rw [hb]; exact d4
  have hstr' : vk_R own is text sa s' := vk_R.warm hW0 hstr
  obtain ⟨U, hsteps, hrun, hend, hW, hsame, ce, hce, hO⟩ := X₁.ctorThrowS hexec htr (own := own) (cls := cls) (names := names) (ic := ic) hown' hcls hnames h (fun x hx => nomatch hx) hfX hkX hcellA (by rw [hhp, hT]; exact Nat.le_refl _) (msg := .ref sa) rfl
    (g := { method := m, pc := pc + 6, locals := ls, stack := .ref sa :: .ref T.heap.size :: .ref T.heap.size :: rest, locked := none }) rfl hsize rfl rfl (rest := rest) rfl
    (by rw [hb]; exact d6) (by rw [hb]; exact d9) hout hRframes (by simp only [List.map_cons, List.sum_cons, hcat]; omega) hlocks
  obtain ⟨f1, f2⟩ := vx_frame hsame
  rw [hhp] at f1 f2
  have hWs : s.WarmedH U.vm := State.WarmedH.trans hW0 hW
  have hcl : s.vm.findClass cls = some ce.cls := by
    have h9 := hO.cls
    rw [hvm] at h9
    exact h9
  have hall : s.sameButNew ({ U with vm := s.vm } : State) locs mc ms := by
    subst hA
    obtain ⟨e1, e2⟩ := hsame
    rw [State.setFrames_setFrames] at e1
    have h2 : (T.setVm s.vm).sameButNew ({ U with vm := s.vm } : State) [] (0 + 1) (0 + 6) := ⟨e1, e2⟩
    have h3 := X.same.trans h2
    rw [List.append_nil] at h3
    exact h3.mono hc hs
  have hz9 : U.heap.size = H.size + 1 := by
    have z1 : T.heap.size < U.heap.size := (Array.getElem?_eq_some_iff.mp hce).1
    have z2 : U.heap.size ≤ s'.heap.size + (0 + 1) := hsame.2.2.1
    rw [hhp] at z2
    rw [hT] at z1
    omega
  refine ⟨U, ?_, .threw T.heap.size, hrun, hend, Or.inr ⟨T.heap.size, rfl, cls, ce, locs, hx U hWs.alike hz9 (fun q hq => f2 q hq (fun z hz => nomatch hz)), hce, hO.vm, hcl, hWs, hall, hf⟩⟩
  refine st1 _ ?_
  show Steps p.tables e below (T1.setTop { method := m, pc := pc + 3, locals := ls, stack := .ref T.heap.size :: rest, locked := none }) _
  jvm_step X₁.here [X₁.here.top, hexec, d3', Value.category]
  exact X₁.ldcString hexec (own := own) (text := text) (index := is) (a := sa) hown' hstr'.1 hstr'.2
    (g := { method := m, pc := pc + 4, locals := ls, stack := .ref T.heap.size :: .ref T.heap.size :: rest, locked := none }) rfl d4' _ hsteps
end RXT
/-! What is thrown, and caught. -/
def XQ (G : Gx) (E : String) (h' : Hp) : String → State → State → Prop := fun E' st t => E' = E ∧ (Rep G h' t.heap ∧ va_F (fun q => G.2.1 ≤ q) st t)
def noX : String → State → State → Prop := fun _ _ _ => False
def noQ : Array Value → State → Outcome → State → Prop := fun _ _ _ _ => False
abbrev qT (G : Gx) (E : String) (h' : Hp) : List Frame → Array Value → State → Hp → State → Prop := fun below args s h0 => vx_MQ below noQ (XQ G E h') args s (h'.length - h0.length) (sl h' - sl h0) (fun q => G.2.1 ≤ q)
abbrev qW (G : Gx) (v : Option Vv) (h' : Hp) : List Frame → Array Value → State → Hp → State → Prop := fun below args s h0 => vx_MQ below (PQ G v h') noX args s (h'.length - h0.length) (sl h' - sl h0) (fun q => G.2.1 ≤ q)
/-- a method that throws -/
def KT (l : Launch) (y : MethodName) (ws : List Cond) (fr lo : Nat) (G : Gx) (av : List Vv) (h : Hp) (E : String) (h' : Hp) : Prop :=
  Le h h' ∧ vx_Met l y ws ({ frames := fr, cells := h'.length - h.length, slots := sl h' - sl h, locals := lo }) (va_Pc (av.map (cv G.2.1)) (Wl G h)) noQ (XQ G E h') (h'.length - h.length) (sl h' - sl h) (fun q => G.2.1 ≤ q)
/-- a method with handlers that returns -/
def KW (l : Launch) (y : MethodName) (ws : List Cond) (fr lo : Nat) (G : Gx) (av : List Vv) (h : Hp) (v : Option Vv) (h' : Hp) : Prop :=
  Le h h' ∧ vx_Met l y ws ({ frames := fr, cells := h'.length - h.length, slots := sl h' - sl h, locals := lo }) (va_Pc (av.map (cv G.2.1)) (Wl G h)) (PQ G v h') noX (h'.length - h.length) (sl h' - sl h) (fun q => G.2.1 ≤ q)
def x_names : List String := ["java/lang/RuntimeException", "java/lang/Exception"]
section RJX
variable {G : Gx} {l : Launch} {M : Mx} {Qf : List Frame → Array Value → State → Hp → State → Prop} {h' : Hp} {pc : Nat} {lv : List (Nat × Vv)} {st : List Vv} {h : Hp}
theorem RJ.vx {v : Option Vv} (K : RJ G l M v h' pc lv st h) : RQ G l M (qW G v h') h' pc lv st h :=
  ⟨K.1, fun p e R s m args below meth c h0 C hl0 H locs ls hR hS hv => vx_ret (K.2 p e R s m args below meth c h0 C hl0 H locs ls hR hS hv)⟩
theorem r_throw {ik is ic : Nat} {E text : String} (hfl : l.stackTraces = false) (d0 : decode M.1 pc = .ok (.new ik, 3)) (d3 : decode M.1 (pc + 3) = .ok (.dup, 1)) (d4 : decode M.1 (pc + 4) = .ok (.ldc is, 2)) (d6 : decode M.1 (pc + 6) = .ok (.invokespecial ic, 3)) (d9 : decode M.1 (pc + 9) = .ok (.athrow, 1))
    (hE : E ∈ [xIAE, xISE, xUOE]) (hfit : Bundle.fit E = true) (w1 : Cond.classLink M.2.2.1 ik E ∈ wsK) (w2 : Cond.initialized E ∈ wsK) (hs : (M.2.2.1, is, text) ∈ xstr)
    (ha : ∀ w ∈ (vx_atS M.2.2.1 ic E x_names).filter goodWord, w ∈ wsK) (hng : ∀ w ∈ (vx_atS M.2.2.1 ic E x_names).filter (fun w => !goodWord w), w ∈ xcd) (hgd : ∀ w ∈ Cond.classLink M.2.2.1 ik E :: Cond.initialized E :: vx_atS M.2.2.1 ic E x_names, vx_ot w = true)
    (htb : M.2.2.2.1.2 = []) (hroom : 6 ≤ M.2.2.2.2.2.1 ∧ 100 ≤ M.2.2.2.2.2.2) (hst : (st.map vcat).sum ≤ 8) : RQ G l M (qT G E (h ++ [eJ 6])) (h ++ [eJ 6]) pc lv st h := by
  refine ⟨Le.push, fun p e R s m args below meth c h0 C hl0 H locs ls hR hS hv => ?_⟩
  have hts := C.1.2.2.2.2
  have hX := C.2.2.1.2.2
  obtain ⟨sa, hsa⟩ := hX.2.1 _ hs
  have hsum := vsum_cv G.2.1 st
  have r1 := C.2.2.2.1.1
  have r2 := C.2.2.2.1.2.1
  have r3 := C.2.2.2.1.2.2.1
  have r4 := C.2.2.2.1.2.2.2
  have l1 := hl0.1
  have l2 := hl0.2
  have e5 : (h ++ [eJ 6]).length = h.length + 1 := by simp
  have e6 : sl (h ++ [eJ 6]) = sl h + 6 := by rw [sl_push]; rfl
  rw [e5] at r3
  rw [e6] at r4
  refine rx_throwS (names := x_names) (text := text) (sa := sa) C.1.1 C.1.2.1 hfl C.1.2.2.2.1 hfit (by decide +kernel) (hts _ w1) (hts _ w2) hsa (vx_hat (fun w hw => hts w (ha w hw)) hng ?_) hgd hX.1.1 hX.1.2 hS (hv.1.trans C.1.2.2.1.symm) d0 d3 d4 d6 d9 ?_ ?_ ?_ ?_ ?_ C.2.1.1 ?_ hS.2.2 ?_ ?_
  · intro w hw
    exact va_Nw.use (xcd_ot w hw) (hX.2.2.1 w hw)
  · rw [C.2.1.2.2.2, htb]
    intro x hx
    cases hx
  · show 2 + 3 < R.frames
    omega
  · show _ + (13 * (2 + 1) + 43) ≤ R.locals
    omega
  · omega
  · omega
  · intro t hA hz hq
    refine ⟨rfl, hR.push hz hq trivial, Nat.le_trans hS.1 (by omega), fun q g1 g2 => ?_⟩
    rw [hq q (Nat.lt_of_lt_of_le g1 hS.1)]
    exact hS.2.1 q g1 g2
  · omega
  · omega
theorem r_entryT {y : MethodName} {cc : ByteArray} {maxL fr lo : Nat} {ret : Option FieldType} {own E : String} {av : List Vv} (hy : plainName y.cls = true) (ho : y.cls = own) (hsz : (av.map vcat).sum ≤ maxL) (K : RQ G l (cc, maxL, own, (false, []), ret, fr, lo) (qT G E h') h' 0 (largs 0 av) [] h) : KT l y (.code y cc maxL ret :: wsK) fr lo G av h E h' := by
  refine ⟨K.1, vx_ofW (cc := cc) (maxL := maxL) (ret := ret) hy rfl ?_⟩
  intro p e s m args below meth c s₁ B hml htab hv
  obtain ⟨rfl, hR, hKn, hN, hX⟩ := hv
  have hts := atoms_spec (ws := .code y cc maxL ret :: wsK) B.pre
  have hown : s.vm.findClass own = some m.cls := ho ▸ findClass_of_methodNamed B.named
  have htb : c.exceptionTable.toList = tableOf [] := by
    match hq : c.exceptionTable.toList with
    | [] => rfl
    | x :: xs => exact (htab x (by rw [hq]; exact List.mem_cons_self)).elim
  have hl := lv_entry (av.map (cv G.2.1)) (n := maxL) (by rw [lg_len]; exact hsz)
  rw [largs_cv] at hl
  rw [lg_entry_eq]
  generalize (lg_sl (av.map (cv G.2.1)) ++ List.replicate (maxL - (lg_sl (av.map (cv G.2.1))).length) Slot.unset).toArray = ls at hl ⊢
  have K2 := K.2 p e ({ frames := fr, cells := h'.length - h.length, slots := sl h' - sl h, locals := lo } : Room) s m _ below meth c h ⟨⟨B.exec, B.bytes, hml, hown, fun w hw => hts w (List.mem_cons_of_mem _ hw)⟩, ⟨B.notSynchronized, B.returns, ⟨fun q => (by cases q), htb⟩⟩, ⟨hKn, hN, hX⟩, ⟨Nat.le_refl _, Nat.le_refl _, Nat.le_refl _, Nat.le_refl _⟩, hR.1⟩ Le.rf s.heap [] ls hR va_S.rf hl
  exact W.widen (Nat.zero_le _) (Nat.zero_le _) K2
theorem r_entryW {y : MethodName} {cc : ByteArray} {maxL fr lo : Nat} {ret : Option FieldType} {own : String} {hh : List (Nat × Nat × Nat × Nat)} {v : Option Vv} {av : List Vv} (hy : plainName y.cls = true) (ho : y.cls = own) (hsz : (av.map vcat).sum ≤ maxL) (K : RQ G l (cc, maxL, own, (false, hh), ret, fr, lo) (qW G v h') h' 0 (largs 0 av) [] h) : KW l y (.codeWith y cc maxL ret hh :: wsK) fr lo G av h v h' := by
  refine ⟨K.1, vx_ofWH (cc := cc) (maxL := maxL) (ret := ret) (hh := hh) hy rfl ?_⟩
  intro p e s m args below meth c s₁ B hml hv
  obtain ⟨rfl, hR, hKn, hN, hX⟩ := hv
  have hts := atoms_spec (ws := .codeWith y cc maxL ret hh :: wsK) B.pre
  have hown : s.vm.findClass own = some m.cls := ho ▸ findClass_of_methodNamed B.named
  have htb : c.exceptionTable.toList = tableOf hh := vx_table (x := y) B (hts _ List.mem_cons_self)
  have hl := lv_entry (av.map (cv G.2.1)) (n := maxL) (by rw [lg_len]; exact hsz)
  rw [largs_cv] at hl
  rw [lg_entry_eq]
  generalize (lg_sl (av.map (cv G.2.1)) ++ List.replicate (maxL - (lg_sl (av.map (cv G.2.1))).length) Slot.unset).toArray = ls at hl ⊢
  have K2 := K.2 p e ({ frames := fr, cells := h'.length - h.length, slots := sl h' - sl h, locals := lo } : Room) s m _ below meth c h ⟨⟨B.exec, B.bytes, hml, hown, fun w hw => hts w (List.mem_cons_of_mem _ hw)⟩, ⟨B.notSynchronized, B.returns, ⟨fun q => (by cases q), htb⟩⟩, ⟨hKn, hN, hX⟩, ⟨Nat.le_refl _, Nat.le_refl _, Nat.le_refl _, Nat.le_refl _⟩, hR.1⟩ Le.rf s.heap [] ls hR va_S.rf hl
  exact W.widen (Nat.zero_le _) (Nat.zero_le _) K2
/-- behind a call that throws: the handler -/
theorem rx_after {h1 : Hp} {E : String} {preT sufT : List (Nat × Nat × Nat × Nat)} {xT : Nat × Nat × Nat × Nat} {st0 : List Vv} (ht : M.2.2.2.1.2 = preT ++ xT :: sufT) (hE : E ∈ [xIAE, xISE, xUOE]) (hpass : ∀ z ∈ preT, z.2.2.2 ≠ 0 ∧ ∃ nm, Cond.classLink M.2.2.1 z.2.2.2 nm ∈ wsK ∧ (E, nm) ∈ xneg) (hcov : covers ⟨xT.1, xT.2.1, xT.2.2.1, xT.2.2.2⟩ pc = true) (hx0 : xT.2.2.2 ≠ 0) (hlk : Cond.classLink M.2.2.1 xT.2.2.2 E ∈ wsK)
    (K : ∀ q : Nat, RQ G l M Qf h' xT.2.2.1 lv [vX q] h1) (hle : Le h h1) {p : Program} {e : Env} {R : Room} {s : State} {m : MethodId} {args : Array Value} {below : List Frame} {meth : Method} {c : Code} {h0 : Hp} (C : CX G p R s m args meth c M h0 h') (hl0 : Le h0 h)
    {H : Heap} {locs : List Loc} {ls : Array Slot} (hS : va_S (fun q => G.2.1 ≤ q) s.heap H locs) (hv : lv_has ls M.2.1 (cvl G.2.1 lv)) {aa : Array Value} {rest : List Value}
    (hr : vx_Run p l e R s m args below meth c H locs (h.length - h0.length) (sl h - sl h0) (h1.length - h.length) (sl h1 - sl h) (F0 m pc ls (st0.map (cv G.2.1))) rest (noQ aa) (XQ G E h1) (fun q => G.2.1 ≤ q)) :
    W p l e R s m args below meth c H locs (h.length - h0.length) (sl h - sl h0) (Qf below args s h0) (F0 m pc ls (st0.map (cv G.2.1))) := by
  intro T hT X
  rcases hr T hT X with ⟨v', st₀, t, T', L, -, -, -, -, -, hf, -⟩ | ⟨q, st₀, t, T', L, E', ce, h00, X', hL, e1, e2, ⟨hE', hrep, hF⟩, hce, hcv, hcl, stp⟩
  · exact hf.elim
  · subst hE'
    have l1 := hl0.1
    have l2 := hl0.2
    have l3 := hle.1
    have l4 := hle.2
    have c1 : h.length - h0.length + (h1.length - h.length) = h1.length - h0.length := by omega
    have c2 : sl h - sl h0 + (sl h1 - sl h) = sl h1 - sl h0 := by omega
    rw [c1, c2] at X'
    subst h00
    have K2 := (K q).2 p e R s m args below meth c h0 C (Le.tr hl0 hle) T'.heap (locs ++ L) ls (by rw [e1]; exact hrep) ⟨Nat.le_trans hS.1 (by rw [e1]; exact hF.1), fun q g1 g2 => by
      rw [e1, hF.2 q (Nat.lt_of_lt_of_le g1 hS.1) g2]
      exact hS.2.1 q g1 g2, fun q hq => by
      rcases List.mem_append.mp hq with z | z
      · exact hS.2.2 q z
      · exact hL q z⟩ hv
    have hts := C.1.2.2.2.2
    have hX := C.2.2.1.2.2
    have htab : c.exceptionTable.toList = tableOf preT ++ (⟨xT.1, xT.2.1, xT.2.2.1, xT.2.2.2⟩ : ExceptionTableEntry) :: tableOf sufT := by
      rw [C.2.1.2.2.2, ht]
      simp [tableOf]
    have hw := vx_catch (pc := pc) (rest := rest) (Q := Qf below args s h0) C.1.2.2.2.1 (tableOf preT) ⟨xT.1, xT.2.1, xT.2.2.1, xT.2.2.2⟩ (tableOf sufT) htab (fun z hz => by
      obtain ⟨z', hz1, hz2⟩ := List.mem_map.mp hz
      obtain ⟨g1, nm, g2, g3⟩ := hpass z' hz1
      rw [← hz2]
      exact Or.inr ⟨g1, nm, hts _ g2, hX.2.2.2.1 _ g3⟩) hcov hx0 (hts _ hlk) (va_Nw.use rfl (hX.2.2.1 _ (xcd_c E' hE))) (by rw [e1]; exact hce) hcv hcl K2
    obtain ⟨t2, a1, b1⟩ := hw T' rfl X'
    exact ⟨t2, stp.trans a1, b1⟩
variable {y : MethodName} {bytes : ByteArray} {maxL idx ci fr lo a : Nat} {ret : Option FieldType} {r : Option Nat} {avs : List Vv} {h1 : Hp} {stk : List Vv} {T : u_T} {N : Nat} {E : String} {preT sufT : List (Nat × Nat × Nat × Nat)} {xT : Nat × Nat × Nat × Nat}
theorem r_callOX {x : MethodName} {Cn : String} {b0 : ByteArray} {m0 : Nat} {r0 : Option FieldType} (hd : decode M.1 pc = .ok (.invokevirtual idx, 3)) (hc : vwCl[ci]? = some (Cn, T, N)) (w1 : Cond.methodLink M.2.2.1 idx x ∈ wsK) (w6 : Cond.sameMethod x.cls x.cls x.name x.desc ∈ wsK) (w7 : Cond.instanceMethod ⟨x.cls, x.name, x.desc⟩ ∈ wsK) (w3 : Cond.selects Cn x y ∈ wsK) (w2 : Cond.instanceMethod y ∈ wsK) (w4 : Cond.initialized y.cls ∈ wsK) (w5 : Cond.code y bytes maxL ret ∈ wsK) (w8 : Cond.code ⟨x.cls, x.name, x.desc⟩ b0 m0 r0 ∈ wsK) (hy : okY x avs.length) (hroom : fr + 1 ≤ M.2.2.2.2.2.1 ∧ 8 + (maxL + 11) + lo ≤ M.2.2.2.2.2.2)
    (hs : avs.reverse ++ vR r :: st = stk) (hst : (st.map vcat).sum ≤ 8) (er : rcl h r = some (a, ci)) (hK : KT l y (.code y bytes maxL ret :: wsK) fr lo G (vR (some a) :: avs) h E h1)
    (ht : M.2.2.2.1.2 = preT ++ xT :: sufT) (hE : E ∈ [xIAE, xISE, xUOE]) (hpass : ∀ z ∈ preT, z.2.2.2 ≠ 0 ∧ ∃ nm, Cond.classLink M.2.2.1 z.2.2.2 nm ∈ wsK ∧ (E, nm) ∈ xneg) (hcov : covers ⟨xT.1, xT.2.1, xT.2.2.1, xT.2.2.2⟩ pc = true) (hx0 : xT.2.2.2 ≠ 0) (hlk : Cond.classLink M.2.2.1 xT.2.2.2 E ∈ wsK)
    (hle : Le h1 h') (K : ∀ q : Nat, RQ G l M Qf h' xT.2.2.1 lv [vX q] h1) : RQ G l M Qf h' pc lv stk h := by
  obtain ⟨e1, fs, ho⟩ := rcl_sp er
  simp only at e1 ho
  subst e1
  subst hs
  refine ⟨Le.tr hK.1 hle, fun p e R s m args below meth c h0 C hl0 H locs ls hR hS hv => ?_⟩
  refine rx_after ht hE hpass hcov hx0 hlk K hK.1 C hl0 hS hv (vx_runU (As := avs.map (cv G.2.1)) (rest := st.map (cv G.2.1)) C.1 hK.2 (va_cwO (owner := x.cls) avs.length C.1.2.2.2.2 (gIn ?_) rfl rfl rfl w8 hy ⟨Nat.le_trans hroom.1 C.2.2.2.1.1, Nat.le_trans hroom.2 C.2.2.2.1.2.1⟩) ⟨fb_Wl, va_recv C.2.2.1.1 (P1 (obj_at hR ho)) (ci := ci) (q0 := 0) hc rfl, fun U hU hW => ⟨rfl, pre_at C hR hS U hU hW⟩⟩ rfl (by simp) hv.1 (by simp [F0, cv]) (lv_room (by rw [vsum_cv]; exact hst)) hd (room_call hl0 hK.1 hle C.2.2.2.1.2.2.1 C.2.2.2.1.2.2.2))
  intro w hw
  simp only [va_wsO, List.mem_append, List.mem_cons, List.not_mem_nil, or_false] at hw
  rcases hw with (rfl | rfl | rfl | rfl | rfl | rfl) | rfl | hw
  · exact w1
  · exact w6
  · exact w7
  · exact w3
  · exact w2
  · exact w4
  · exact w5
  · exact hw
theorem r_callVX (hd : decode M.1 pc = .ok (.invokevirtual idx, 3)) (hc : vwCl[ci]? = some (y.cls, T, N)) (w1 : Cond.methodLink M.2.2.1 idx y ∈ wsK) (w2 : Cond.instanceMethod y ∈ wsK) (w3 : Cond.selects y.cls y y ∈ wsK) (w4 : Cond.initialized y.cls ∈ wsK) (w5 : Cond.code y bytes maxL ret ∈ wsK) (hy : okY y avs.length) (hroom : fr + 1 ≤ M.2.2.2.2.2.1 ∧ 8 + (maxL + 11) + lo ≤ M.2.2.2.2.2.2)
    (hs : avs.reverse ++ vR r :: st = stk) (hst : (st.map vcat).sum ≤ 8) (er : rcv h r ci = some a) (hK : KT l y (.code y bytes maxL ret :: wsK) fr lo G (vR (some a) :: avs) h E h1)
    (ht : M.2.2.2.1.2 = preT ++ xT :: sufT) (hE : E ∈ [xIAE, xISE, xUOE]) (hpass : ∀ z ∈ preT, z.2.2.2 ≠ 0 ∧ ∃ nm, Cond.classLink M.2.2.1 z.2.2.2 nm ∈ wsK ∧ (E, nm) ∈ xneg) (hcov : covers ⟨xT.1, xT.2.1, xT.2.2.1, xT.2.2.2⟩ pc = true) (hx0 : xT.2.2.2 ≠ 0) (hlk : Cond.classLink M.2.2.1 xT.2.2.2 E ∈ wsK)
    (hle : Le h1 h') (K : ∀ q : Nat, RQ G l M Qf h' xT.2.2.1 lv [vX q] h1) : RQ G l M Qf h' pc lv stk h := by
  obtain ⟨rfl, fs, ho⟩ := rcv_sp er
  subst hs
  refine ⟨Le.tr hK.1 hle, fun p e R s m args below meth c h0 C hl0 H locs ls hR hS hv => ?_⟩
  refine rx_after ht hE hpass hcov hx0 hlk K hK.1 C hl0 hS hv (vx_runV (As := avs.map (cv G.2.1)) (rest := st.map (cv G.2.1)) C.1 hK.2 (cwV avs.length C.1.2.2.2.2 (gIn ?_) rfl rfl rfl ⟨rfl, hy⟩ ⟨Nat.le_trans hroom.1 C.2.2.2.1.1, Nat.le_trans hroom.2 C.2.2.2.1.2.1⟩) ⟨fb_Wl, va_recv C.2.2.1.1 (P1 (obj_at hR ho)) (ci := ci) (q0 := 0) hc rfl, fun U hU hW => ⟨rfl, pre_at C hR hS U hU hW⟩⟩ rfl (by simp) hv.1 (by simp [F0, cv]) (lv_room (by rw [vsum_cv]; exact hst)) hd (room_call hl0 hK.1 hle C.2.2.2.1.2.2.1 C.2.2.2.1.2.2.2))
  intro w hw
  simp only [wsV, List.mem_append, List.mem_cons, List.not_mem_nil, or_false] at hw
  rcases hw with (rfl | rfl | rfl | rfl) | rfl | hw
  · exact w1
  · exact w2
  · exact w3
  · exact w4
  · exact w5
  · exact hw
/-- a static method with handlers, which returns -/
theorem r_callSW {hh : List (Nat × Nat × Nat × Nat)} {vr : Option Vv} (hd : decode M.1 pc = .ok (.invokestatic idx, 3)) (w1 : Cond.methodLink M.2.2.1 idx y ∈ wsK) (w2 : Cond.static y ∈ wsK) (w4 : Cond.initialized y.cls ∈ wsK) (w5 : Cond.codeWith y bytes maxL ret hh ∈ wsK) (hy : okY y avs.length) (hroom : fr + 1 ≤ M.2.2.2.2.2.1 ∧ 8 + (maxL + 11) + lo ≤ M.2.2.2.2.2.2)
    (hs : avs.reverse ++ st = stk) (hst : (st.map vcat).sum ≤ 8) (hK : KW l y (.codeWith y bytes maxL ret hh :: wsK) fr lo G avs h vr h1) (K : RQ G l M Qf h' (pc + 3) lv (vr.toList ++ st) h1) : RQ G l M Qf h' pc lv stk h := by
  subst hs
  refine ⟨Le.tr hK.1 K.1, fun p e R s m args below meth c h0 C hl0 H locs ls hR hS hv => ?_⟩
  refine ro_after (aa := (avs.map (cv G.2.1)).toArray) (st0 := (avs.reverse ++ st).map (cv G.2.1)) K hK.1 C hl0 hS hv ?_
  intro T hT X
  have hg : ∀ w ∈ va_wsS M.2.2.1 idx y (.codeWith y bytes maxL ret hh :: wsK), w ∈ wsK := by
    intro w hw
    simp only [va_wsS, List.mem_append, List.mem_cons, List.not_mem_nil, or_false] at hw
    rcases hw with (rfl | rfl | rfl) | rfl | hw
    · exact w1
    · exact w2
    · exact w4
    · exact w5
    · exact hw
  rcases vx_runSX (As := avs.map (cv G.2.1)) (rest := st.map (cv G.2.1)) (g := F0 m pc ls ((avs.reverse ++ st).map (cv G.2.1))) C.1 hK.2 (vx_cwSW avs.length C.1.2.2.2.2 (gIn hg) rfl rfl rfl hy ⟨Nat.le_trans hroom.1 C.2.2.2.1.1, Nat.le_trans hroom.2 C.2.2.2.1.2.1⟩) ⟨fb_Wl, fun U hU hW => ⟨rfl, pre_at C hR hS U hU hW⟩⟩ rfl (by simp) hv.1 (by simp [F0]) (lv_room (by rw [vsum_cv]; exact hst)) hd (room_call hl0 hK.1 K.1 C.2.2.2.1.2.2.1 C.2.2.2.1.2.2.2) T hT X with z | ⟨q, st₀, t, T', L, E, ce, -, -, -, -, -, hf, -⟩
  · exact z
  · exact hf.elim
end RJX
