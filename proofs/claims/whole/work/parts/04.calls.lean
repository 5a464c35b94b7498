/-! Calls, entry, ends. -/
def vcat (x : Vv) : Nat := if vW x = true then 2 else 1
theorem vcat_cv (b : Nat) (x : Vv) : (cv b x).category = vcat x := by
  match x with
  | .inl x => rfl
  | .inr (.inl x) => rfl
  | .inr (.inr (.inl none)) => rfl
  | .inr (.inr (.inl (some a))) => rfl
  | .inr (.inr (.inr a)) => rfl
theorem vsum_cv (b : Nat) (st : List Vv) : ((st.map (cv b)).map fun v => v.category).sum = (st.map vcat).sum := by
  rw [List.map_map]
  congr 1
  exact List.map_congr_left fun x _ => vcat_cv b x
theorem fb_Wl {G : Gx} {av : List Value} {h : Hp} : FrameBlind (va_Pc av (Wl G h)) := fun a U g mk q => ⟨q.1, q.2.1, Kn.moved (u := U) (U := U.calling g mk a) (Vm.Alike.refl U.vm) q.2.2.1, Nst.same (u := U) (U := U.calling g mk a) rfl q.2.2.2.1, Xs.same (s := U) (U := U.calling g mk a) rfl q.2.2.2.2⟩
section RJC
variable {G : Gx} {l : Launch} {M : Mx} {Qf : List Frame → Array Value → State → Hp → State → Prop} {h' : Hp} {pc : Nat} {lv : List (Nat × Vv)} {st : List Vv} {h : Hp}
theorem pre_at {p : Program} {R : Room} {s : State} {m : MethodId} {args : Array Value} {meth : Method} {c : Code} {h0 : Hp} {H : Heap} {locs : List Loc} (C : CX G p R s m args meth c M h0 h') (hR : Rep G h H) (hS : va_S (fun q => G.2.1 ≤ q) s.heap H locs) : ∀ U : State, U.heap = H → s.WarmedH U.vm → Wl G h U := by
  intro U hU hW
  subst hU
  exact ⟨hR, Kn.moved hW.alike C.2.2.1.1, Nst.warm hW C.2.2.1.2.1, Xs.go hW (C.2.2.1.2.2.kept hS.2.1)⟩
theorem ro_after {h1 : Hp} {vr : Option Vv} (K : RQ G l M Qf h' (pc + 3) lv (vr.toList ++ st) h1) (hle : Le h h1) {p : Program} {e : Env} {R : Room} {s : State} {m : MethodId} {args : Array Value} {below : List Frame} {meth : Method} {c : Code} {h0 : Hp} (C : CX G p R s m args meth c M h0 h') (hl0 : Le h0 h)
    {H : Heap} {locs : List Loc} {ls : Array Slot} (hS : va_S (fun q => G.2.1 ≤ q) s.heap H locs) (hv : lv_has ls M.2.1 (cvl G.2.1 lv)) {st0 : List Value} {aa : Array Value}
    (hr : va_Run p l e R s m args below meth c H locs (h.length - h0.length) (sl h - sl h0) (h1.length - h.length) (sl h1 - sl h) (F0 m pc ls st0) (st.map (cv G.2.1)) (PQ G vr h1 aa) (fun q => G.2.1 ≤ q)) :
    W p l e R s m args below meth c H locs (h.length - h0.length) (sl h - sl h0) (Qf below args s h0) (F0 m pc ls st0) := by
  intro T hT X
  obtain ⟨v', st₀, t, T', L, h00, X', hL, e1, e2, ⟨hvv, hrep, hF⟩, stp⟩ := hr T hT X
  have hv' : v' = vr.map (cv G.2.1) := by
    injection hvv
  subst hv'
  have l1 := hl0.1
  have l2 := hl0.2
  have l3 := hle.1
  have l4 := hle.2
  have c1 : h.length - h0.length + (h1.length - h.length) = h1.length - h0.length := by omega
  have c2 : sl h - sl h0 + (sl h1 - sl h) = sl h1 - sl h0 := by omega
  rw [c1, c2] at X'
  subst h00
  have K2 := K.2 p e R s m args below meth c h0 C (Le.tr hl0 hle) T'.heap (locs ++ L) ls (by rw [e1]; exact hrep) ⟨Nat.le_trans hS.1 (by rw [e1]; exact hF.1), fun q g1 g2 => by
    rw [e1, hF.2 q (Nat.lt_of_lt_of_le g1 hS.1) g2]
    exact hS.2.1 q g1 g2, fun q hq => by
    rcases List.mem_append.mp hq with z | z
    · exact hS.2.2 q z
    · exact hL q z⟩ hv
  obtain ⟨t2, a1, b1⟩ := K2 T' rfl X'
  have e3 : (vr.toList ++ st).map (cv G.2.1) = (vr.map (cv G.2.1)).toList ++ st.map (cv G.2.1) := by cases vr <;> simp
  rw [e3] at a1
  exact ⟨t2, stp t2 a1, b1⟩
theorem room_call {h1 h0 : Hp} {R : Room} (hl0 : Le h0 h) (hle : Le h h1) (k1 : Le h1 h') (r1 : h'.length - h0.length ≤ R.cells) (r2 : sl h' - sl h0 ≤ R.slots) : h.length - h0.length + (h1.length - h.length) ≤ R.cells ∧ sl h - sl h0 + (sl h1 - sl h) ≤ R.slots := by
  have l1 := hl0.1
  have l2 := hl0.2
  have l3 := hle.1
  have l4 := hle.2
  have l5 := k1.1
  have l6 := k1.2
  constructor <;> omega
theorem lv_cvsz {b : Nat} {ls : Array Slot} {n : Nat} (hv : lv_has ls n (cvl b lv)) : ls.size = n := hv.1
/-- what is asked of a callee's name -/
def okY (y : MethodName) (n : Nat) : Prop := y.cls ≠ "java/lang/invoke/MethodHandle" ∧ y.cls ≠ "java/lang/invoke/VarHandle" ∧ (parseMethodDescriptor y.desc).map (fun d => d.parameters.length) = some n
variable {y : MethodName} {bytes : ByteArray} {maxL idx ci fr lo a : Nat} {ret : Option FieldType} {r : Option Nat} {avs : List Vv} {vr : Option Vv} {h1 : Hp} {stk : List Vv} {T : u_T} {N : Nat}
theorem r_callV (hd : decode M.1 pc = .ok (.invokevirtual idx, 3)) (hc : vwCl[ci]? = some (y.cls, T, N)) (w1 : Cond.methodLink M.2.2.1 idx y ∈ wsK) (w2 : Cond.instanceMethod y ∈ wsK) (w3 : Cond.selects y.cls y y ∈ wsK) (w4 : Cond.initialized y.cls ∈ wsK) (w5 : Cond.code y bytes maxL ret ∈ wsK) (hy : okY y avs.length) (hroom : fr + 1 ≤ M.2.2.2.2.2.1 ∧ 8 + (maxL + 11) + lo ≤ M.2.2.2.2.2.2)
    (hs : avs.reverse ++ vR r :: st = stk) (hst : (st.map vcat).sum ≤ 8) (er : rcv h r ci = some a) (hK : KM l y (.code y bytes maxL ret :: wsK) fr lo G (vR (some a) :: avs) h vr h1) (K : RQ G l M Qf h' (pc + 3) lv (vr.toList ++ st) h1) : RQ G l M Qf h' pc lv stk h := by
  obtain ⟨rfl, fs, ho⟩ := rcv_sp er
  subst hs
  refine ⟨Le.tr hK.1 K.1, fun p e R s m args below meth c h0 C hl0 H locs ls hR hS hv => ?_⟩
  refine ro_after K hK.1 C hl0 hS hv (va_runV (As := avs.map (cv G.2.1)) (rest := st.map (cv G.2.1)) C.1 hK.2 (cwV avs.length C.1.2.2.2.2 (gIn ?_) rfl rfl rfl ⟨rfl, hy⟩ ⟨Nat.le_trans hroom.1 C.2.2.2.1.1, Nat.le_trans hroom.2 C.2.2.2.1.2.1⟩) ⟨fb_Wl, va_recv C.2.2.1.1 (P1 (obj_at hR ho)) (ci := ci) (q0 := 0) hc rfl, fun U hU hW => ⟨rfl, pre_at C hR hS U hU hW⟩⟩ rfl (by simp) hv.1 (by simp [F0, cv]) (lv_room (by rw [vsum_cv]; exact hst)) hd (room_call hl0 hK.1 K.1 C.2.2.2.1.2.2.1 C.2.2.2.1.2.2.2))
  intro w hw
  simp only [wsV, List.mem_append, List.mem_cons, List.not_mem_nil, or_false] at hw
  rcases hw with (rfl | rfl | rfl | rfl) | rfl | hw
  · exact w1
  · exact w2
  · exact w3
  · exact w4
  · exact w5
  · exact hw
theorem r_callS (hd : decode M.1 pc = .ok (.invokestatic idx, 3)) (w1 : Cond.methodLink M.2.2.1 idx y ∈ wsK) (w2 : Cond.static y ∈ wsK) (w4 : Cond.initialized y.cls ∈ wsK) (w5 : Cond.code y bytes maxL ret ∈ wsK) (hy : okY y avs.length) (hroom : fr + 1 ≤ M.2.2.2.2.2.1 ∧ 8 + (maxL + 11) + lo ≤ M.2.2.2.2.2.2)
    (hs : avs.reverse ++ st = stk) (hst : (st.map vcat).sum ≤ 8) (hK : KM l y (.code y bytes maxL ret :: wsK) fr lo G avs h vr h1) (K : RQ G l M Qf h' (pc + 3) lv (vr.toList ++ st) h1) : RQ G l M Qf h' pc lv stk h := by
  subst hs
  refine ⟨Le.tr hK.1 K.1, fun p e R s m args below meth c h0 C hl0 H locs ls hR hS hv => ?_⟩
  refine ro_after K hK.1 C hl0 hS hv (va_runS (As := avs.map (cv G.2.1)) (rest := st.map (cv G.2.1)) C.1 hK.2 (va_cwS avs.length C.1.2.2.2.2 (gIn ?_) rfl rfl rfl hy ⟨Nat.le_trans hroom.1 C.2.2.2.1.1, Nat.le_trans hroom.2 C.2.2.2.1.2.1⟩) ⟨fb_Wl, fun U hU hW => ⟨rfl, pre_at C hR hS U hU hW⟩⟩ rfl (by simp) hv.1 (by simp [F0]) (lv_room (by rw [vsum_cv]; exact hst)) hd (room_call hl0 hK.1 K.1 C.2.2.2.1.2.2.1 C.2.2.2.1.2.2.2))
  intro w hw
  simp only [va_wsS, List.mem_append, List.mem_cons, List.not_mem_nil, or_false] at hw
  rcases hw with (rfl | rfl | rfl) | rfl | hw
  · exact w1
  · exact w2
  · exact w4
  · exact w5
  · exact hw
theorem r_callSN (hd : decode M.1 pc = .ok (.invokestatic idx, 3)) (w1 : (M.2.2.1, idx, y) ∈ nstM) (w2 : Cond.static y ∈ wsK) (w4 : Cond.initialized y.cls ∈ wsK) (w5 : Cond.code y bytes maxL ret ∈ wsK) (hy : okY y avs.length) (hroom : fr + 1 ≤ M.2.2.2.2.2.1 ∧ 8 + (maxL + 11) + lo ≤ M.2.2.2.2.2.2)
    (hs : avs.reverse ++ st = stk) (hst : (st.map vcat).sum ≤ 8) (hK : KM l y (.code y bytes maxL ret :: wsK) fr lo G avs h vr h1) (K : RQ G l M Qf h' (pc + 3) lv (vr.toList ++ st) h1) : RQ G l M Qf h' pc lv stk h := by
  subst hs
  refine ⟨Le.tr hK.1 K.1, fun p e R s m args below meth c h0 C hl0 H locs ls hR hS hv => ?_⟩
  refine ro_after K hK.1 C hl0 hS hv (va_runSN (host := n_host) (As := avs.map (cv G.2.1)) (rest := st.map (cv G.2.1)) C.1 hK.2 ⟨va_cnB avs.length C.1.2.2.2.2 (gIn ?_) rfl rfl rfl (C.2.2.1.2.1.1 _ w1) (C.1.2.2.2.2 _ w4) hy ⟨Nat.le_trans hroom.1 C.2.2.2.1.1, Nat.le_trans hroom.2 C.2.2.2.1.2.1⟩, C.1.2.2.2.2 _ w2, trivial⟩ ⟨fb_Wl, fun U hU hW => ⟨rfl, pre_at C hR hS U hU hW⟩⟩ rfl (by simp) hv.1 (by simp [F0]) (lv_room (by rw [vsum_cv]; exact hst)) hd (room_call hl0 hK.1 K.1 C.2.2.2.1.2.2.1 C.2.2.2.1.2.2.2))
  intro w hw
  rcases List.mem_cons.mp hw with rfl | hw
  · exact w5
  · exact hw
theorem r_callI (hd : decode M.1 pc = .ok (.invokespecial idx, 3)) (w1 : Cond.methodLink M.2.2.1 idx y ∈ wsK) (w2 : Cond.instanceMethod y ∈ wsK) (w4 : Cond.initialized y.cls ∈ wsK) (w5 : Cond.code y bytes maxL none ∈ wsK) (hn : y.name = "<init>") (hy : okY y avs.length) (hroom : fr + 1 ≤ M.2.2.2.2.2.1 ∧ 8 + (maxL + 11) + lo ≤ M.2.2.2.2.2.2)
    (hs : avs.reverse ++ vR (some a) :: st = stk) (hst : (st.map vcat).sum ≤ 8) (hK : KM l y (.code y bytes maxL none :: wsK) fr lo G (vR (some a) :: avs) h none h1) (K : RQ G l M Qf h' (pc + 3) lv st h1) : RQ G l M Qf h' pc lv stk h := by
  subst hs
  refine ⟨Le.tr hK.1 K.1, fun p e R s m args below meth c h0 C hl0 H locs ls hR hS hv => ?_⟩
  refine ro_after (vr := none) K hK.1 C hl0 hS hv (va_runI (As := avs.map (cv G.2.1)) (rest := st.map (cv G.2.1)) (b := G.2.1 + a) C.1 hK.2 (cwI avs.length C.1.2.2.2.2 (gIn ?_) rfl rfl rfl (C.1.2.2.2.2 _ w4) (C.1.2.2.2.2 _ w1) (C.1.2.2.2.2 _ w2) hn hy ⟨Nat.le_trans hroom.1 C.2.2.2.1.1, Nat.le_trans hroom.2 C.2.2.2.1.2.1⟩) ⟨fb_Wl, fun U hU hW => ⟨rfl, pre_at C hR hS U hU hW⟩⟩ rfl (by simp) hv.1 (by simp [F0, cv]) (lv_room (by rw [vsum_cv]; exact hst)) hd (room_call hl0 hK.1 K.1 C.2.2.2.1.2.2.1 C.2.2.2.1.2.2.2))
  intro w hw
  rcases List.mem_cons.mp hw with rfl | hw
  · exact w5
  · exact hw
theorem r_callIN (hd : decode M.1 pc = .ok (.invokespecial idx, 3)) (w1 : (M.2.2.1, idx, y) ∈ nstM) (w2 : Cond.instanceMethod y ∈ wsK) (w4 : Cond.initialized y.cls ∈ wsK) (w5 : Cond.code y bytes maxL none ∈ wsK) (hn : y.name = "<init>") (hy : okY y avs.length) (hroom : fr + 1 ≤ M.2.2.2.2.2.1 ∧ 8 + (maxL + 11) + lo ≤ M.2.2.2.2.2.2)
    (hs : avs.reverse ++ vR (some a) :: st = stk) (hst : (st.map vcat).sum ≤ 8) (hK : KM l y (.code y bytes maxL none :: wsK) fr lo G (vR (some a) :: avs) h none h1) (K : RQ G l M Qf h' (pc + 3) lv st h1) : RQ G l M Qf h' pc lv stk h := by
  subst hs
  refine ⟨Le.tr hK.1 K.1, fun p e R s m args below meth c h0 C hl0 H locs ls hR hS hv => ?_⟩
  refine ro_after (vr := none) K hK.1 C hl0 hS hv (va_runIN (host := n_host) (As := avs.map (cv G.2.1)) (rest := st.map (cv G.2.1)) (b := G.2.1 + a) C.1 hK.2 ⟨va_cnB avs.length C.1.2.2.2.2 (gIn ?_) rfl rfl rfl (C.2.2.1.2.1.1 _ w1) (C.1.2.2.2.2 _ w4) hy ⟨Nat.le_trans hroom.1 C.2.2.2.1.1, Nat.le_trans hroom.2 C.2.2.2.1.2.1⟩, hn, C.1.2.2.2.2 _ w2⟩ ⟨fb_Wl, fun U hU hW => ⟨rfl, pre_at C hR hS U hU hW⟩⟩ rfl (by simp) hv.1 (by simp [F0, cv]) (lv_room (by rw [vsum_cv]; exact hst)) hd (room_call hl0 hK.1 K.1 C.2.2.2.1.2.2.1 C.2.2.2.1.2.2.2))
  intro w hw
  rcases List.mem_cons.mp hw with rfl | hw
  · exact w5
  · exact hw
/-- a superclass's method -/
theorem r_callSU (hd : decode M.1 pc = .ok (.invokespecial idx, 3)) (w1 : Cond.methodLink M.2.2.1 idx y ∈ wsK) (w6 : Cond.sameMethod y.cls y.cls y.name y.desc ∈ wsK) (w7 : Cond.superclass M.2.2.1 y.cls ∈ wsK) (w2 : Cond.instanceMethod y ∈ wsK) (w4 : Cond.initialized y.cls ∈ wsK) (w5 : Cond.code y bytes maxL ret ∈ wsK) (hy : y.name ≠ "<init>" ∧ (parseMethodDescriptor y.desc).map (fun d => d.parameters.length) = some avs.length) (hroom : fr + 1 ≤ M.2.2.2.2.2.1 ∧ 8 + (maxL + 11) + lo ≤ M.2.2.2.2.2.2)
    (hs : avs.reverse ++ vR r :: st = stk) (hst : (st.map vcat).sum ≤ 8) {q9 : Nat × Nat} (er : rcl h r = some q9) (hK : KM l y (.code y bytes maxL ret :: wsK) fr lo G (vR (some q9.1) :: avs) h vr h1) (K : RQ G l M Qf h' (pc + 3) lv (vr.toList ++ st) h1) : RQ G l M Qf h' pc lv stk h := by
  obtain ⟨rfl, fs, ho⟩ := rcl_sp er
  subst hs
  refine ⟨Le.tr hK.1 K.1, fun p e R s m args below meth c h0 C hl0 H locs ls hR hS hv => ?_⟩
  obtain ⟨rc, hrc, -⟩ := obj_at hR ho
  refine ro_after K hK.1 C hl0 hS hv (va_runSU (As := avs.map (cv G.2.1)) (rest := st.map (cv G.2.1)) (C.2.2.1.1.1 _ rc hrc).2 C.1 hK.2 (va_cwSU avs.length C.1.2.2.2.2 (gIn ?_) rfl rfl rfl hy ⟨Nat.le_trans hroom.1 C.2.2.2.1.1, Nat.le_trans hroom.2 C.2.2.2.1.2.1⟩) ⟨fb_Wl, va_recv C.2.2.1.1 (P1 (obj_at hR ho)) (q0 := 0) hrc rfl, fun U hU hW => ⟨rfl, pre_at C hR hS U hU hW⟩⟩ rfl (by simp) hv.1 (by simp [F0, cv]) (lv_room (by rw [vsum_cv]; exact hst)) hd (room_call hl0 hK.1 K.1 C.2.2.2.1.2.2.1 C.2.2.2.1.2.2.2))
  intro w hw
  simp only [va_wsSU, List.mem_append, List.mem_cons, List.not_mem_nil, or_false] at hw
  rcases hw with (rfl | rfl | rfl | rfl | rfl) | rfl | hw
  · exact w1
  · exact w6
  · exact w7
  · exact w2
  · exact w4
  · exact w5
  · exact hw
/-- a method that the receiver's class chooses -/
theorem r_callO {x : MethodName} {Cn : String} {b0 : ByteArray} {m0 : Nat} {r0 : Option FieldType} (hd : decode M.1 pc = .ok (.invokevirtual idx, 3)) (hc : vwCl[ci]? = some (Cn, T, N)) (w1 : Cond.methodLink M.2.2.1 idx x ∈ wsK) (w6 : Cond.sameMethod x.cls x.cls x.name x.desc ∈ wsK) (w7 : Cond.instanceMethod ⟨x.cls, x.name, x.desc⟩ ∈ wsK) (w3 : Cond.selects Cn x y ∈ wsK) (w2 : Cond.instanceMethod y ∈ wsK) (w4 : Cond.initialized y.cls ∈ wsK) (w5 : Cond.code y bytes maxL ret ∈ wsK) (w8 : Cond.code ⟨x.cls, x.name, x.desc⟩ b0 m0 r0 ∈ wsK) (hy : okY x avs.length) (hroom : fr + 1 ≤ M.2.2.2.2.2.1 ∧ 8 + (maxL + 11) + lo ≤ M.2.2.2.2.2.2)
    (hs : avs.reverse ++ vR r :: st = stk) (hst : (st.map vcat).sum ≤ 8) (er : rcl h r = some (a, ci)) (hK : KM l y (.code y bytes maxL ret :: wsK) fr lo G (vR (some a) :: avs) h vr h1) (K : RQ G l M Qf h' (pc + 3) lv (vr.toList ++ st) h1) : RQ G l M Qf h' pc lv stk h := by
  obtain ⟨e1, fs, ho⟩ := rcl_sp er
  simp only at e1 ho
  subst e1
  subst hs
  refine ⟨Le.tr hK.1 K.1, fun p e R s m args below meth c h0 C hl0 H locs ls hR hS hv => ?_⟩
  refine ro_after K hK.1 C hl0 hS hv (va_runU (As := avs.map (cv G.2.1)) (rest := st.map (cv G.2.1)) C.1 hK.2 (va_cwO (owner := x.cls) avs.length C.1.2.2.2.2 (gIn ?_) rfl rfl rfl w8 hy ⟨Nat.le_trans hroom.1 C.2.2.2.1.1, Nat.le_trans hroom.2 C.2.2.2.1.2.1⟩) ⟨fb_Wl, va_recv C.2.2.1.1 (P1 (obj_at hR ho)) (ci := ci) (q0 := 0) hc rfl, fun U hU hW => ⟨rfl, pre_at C hR hS U hU hW⟩⟩ rfl (by simp) hv.1 (by simp [F0, cv]) (lv_room (by rw [vsum_cv]; exact hst)) hd (room_call hl0 hK.1 K.1 C.2.2.2.1.2.2.1 C.2.2.2.1.2.2.2))
  intro w hw
  simp only [va_wsO, List.mem_append, List.mem_cons, List.not_mem_nil, or_false] at hw
  rcases hw with (rfl | rfl | rfl | rfl | rfl | rfl) | rfl | hw
  · exact w1
  · exact w6
  · exact w7
  · exact w3
  · exact w2
  · exact w4
  · exact w5
  · exact hw
theorem r_objInit (hd : decode M.1 pc = .ok (.invokespecial idx, 3)) (w1 : Cond.methodLink M.2.2.1 idx objectInit ∈ wsK) (w2 : Cond.instanceMethod objectInit ∈ wsK) (w5 : Cond.code objectInit ⟨#[0xb1]⟩ 1 none ∈ wsK) (hroom : 1 ≤ M.2.2.2.2.2.1 ∧ 20 ≤ M.2.2.2.2.2.2) (hst : (st.map vcat).sum ≤ 8) (K : RQ G l M Qf h' (pc + 3) lv st h) : RQ G l M Qf h' pc lv (vR (some a) :: st) h := by
  refine ⟨K.1, fun p e R s m args below meth c h0 C hl0 H locs ls hR hS hv => ?_⟩
  refine W.objInit (a := G.2.1 + a) C.1.1 C.1.2.1 C.1.2.2.2.1 (C.1.2.2.2.2 _ w1) (C.1.2.2.2.2 _ w2) (C.1.2.2.2.2 _ w5) rfl (by rw [C.1.2.2.1]; exact hv.1) rfl hd (Nat.le_trans hroom.1 C.2.2.2.1.1) ?_ ?_
  · have e1 := vsum_cv G.2.1 st
    have e2 := C.2.2.2.1.2.1
    show 2 * 0 + ((st.map (cv G.2.1)).map fun v => v.category).sum + 12 ≤ R.locals
    omega
  · exact W.eq (g2 := F0 m (pc + 3) ls (st.map (cv G.2.1))) rfl (K.2 p e R s m args below meth c h0 C hl0 H locs ls hR hS hv)
def mxI (x y : Int32) : Int32 := if x < y then y else x
def mnI (x y : Int32) : Int32 := if y < x then y else x
theorem r_max {x y : Int32} (hd : decode M.1 pc = .ok (.invokestatic idx, 3)) (w1 : Cond.methodLink M.2.2.1 idx Lib.Math.max.name ∈ wsK) (w2 : Cond.static Lib.Math.max.name ∈ wsK) (w4 : Cond.initialized "java/lang/Math" ∈ wsK) (w5 : Cond.code Lib.Math.max.name Lib.Math.max.code 2 (some .int) ∈ wsK) (hroom : 1 ≤ M.2.2.2.2.2.1 ∧ 21 ≤ M.2.2.2.2.2.2) (hst : (st.map vcat).sum ≤ 8) (K : RQ G l M Qf h' (pc + 3) lv (vI (mxI x y) :: st) h) : RQ G l M Qf h' pc lv (vI y :: vI x :: st) h := by
  refine ⟨K.1, fun p e R s m args below meth c h0 C hl0 H locs ls hR hS hv => ?_⟩
  have l1 := K.1.1
  have l2 := K.1.2
  have r1 := C.2.2.2.1.2.2.1
  have r2 := C.2.2.2.1.2.2.2
  refine va_mmax C.1.1 C.1.2.1 (by rw [C.1.2.2.1]; exact hv.1.symm) C.1.2.2.2.1 (C.1.2.2.2.2 _ w1) (C.1.2.2.2.2 _ w2) (C.1.2.2.2.2 _ w4) (C.1.2.2.2.2 _ w5) (Nat.le_trans hroom.1 C.2.2.2.1.1) ?_ (by omega) (by omega) hd (K.2 p e R s m args below meth c h0 C hl0 H locs ls hR hS hv)
  have e1 := vsum_cv G.2.1 st
  have e2 := C.2.2.2.1.2.1
  omega
theorem r_min {x y : Int32} (hd : decode M.1 pc = .ok (.invokestatic idx, 3)) (w1 : Cond.methodLink M.2.2.1 idx Lib.Math.min.name ∈ wsK) (w2 : Cond.static Lib.Math.min.name ∈ wsK) (w4 : Cond.initialized "java/lang/Math" ∈ wsK) (w5 : Cond.code Lib.Math.min.name Lib.Math.min.code 2 (some .int) ∈ wsK) (hroom : 1 ≤ M.2.2.2.2.2.1 ∧ 21 ≤ M.2.2.2.2.2.2) (hst : (st.map vcat).sum ≤ 8) (K : RQ G l M Qf h' (pc + 3) lv (vI (mnI x y) :: st) h) : RQ G l M Qf h' pc lv (vI y :: vI x :: st) h := by
  refine ⟨K.1, fun p e R s m args below meth c h0 C hl0 H locs ls hR hS hv => ?_⟩
  have l1 := K.1.1
  have l2 := K.1.2
  have r1 := C.2.2.2.1.2.2.1
  have r2 := C.2.2.2.1.2.2.2
  refine va_mmin C.1.1 C.1.2.1 (by rw [C.1.2.2.1]; exact hv.1.symm) C.1.2.2.2.1 (C.1.2.2.2.2 _ w1) (C.1.2.2.2.2 _ w2) (C.1.2.2.2.2 _ w4) (C.1.2.2.2.2 _ w5) (Nat.le_trans hroom.1 C.2.2.2.1.1) ?_ (by omega) (by omega) hd (K.2 p e R s m args below meth c h0 C hl0 H locs ls hR hS hv)
  have e1 := vsum_cv G.2.1 st
  have e2 := C.2.2.2.1.2.1
  omega
-- ends
theorem r_iret {x : Int32} (hr : M.2.2.2.2.1 = some .int) (hd : decode M.1 pc = .ok (.ireturn, 1)) : RJ G l M (some (vI x)) h pc lv [vI x] h :=
  ⟨Le.rf, fun p e R s m args below meth c h0 C hl0 H locs ls hR hS hv => W.iret C.1.1 C.1.2.1 (C.2.1.2.1.trans hr) (fun t ht hW => ⟨rfl, by rw [ht]; exact hR, hS.F ht⟩) hS.2.2 hd C.2.1.1⟩
theorem nar_bool {x : Int32} (hx : x = 0 ∨ x = 1) : narrow .boolean (.int x) = .int x := by
  rcases hx with rfl | rfl <;> decide +kernel
theorem r_zret {x y : Int32} (hr : M.2.2.2.2.1 = some .boolean) (hd : decode M.1 pc = .ok (.ireturn, 1)) (hx : okZ x = some y) : RJ G l M (some (vI y)) h pc lv [vI x] h := by
  obtain ⟨rfl, hx⟩ := okZ_sp hx
  exact ⟨Le.rf, fun p e R s m args below meth c h0 C hl0 H locs ls hR hS hv => W.zret C.1.1 C.1.2.1 (C.2.1.2.1.trans hr) (nar_bool hx) (fun t ht hW => ⟨rfl, by rw [ht]; exact hR, hS.F ht⟩) hS.2.2 hd C.2.1.1⟩
theorem r_lret {x : Int64} (hr : M.2.2.2.2.1 = some .long) (hd : decode M.1 pc = .ok (.lreturn, 1)) : RJ G l M (some (vL x)) h pc lv [vL x] h :=
  ⟨Le.rf, fun p e R s m args below meth c h0 C hl0 H locs ls hR hS hv => W.lret C.1.1 C.1.2.1 (C.2.1.2.1.trans hr) (fun t ht hW => ⟨rfl, by rw [ht]; exact hR, hS.F ht⟩) hS.2.2 hd C.2.1.1⟩
theorem r_vret (hr : M.2.2.2.2.1 = none) (hd : decode M.1 pc = .ok (.return_, 1)) : RJ G l M none h pc lv [] h :=
  ⟨Le.rf, fun p e R s m args below meth c h0 C hl0 H locs ls hR hS hv => W.vret C.1.1 C.1.2.1 (C.2.1.2.1.trans hr) (fun t ht hW => ⟨rfl, by rw [ht]; exact hR, hS.F ht⟩) hS.2.2 hd C.2.1.1⟩
theorem r_aret {x : Option Nat} {Cn : String} (hr : M.2.2.2.2.1 = some (.object Cn)) (hd : decode M.1 pc = .ok (.areturn, 1)) : RJ G l M (some (vR x)) h pc lv [vR x] h :=
  ⟨Le.rf, fun p e R s m args below meth c h0 C hl0 H locs ls hR hS hv => W.aret C.1.1 C.1.2.1 (C.2.1.2.1.trans hr) (Or.inl ⟨_, rfl⟩) (by cases x with | none => exact Or.inl rfl | some a => exact Or.inr ⟨_, rfl⟩) (fun t ht hW => ⟨rfl, by rw [ht]; exact hR, hS.F ht⟩) hS.2.2 hd C.2.1.1⟩
-- entry
def largs : Nat → List Vv → List (Nat × Vv)
  | _, [] => []
  | i, x :: xs => (i, x) :: largs (if vW x = true then i + 2 else i + 1) xs
theorem largs_cv (b : Nat) : ∀ (xs : List Vv) (i : Nat), lv_args i (xs.map (cv b)) = cvl b (largs i xs)
  | [], _ => rfl
  | x :: xs, i => by
    have ih := largs_cv b xs
    have hc : ((cv b x).category = 2) = (vW x = true) := by rw [← vW_cat b x]; simp
    simp only [List.map_cons, lv_args, largs, cvl, hc]
    rw [ih]
theorem lg_len (b : Nat) (xs : List Vv) : (lg_sl (xs.map (cv b))).length = (xs.map vcat).sum := by
  induction xs with
  | nil => rfl
  | cons x xs ih =>
    have e : lg_sl ((x :: xs).map (cv b)) = (if (cv b x).category = 2 then [Slot.val (cv b x), Slot.second] else [Slot.val (cv b x)]) ++ lg_sl (xs.map (cv b)) := by simp [lg_sl]
    rw [e, List.length_append, ih, List.map_cons, List.sum_cons, vcat_cv]
    unfold vcat
    cases vW x <;> simp
theorem r_entry {v : Option Vv} {cc : ByteArray} {maxL fr lo : Nat} {ctor : Bool} {ret : Option FieldType} {own : String} {av : List Vv} (hy : plainName y.cls = true) (ho : y.cls = own) (hct : ctor = true → y.name = "<init>") (hsz : (av.map vcat).sum ≤ maxL) (K : RJ G l (cc, maxL, own, (ctor, []), ret, fr, lo) v h' 0 (largs 0 av) [] h) : KM l y (.code y cc maxL ret :: wsK) fr lo G av h v h' := by
  refine ⟨K.1, Met.ofW (cc := cc) (maxL := maxL) (ret := ret) hy rfl ?_⟩
  intro p e s m args below meth c s₁ B hml hv
  obtain ⟨rfl, hR, hKn, hN, hX⟩ := hv
  have hts := atoms_spec (ws := .code y cc maxL ret :: wsK) B.pre
  have hown : s.vm.findClass own = some m.cls := ho ▸ findClass_of_methodNamed B.named
  have htb : c.exceptionTable.toList = tableOf [] := by
    obtain ⟨meth9, c9, h1, h2, -, -, -, -, h7, -⟩ := Cond.code_spec B.named (hts _ List.mem_cons_self)
    cases Option.some.inj (h1.symm.trans B.method)
    cases Option.some.inj (h2.symm.trans (Stand.of_body B).code)
    rw [Array.isEmpty_iff.mp h7]
    rfl
  have hl := lv_entry (av.map (cv G.2.1)) (n := maxL) (by rw [lg_len]; exact hsz)
  rw [largs_cv] at hl
  rw [lg_entry_eq]
  generalize (lg_sl (av.map (cv G.2.1)) ++ List.replicate (maxL - (lg_sl (av.map (cv G.2.1))).length) Slot.unset).toArray = ls at hl ⊢
  have K2 := K.2 p e ({ frames := fr, cells := h'.length - h.length, slots := sl h' - sl h, locals := lo } : Room) s m _ below meth c h ⟨⟨B.exec, B.bytes, hml, hown, fun w hw => hts w (List.mem_cons_of_mem _ hw)⟩, ⟨B.notSynchronized, B.returns, ⟨fun q => ((name_of_methodNamed B.named B.method).1).trans (hct q), htb⟩⟩, ⟨hKn, hN, hX⟩, ⟨Nat.le_refl _, Nat.le_refl _, Nat.le_refl _, Nat.le_refl _⟩, hR.1⟩ Le.rf s.heap [] ls hR va_S.rf hl
  exact W.widen (Nat.zero_le _) (Nat.zero_le _) K2
end RJC

