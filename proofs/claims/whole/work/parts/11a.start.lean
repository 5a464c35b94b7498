theorem tl_1 {w : Cond} (i : Nat) (h : tables_1_1[i]? = some w) : w ∈ lw_tbl := List.mem_append_right _ (List.mem_append_left _ (List.mem_of_getElem? h))
theorem tl_2 {w : Cond} (i : Nat) (h : tables_1_2[i]? = some w) : w ∈ lw_tbl := List.mem_append_right _ (List.mem_append_right _ (List.mem_append_left _ (List.mem_of_getElem? h)))
theorem tl_3 {w : Cond} (i : Nat) (h : tables_1_3[i]? = some w) : w ∈ lw_tbl := List.mem_append_right _ (List.mem_append_right _ (List.mem_append_right _ (List.mem_append_left _ (List.mem_of_getElem? h))))
theorem tl_4 {w : Cond} (i : Nat) (h : tables_1_4[i]? = some w) : w ∈ lw_tbl := List.mem_append_right _ (List.mem_append_right _ (List.mem_append_right _ (List.mem_append_right _ (List.mem_append_left _ (List.mem_of_getElem? h)))))
theorem tl_5 {w : Cond} (i : Nat) (h : tables_1_5[i]? = some w) : w ∈ lw_tbl := List.mem_append_right _ (List.mem_append_right _ (List.mem_append_right _ (List.mem_append_right _ (List.mem_append_right _ (List.mem_of_getElem? h)))))
section ST
variable {args : Array Value} {s : State}
theorem st_nm (hts : ∀ w ∈ lw_tbl, w.before args s = true) : ∀ q ∈ nstM, va_Nw (.methodLinkNest q.1 q.2.1 q.2.2 n_host) s :=
  List.forall_mem_cons.mpr ⟨va_Nw.of rfl (hts _ (tl_1 195 rfl)), List.forall_mem_cons.mpr ⟨va_Nw.of rfl (hts _ (tl_1 192 rfl)), List.forall_mem_cons.mpr ⟨va_Nw.of rfl (hts _ (tl_1 100 rfl)), List.forall_mem_cons.mpr ⟨va_Nw.of rfl (hts _ (tl_1 32 rfl)), fun _ h => absurd h List.not_mem_nil⟩⟩⟩⟩
theorem st_nf (hts : ∀ w ∈ lw_tbl, w.before args s = true) : ∀ q ∈ nstF, va_Nw (.fieldLinkNest q.1 q.2.1 q.2.2.1 q.2.2.2.1 q.2.2.2.2 n_host) s :=
  List.forall_mem_cons.mpr ⟨va_Nw.of rfl (hts _ (tl_1 71 rfl)), List.forall_mem_cons.mpr ⟨va_Nw.of rfl (hts _ (tl_1 75 rfl)), List.forall_mem_cons.mpr ⟨va_Nw.of rfl (hts _ (tl_1 105 rfl)), List.forall_mem_cons.mpr ⟨va_Nw.of rfl (hts _ (tl_1 111 rfl)), List.forall_mem_cons.mpr ⟨va_Nw.of rfl (hts _ (tl_1 107 rfl)), List.forall_mem_cons.mpr ⟨va_Nw.of rfl (hts _ (tl_1 73 rfl)), List.forall_mem_cons.mpr ⟨va_Nw.of rfl (hts _ (tl_1 70 rfl)), List.forall_mem_cons.mpr ⟨va_Nw.of rfl (hts _ (tl_1 109 rfl)), fun _ h => absurd h List.not_mem_nil⟩⟩⟩⟩⟩⟩⟩⟩
theorem st_cd (hts : ∀ w ∈ lw_tbl, w.before args s = true) : ∀ w ∈ xcd, va_Nw w s :=
  List.forall_mem_cons.mpr ⟨va_Nw.of rfl (hts _ (tl_4 1 rfl)), List.forall_mem_cons.mpr ⟨va_Nw.of rfl (hts _ (tl_4 22 rfl)), List.forall_mem_cons.mpr ⟨va_Nw.of rfl (hts _ (tl_3 169 rfl)), List.forall_mem_cons.mpr ⟨va_Nw.of rfl (hts _ (tl_3 175 rfl)), List.forall_mem_cons.mpr ⟨va_Nw.of rfl (hts _ (tl_3 171 rfl)), List.forall_mem_cons.mpr ⟨va_Nw.of rfl (hts _ (tl_3 173 rfl)), fun _ h => absurd h List.not_mem_nil⟩⟩⟩⟩⟩⟩
theorem st_neg (hq : ∀ w ∈ flatC (Jvm.Cond.and given_1 narrow_1), w.before args s = true) : ∀ q ∈ xneg, va_Nc q.1 q.2 s :=
  List.forall_mem_cons.mpr ⟨va_Nc.of (hq (Cond.not (.castable "java/lang/IllegalArgumentException" "java/lang/IllegalStateException")) (by decide +kernel)), List.forall_mem_cons.mpr ⟨va_Nc.of (hq (Cond.not (.castable "java/lang/IllegalArgumentException" "java/lang/UnsupportedOperationException")) (by decide +kernel)), List.forall_mem_cons.mpr ⟨va_Nc.of (hq (Cond.not (.castable "java/lang/IllegalStateException" "java/lang/IllegalArgumentException")) (by decide +kernel)), List.forall_mem_cons.mpr ⟨va_Nc.of (hq (Cond.not (.castable "java/lang/IllegalStateException" "java/lang/UnsupportedOperationException")) (by decide +kernel)), List.forall_mem_cons.mpr ⟨va_Nc.of (hq (Cond.not (.castable "java/lang/UnsupportedOperationException" "java/lang/IllegalArgumentException")) (by decide +kernel)), List.forall_mem_cons.mpr ⟨va_Nc.of (hq (Cond.not (.castable "java/lang/UnsupportedOperationException" "java/lang/IllegalStateException")) (by decide +kernel)), fun _ h => absurd h List.not_mem_nil⟩⟩⟩⟩⟩⟩
theorem st_s {own tx : String} {k : Nat} (h1 : (Cond.stringRef own k tx).before args s = true) (h2 : (Cond.exactly (Term.string own k) "java/lang/String").before args s = true) : ∃ sa, vk_R own k tx sa s := by
  obtain ⟨a, -, -, -, h, -⟩ := Cond.exactly_spec h2
  exact ⟨a, vk_R.of h1 h⟩
theorem st_str (hts : ∀ w ∈ lw_tbl, w.before args s = true) (hq : ∀ w ∈ flatC (Jvm.Cond.and given_1 narrow_1), w.before args s = true) : ∀ q ∈ xstr, ∃ sa, vk_R q.1 q.2.1 q.2.2 sa s :=
  List.forall_mem_cons.mpr ⟨st_s (hts _ (tl_4 45 rfl)) (hq (Cond.exactly (Term.string "NumberedByAge" 203) "java/lang/String") (by decide +kernel)), List.forall_mem_cons.mpr ⟨st_s (hts _ (tl_4 47 rfl)) (hq (Cond.exactly (Term.string "NumberedByAge" 214) "java/lang/String") (by decide +kernel)), List.forall_mem_cons.mpr ⟨st_s (hts _ (tl_3 208 rfl)) (hq (Cond.exactly (Term.string "NumberedByAge$Last" 28) "java/lang/String") (by decide +kernel)), List.forall_mem_cons.mpr ⟨st_s (hts _ (tl_4 29 rfl)) (hq (Cond.exactly (Term.string "NumberedByAge$Law" 23) "java/lang/String") (by decide +kernel)), List.forall_mem_cons.mpr ⟨st_s (hts _ (tl_4 8 rfl)) (hq (Cond.exactly (Term.string "NumberedByAge$Side" 23) "java/lang/String") (by decide +kernel)), fun _ h => absurd h List.not_mem_nil⟩⟩⟩⟩⟩
theorem st_k (hts : ∀ w ∈ lw_tbl, w.before args s = true) : ∀ c : Nat, ∃ d : ClassId × (Nat → Nat), ∀ q, vwCl[c]? = some q → u_Kn s q.1 q.2.1 q.2.2 d.1 d.2 := by
  intro c
  match c with
  | 0 =>
    obtain ⟨a, b, k⟩ := u_known (fun w h => hts w (wsK_in w h)) ic_0 (hts _ (wsK_in _ kw_2_31))
    exact ⟨(a, b), fun q hq => by cases hq; exact k⟩
  | 1 =>
    obtain ⟨a, b, k⟩ := u_known (fun w h => hts w (wsK_in w h)) ic_1 (hts _ (wsK_in _ kw_2_49))
    exact ⟨(a, b), fun q hq => by cases hq; exact k⟩
  | 2 =>
    obtain ⟨a, b, k⟩ := u_known (fun w h => hts w (wsK_in w h)) ic_2 (hts _ (wsK_in _ kw_2_73))
    exact ⟨(a, b), fun q hq => by cases hq; exact k⟩
  | 3 =>
    obtain ⟨a, b, k⟩ := u_known (fun w h => hts w (wsK_in w h)) ic_3 (hts _ (wsK_in _ kw_1_37))
    exact ⟨(a, b), fun q hq => by cases hq; exact k⟩
  | 4 =>
    obtain ⟨a, b, k⟩ := u_known (fun w h => hts w (wsK_in w h)) ic_4 (hts _ (wsK_in _ kw_2_40))
    exact ⟨(a, b), fun q hq => by cases hq; exact k⟩
  | 5 =>
    obtain ⟨a, b, k⟩ := u_known (fun w h => hts w (wsK_in w h)) ic_5 (hts _ (wsK_in _ kw_1_99))
    exact ⟨(a, b), fun q hq => by cases hq; exact k⟩
  | 6 =>
    obtain ⟨a, b, k⟩ := u_known (fun w h => hts w (wsK_in w h)) ic_6 (hts _ (wsK_in _ kw_2_81))
    exact ⟨(a, b), fun q hq => by cases hq; exact k⟩
  | 7 =>
    obtain ⟨a, b, k⟩ := u_known (fun w h => hts w (wsK_in w h)) ic_7 (hts _ (wsK_in _ kw_2_65))
    exact ⟨(a, b), fun q hq => by cases hq; exact k⟩
  | 8 =>
    obtain ⟨a, b, k⟩ := u_known (fun w h => hts w (wsK_in w h)) ic_8 (hts _ (wsK_in _ kw_1_31))
    exact ⟨(a, b), fun q hq => by cases hq; exact k⟩
  | 9 =>
    obtain ⟨a, b, k⟩ := u_known (fun w h => hts w (wsK_in w h)) ic_9 (hts _ (wsK_in _ kw_2_57))
    exact ⟨(a, b), fun q hq => by cases hq; exact k⟩
  | 10 =>
    obtain ⟨a, b, k⟩ := u_known (fun w h => hts w (wsK_in w h)) ic_10 (hts _ (wsK_in _ kw_1_23))
    exact ⟨(a, b), fun q hq => by cases hq; exact k⟩
  | 11 =>
    obtain ⟨a, b, k⟩ := u_known (fun w h => hts w (wsK_in w h)) ic_11 (hts _ (wsK_in _ kw_4_50))
    exact ⟨(a, b), fun q hq => by cases hq; exact k⟩
  | n + 12 => exact ⟨(0, fun _ => 0), fun q hq => by cases hq⟩
theorem st_a {ty : FieldType} (h : (Cond.arrayClass ty).before args s = true) : ∃ cA, ArrOfT s cA ty ∧ s.vm.findClass ("[" ++ ty.toString) = some cA := by
  obtain ⟨c, k, comp, h1, h2, h3⟩ := Cond.arrayClass_spec h
  exact ⟨c, fun n z => ⟨(fun k h => by cases h), k, h2, comp, h3⟩, h1⟩
theorem st_o {C : String} (h : (Cond.arrayOver (.object C)).before args s = true) : ∃ cA, ArrOfT s cA (.object C) ∧ va_RA s cA (.object C) := by
  obtain ⟨comp, c, k, h1, h2, h3, h4, h5⟩ := Cond.arrayOver_spec h
  exact ⟨c, fun n z => ⟨(fun k h => by cases h), k, h3, comp, h4⟩, k, comp, h3, h4, h1, h5⟩
end ST
/-- all that is left to show: of the functions alone -/
def PURE : Prop := ∀ (L : Nat) (xs : Nat → Int32), L ≤ 3072 → ∃ h' : Hp, f_L_law [] L xs = some ((1 : Int32), h') ∧ h'.length ≤ 901557 ∧ sl h' ≤ 6391434
theorem st_Z {G : Gx} {below : List Frame} {a : Array Value} {s t : State} {h' : Hp} {mc ms : Nat} (hb : G.2.1 = s.heap.size) (h1 : mc ≤ 901557) (h2 : ms ≤ 6391434) (h : MQ below (PQ G (some (vI 1)) h') a s mc ms (fun q => G.2.1 ≤ q) t) : lw_Z below a s t := by
  obtain ⟨o, e1, e2, ⟨e3, -, -⟩, L, ⟨e4, e5, d1, d2, d3, d4, d5, d6⟩, e6⟩ := h
  refine ⟨o, e1, e2, e3, e4, e5, d1, d2, Nat.le_trans d3 (Nat.add_le_add_left h1 _), d4, Nat.le_trans d5 h2, fun q c hc => ?_⟩
  obtain ⟨c', f1, f2, f3, f4⟩ := d6 q c hc
  refine ⟨c', f1, f2, f3, fun i _ => f4 i (fun hm => ?_)⟩
  have g1 := e6 _ hm
  have g2 : q < s.heap.size := (Array.getElem?_eq_some_iff.mp hc).1
  rw [hb] at g1
  exact Nat.lt_irrefl _ (Nat.lt_of_lt_of_le g2 g1)
theorem st_flags {l : Launch} (h : l.flags = flags0) : l.stackTraces = false := by
  unfold Launch.stackTraces
  rw [h]
  decide +kernel
theorem st_tab (c : Code) : ∃ hh, c.exceptionTable.toList = tableOf hh := by
  refine ⟨c.exceptionTable.toList.map (fun x => (x.startPc, x.endPc, x.handlerPc, x.catchType)), ?_⟩
  unfold tableOf
  rw [List.map_map]
  exact (List.map_id _).symm
set_option maxRecDepth 100000 in
set_option maxHeartbeats 4000000 in
theorem start_of (hp : PURE) {p : Program} {e : Env} {s : State} {m : MethodId} {below : List Frame} {meth : Method} {c : Code} (l : Launch) (hflags : l.flags = flags0) {b L : Nat} {xs : Nat → Int32} (hL : L ≤ 3072) (C0 : lw_At p s m meth c b L xs) : W p l e room_1 s m #[Value.ref b] below meth c s.heap [] 0 0 (lw_Z below #[Value.ref b] s) (entryFrame m ([Value.ref b] : List Value).toArray 8) := by
  obtain ⟨hx, hcode, hr, hml, hown, hts, hX, hbl, hlocks, hgv⟩ := C0
  have hq := flat_of_before _ hgv
  have hw : ∀ w ∈ wsK, w.before #[Value.ref b] s = true := fun w h => hts w (wsK_in w h)
  obtain ⟨h', hf, hc1, hc2⟩ := hp L xs hL
  obtain ⟨cI, aI1, aI2⟩ := st_a (hw _ kw_1_61)
  obtain ⟨cJ, aJ1, aJ2⟩ := st_a (hw _ kw_4_161)
  obtain ⟨cS, aS1, aS2⟩ := st_o (hts _ (tl_1 98 rfl))
  obtain ⟨hh, htab⟩ := st_tab c
  have hk := st_k hts
  let D : va_G := (fun c => (Classical.choose (hk c)).1, fun c => (Classical.choose (hk c)).2)
  let G : Gx := (D, s.heap.size, cI, cJ, cS, b, L, xs)
  have hKn : Kn G s := by
    refine ⟨fun c q hc => Classical.choose_spec (hk c) q hc, fun k q hkq => ?_⟩
    match k with
    | 0 => cases hkq; exact ⟨aI1, aI2⟩
    | 1 => cases hkq; exact ⟨aJ1, aJ2⟩
    | 2 => cases hkq; exact ⟨aS1, aS2⟩
    | k + 3 => cases hkq
  have hXs : Xs G s s.heap := by
    refine ⟨⟨?_, ?_⟩, st_str hts hq, st_cd hts, st_neg hq, va_AO.of (hts _ (tl_1 98 rfl)), hX, hbl⟩
    · exact vx_Zqof (hts _ (tl_3 194 rfl)) (hts _ (tl_1 16 rfl)) (hq (Cond.isRef (.static "java/lang/Throwable" "UNASSIGNED_STACK" "[Ljava/lang/StackTraceElement;")) (by decide +kernel)) (fun a h1 h2 => Nat.not_le.mpr h1 h2)
    · exact vx_Zqof (hts _ (tl_3 196 rfl)) (hts _ (tl_1 16 rfl)) (hq (Cond.isRef (.static "java/lang/Throwable" "SUPPRESSED_SENTINEL" "Ljava/util/List;")) (by decide +kernel)) (fun a h1 h2 => Nat.not_le.mpr h1 h2)
  have K := k_L_law G l (st_flags hflags) hh (h := []) (r := ((1 : Int32), h')) hf
  have hl := lv_entry [Value.ref b] (n := 8) (Nat.le_of_ble_eq_true rfl)
  have hs0 : sl ([] : Hp) = 0 := rfl
  rw [lg_entry_eq]
  generalize (lg_sl [Value.ref b] ++ List.replicate (8 - (lg_sl [Value.ref b]).length) Slot.unset).toArray = ls at hl ⊢
  have hR : Rep G [] s.heap := ⟨rfl, fun a e h => by cases h⟩
  have K2 := K.2 p e room_1 s m #[Value.ref b] below meth c [] ⟨⟨hx, hcode, hml, hown, hw⟩, ⟨hlocks, hr, ⟨fun q => (by cases q), htab⟩⟩, ⟨hKn, ⟨st_nm hts, st_nf hts⟩, hXs⟩, ⟨Nat.le_of_ble_eq_true rfl, Nat.le_of_ble_eq_true rfl, by show h'.length - 0 ≤ 901557; omega, by show sl h' - 0 ≤ 6391434; omega⟩, rfl⟩ Le.rf s.heap [] ls hR va_S.rf hl
  intro T hT X
  obtain ⟨t, a1, b1⟩ := K2 T hT X
  exact ⟨t, a1, st_Z rfl (by show h'.length - 0 ≤ 901557; omega) (by show sl h' - 0 ≤ 6391434; omega) b1⟩
