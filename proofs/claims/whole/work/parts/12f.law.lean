/-! The law's loop. -/
abbrev KT4 : Type := Hp → Option Nat → Option Nat → Option Nat → Int32 → Option (Int32 × Hp)
/-- class and model answer alike and go on -/
def Ok2 (fc fm : Hp → Option (Int32 × Hp)) : Prop := ∀ A V R B J, Inv A V R B J → ∃ x A1 V1 R1 B1 J1 A2 V2 R2 B2, fc (mk A V R B J) = some (x, mk A1 V1 R1 B1 (J ++ J1)) ∧ (fm (mk A1 V1 R1 B1 (J ++ J1)) = some (x, mk A2 V2 R2 B2 (J ++ J1)) ∧ (Inv A2 V2 R2 B2 (J ++ J1) ∧ (J1.length ≤ 32 ∧ sl J1 ≤ 64)))
def Ok1 (fc : Hp → Option Int32) (fm : Hp → Option (Int32 × Hp)) : Prop := ∀ A V R B J, Inv A V R B J → ∃ x A2 V2 R2 B2, fc (mk A V R B J) = some x ∧ (fm (mk A V R B J) = some (x, mk A2 V2 R2 B2 J) ∧ Inv A2 V2 R2 B2 J)
def Okk (F : KT4 → KT4) (i : Nat) : Prop := ∀ A V R B J, Inv A V R B J → ∃ A2 V2 R2 B2 J1, Inv A2 V2 R2 B2 (J ++ J1) ∧ (J1.length ≤ 32 ∧ (sl J1 ≤ 64 ∧ ∀ k : KT4, F k (mk A V R B J) (some 0) (some 45) (some 67) (nN i) = k (mk A2 V2 R2 B2 (J ++ J1)) (some 0) (some 45) (some 67) (nN i + 6)))
/-- what the law asks of element: its answer, by the exception that it throws -/
def OkE (fc : Hp → Option (Int32 × Hp)) (fm : Hp → Option (Int64 × Hp)) : Prop := ∀ A V R B J, Inv A V R B J → ∃ x y A1 V1 R1 B1 J1 A2 V2 R2 B2, fc (mk A V R B J) = some (x, mk A1 V1 R1 B1 (J ++ J1)) ∧ (fm (mk A1 V1 R1 B1 (J ++ J1)) = some (y, mk A2 V2 R2 B2 (J ++ J1)) ∧ (Inv A2 V2 R2 B2 (J ++ J1) ∧ ((J1.length ≤ 32 ∧ sl J1 ≤ 64) ∧ (V2 45 6 = x ∧ (x = 0 → B2 67 0 = y)))))
section LW
variable {A V : Nat → Nat → Int32} {R : Nat → Nat → Option Nat} {B : Nat → Nat → Int64} {J : List En}
theorem sI_0 {L i : Nat} {xs : Nat → Int32} (h : i + 6 ≤ L) (hL : L ≤ 3072) : sI L xs (nN i) = some (xs i) := by
  have h1 : (0 : Int32) ≤ Int32.ofNat i := (Int32.ofNat_le_ofNat (k := 0) (by decide) (by omega)).mpr (Nat.zero_le _)
  have h2 : (Int32.ofNat i).toNatClampNeg = i := cn (by omega)
  have h3 : inB (Int32.ofNat i) L = true := ib (by omega) (by omega)
  unfold sI
  rw [h3, if_pos rfl, h2]
theorem sI_j {L i j : Nat} {xs : Nat → Int32} (h : i + 6 ≤ L) (hL : L ≤ 3072) (hj : j < 6) : sI L xs (nN i + nN j) = some (xs (i + j)) := by
  have e : nN i + nN j = nN (i + j) := (Int32.ofNat_add i j).symm
  rw [e]
  have h1 : (0 : Int32) ≤ Int32.ofNat (i + j) := (Int32.ofNat_le_ofNat (k := 0) (by decide) (by omega)).mpr (Nat.zero_le _)
  have h2 : (Int32.ofNat (i + j)).toNatClampNeg = i + j := cn (by omega)
  have h3 : inB (Int32.ofNat (i + j)) L = true := ib (by omega) (by omega)
  unfold sI
  rw [h3, if_pos rfl, h2]
theorem cmp_0 {x y : Int64} : (lg_cmp x y = 0) = (x = y) := by
  unfold lg_cmp
  by_cases h : x = y
  · subst h
    simp [Int64.lt_irrefl]
  · simp only [h, eq_iff_iff, iff_false]
    split
    · decide
    · split
      · first | decide | contradiction
      · first | decide | contradiction
def LwP (a b : Nat) (o : Option (Int32 × Hp)) : Prop := ∃ h' : Hp, o = some ((1 : Int32), h') ∧ (h'.length ≤ a ∧ sl h' ≤ b)
theorem LwP.ite {a b : Nat} {c : Prop} [Decidable c] {x y : Option (Int32 × Hp)} (h1 : LwP a b x) (h2 : LwP a b y) : LwP a b (if c then x else y) := by
  split
  · exact h1
  · exact h2
theorem ib1 : inB (0 : Int32) 1 = true := rfl
theorem z0 : (0 : Int32).toNatClampNeg = 0 := rfl
theorem am_67 {A V : Nat → Nat → Int32} {R : Nat → Nat → Option Nat} {B : Nat → Nat → Int64} {J : List En} {i : Int32} : aL (mk A V R B J) (some 67) i = if inB i 1 = true then some (B 67 i.toNatClampNeg) else none := aL_mk rfl (by decide)
theorem wm_67 {A V : Nat → Nat → Int32} {R : Nat → Nat → Option Nat} {B : Nat → Nat → Int64} {J : List En} {i : Int32} {x : Int64} : wL (mk A V R B J) (some 67) i x = if inB i 1 = true then some (mk A V R (upB B 67 (vp_updL (B 67) i.toNatClampNeg x)) J) else none := wL_mk rfl (by decide)
theorem sl_app {h j : Hp} : sl (h ++ j) = sl h + sl j := by simp [sl]
theorem sl_mk {A V : Nat → Nat → Int32} {R : Nat → Nat → Option Nat} {B : Nat → Nat → Int64} {J : List En} : sl (mk A V R B J) = 2662 + sl J := by
  simp only [sl, mk, List.map_append, List.map_cons, List.map_nil, List.sum_append, List.sum_cons, List.sum_nil, en_sz, List.length_cons, List.length_nil]
  omega
theorem lt_end {L i : Nat} (hL : L ≤ 3072) (h3 : i ≤ L) (h1 : L < i + 6) : Int32.ofNat L - (6 : Int32) < nN i := by
  rw [Int32.lt_iff_toInt_lt, Int32.toInt_sub, Int32.toInt_ofNat_of_lt (by omega), Int32.toInt_ofNat_of_lt (by omega)]
  have e : (6 : Int32).toInt = 6 := rfl
  rw [e, Int.bmod_eq_of_le (by omega) (by omega)]
  omega
theorem ge_end {L i : Nat} (hL : L ≤ 3072) (h : i + 6 ≤ L) : ¬ Int32.ofNat L - (6 : Int32) < nN i := by
  rw [Int32.lt_iff_toInt_lt, Int32.toInt_sub, Int32.toInt_ofNat_of_lt (by omega), Int32.toInt_ofNat_of_lt (by omega)]
  have e : (6 : Int32).toInt = 6 := rfl
  rw [e, Int.bmod_eq_of_le (by omega) (by omega)]
  omega
theorem okk_none {L i : Nat} {xs : Nat → Int32} : Okk (f_L_law_1172 L xs) i := by
  intro A V R B J hI
  exact ⟨A, V, R, B, [], by rw [List.append_nil]; exact hI, Nat.zero_le _, Nat.zero_le _, fun k => by rw [List.append_nil]; rfl⟩
set_option maxRecDepth 10000 in
theorem okk_0 {L i : Nat} {xs : Nat → Int32} (h : i + 6 ≤ L) (hL : L ≤ 3072) (o : ∀ y1 : Int32, Ok2 (fun h => f_X10_street h 0 y1) (fun h => f_X11_street h 45 y1)) : Okk (f_L_law_176 L xs) i := by
  intro A V R B J hI
  have s1 : sI L xs (nN i + (1 : Int32)) = some (xs (i + 1)) := sI_j (j := 1) h hL (by decide)
  obtain ⟨x, A1, V1, R1, B1, J1, A2, V2, R2, B2, e1, e2, hI2, c1, c2⟩ := o (xs (i + 1)) A V R B J hI
  simp only at e1 e2
  refine ⟨A2, V2, R2, B2, J1, hI2, c1, c2, fun k => ?_⟩
  simp only [f_L_law_176, f_L_law_1172, s1, Option.bind_some, ro, rm, e1, e2, if_true]
set_option maxRecDepth 10000 in
theorem okk_1 {L i : Nat} {xs : Nat → Int32} (h : i + 6 ≤ L) (hL : L ≤ 3072) (o : ∀ y1 y2 : Int32, Ok2 (fun h => f_X10_build h 0 y1 y2) (fun h => f_X11_build h 45 y1 y2)) : Okk (f_L_law_201 L xs) i := by
  intro A V R B J hI
  have s1 : sI L xs (nN i + (1 : Int32)) = some (xs (i + 1)) := sI_j (j := 1) h hL (by decide)
  have s2 : sI L xs (nN i + (2 : Int32)) = some (xs (i + 2)) := sI_j (j := 2) h hL (by decide)
  obtain ⟨x, A1, V1, R1, B1, J1, A2, V2, R2, B2, e1, e2, hI2, c1, c2⟩ := o (xs (i + 1)) (xs (i + 2)) A V R B J hI
  simp only at e1 e2
  refine ⟨A2, V2, R2, B2, J1, hI2, c1, c2, fun k => ?_⟩
  simp only [f_L_law_201, f_L_law_1172, s1, s2, Option.bind_some, ro, rm, e1, e2, if_true]
set_option maxRecDepth 10000 in
theorem okk_2 {L i : Nat} {xs : Nat → Int32} (h : i + 6 ≤ L) (hL : L ≤ 3072) (o : ∀ y1 : Int32, Ok2 (fun h => f_X10_burn h 0 y1) (fun h => f_X11_burn h 45 y1)) : Okk (f_L_law_238 L xs) i := by
  intro A V R B J hI
  have s1 : sI L xs (nN i + (1 : Int32)) = some (xs (i + 1)) := sI_j (j := 1) h hL (by decide)
  obtain ⟨x, A1, V1, R1, B1, J1, A2, V2, R2, B2, e1, e2, hI2, c1, c2⟩ := o (xs (i + 1)) A V R B J hI
  simp only at e1 e2
  refine ⟨A2, V2, R2, B2, J1, hI2, c1, c2, fun k => ?_⟩
  simp only [f_L_law_238, f_L_law_1172, s1, Option.bind_some, ro, rm, e1, e2, if_true]
set_option maxRecDepth 10000 in
theorem okk_3 {L i : Nat} {xs : Nat → Int32} (h : i + 6 ≤ L) (hL : L ≤ 3072) (o : ∀ y1 : Int32, Ok2 (fun h => f_X10_enact h 0 y1) (fun h => f_X11_enact h 45 y1)) : Okk (f_L_law_263 L xs) i := by
  intro A V R B J hI
  have s1 : sI L xs (nN i + (1 : Int32)) = some (xs (i + 1)) := sI_j (j := 1) h hL (by decide)
  obtain ⟨x, A1, V1, R1, B1, J1, A2, V2, R2, B2, e1, e2, hI2, c1, c2⟩ := o (xs (i + 1)) A V R B J hI
  simp only at e1 e2
  refine ⟨A2, V2, R2, B2, J1, hI2, c1, c2, fun k => ?_⟩
  simp only [f_L_law_263, f_L_law_1172, s1, Option.bind_some, ro, rm, e1, e2, if_true]
set_option maxRecDepth 10000 in
theorem okk_4 {L i : Nat} {xs : Nat → Int32} (h : i + 6 ≤ L) (hL : L ≤ 3072) (o : ∀ y1 y2 : Int32, Ok1 (fun h => f_X10_house h 0 y1 y2) (fun h => f_X11_house h 45 y1 y2)) : Okk (f_L_law_288 L xs) i := by
  intro A V R B J hI
  have s1 : sI L xs (nN i + (1 : Int32)) = some (xs (i + 1)) := sI_j (j := 1) h hL (by decide)
  have s2 : sI L xs (nN i + (2 : Int32)) = some (xs (i + 2)) := sI_j (j := 2) h hL (by decide)
  obtain ⟨x, A2, V2, R2, B2, e1, e2, hI2⟩ := o (xs (i + 1)) (xs (i + 2)) A V R B J hI
  simp only at e1 e2
  refine ⟨A2, V2, R2, B2, [], by rw [List.append_nil]; exact hI2, Nat.zero_le _, Nat.zero_le _, fun k => ?_⟩
  rw [List.append_nil]
  simp only [f_L_law_288, f_L_law_1172, s1, s2, Option.bind_some, ro, rm, e1, e2, if_true]
set_option maxRecDepth 10000 in
theorem okk_5 {L i : Nat} {xs : Nat → Int32} (h : i + 6 ≤ L) (hL : L ≤ 3072) (o : ∀ y1 : Int32, Ok1 (fun h => f_X10_have h 0 y1) (fun h => f_X11_have h 45 y1)) : Okk (f_L_law_325 L xs) i := by
  intro A V R B J hI
  have s1 : sI L xs (nN i + (1 : Int32)) = some (xs (i + 1)) := sI_j (j := 1) h hL (by decide)
  obtain ⟨x, A2, V2, R2, B2, e1, e2, hI2⟩ := o (xs (i + 1)) A V R B J hI
  simp only at e1 e2
  refine ⟨A2, V2, R2, B2, [], by rw [List.append_nil]; exact hI2, Nat.zero_le _, Nat.zero_le _, fun k => ?_⟩
  rw [List.append_nil]
  simp only [f_L_law_325, f_L_law_1172, s1, Option.bind_some, ro, rm, e1, e2, if_true]
set_option maxRecDepth 10000 in
theorem okk_6 {L i : Nat} {xs : Nat → Int32} (h : i + 6 ≤ L) (hL : L ≤ 3072) (o : ∀ y1 y2 : Int32, Ok1 (fun h => f_X10_would h 0 y1 y2) (fun h => f_X11_would h 45 y1 y2)) : Okk (f_L_law_350 L xs) i := by
  intro A V R B J hI
  have s1 : sI L xs (nN i + (1 : Int32)) = some (xs (i + 1)) := sI_j (j := 1) h hL (by decide)
  have s2 : sI L xs (nN i + (2 : Int32)) = some (xs (i + 2)) := sI_j (j := 2) h hL (by decide)
  obtain ⟨x, A2, V2, R2, B2, e1, e2, hI2⟩ := o (xs (i + 1)) (xs (i + 2)) A V R B J hI
  simp only at e1 e2
  refine ⟨A2, V2, R2, B2, [], by rw [List.append_nil]; exact hI2, Nat.zero_le _, Nat.zero_le _, fun k => ?_⟩
  rw [List.append_nil]
  simp only [f_L_law_350, f_L_law_1172, s1, s2, Option.bind_some, ro, rm, e1, e2, if_true]
set_option maxRecDepth 10000 in
theorem okk_7 {L i : Nat} {xs : Nat → Int32} (h : i + 6 ≤ L) (hL : L ≤ 3072) (o : ∀ y1 y2 : Int32, Ok1 (fun h => f_X10_where h 0 y1 y2) (fun h => f_X11_where h 45 y1 y2)) : Okk (f_L_law_387 L xs) i := by
  intro A V R B J hI
  have s1 : sI L xs (nN i + (1 : Int32)) = some (xs (i + 1)) := sI_j (j := 1) h hL (by decide)
  have s2 : sI L xs (nN i + (2 : Int32)) = some (xs (i + 2)) := sI_j (j := 2) h hL (by decide)
  obtain ⟨x, A2, V2, R2, B2, e1, e2, hI2⟩ := o (xs (i + 1)) (xs (i + 2)) A V R B J hI
  simp only at e1 e2
  refine ⟨A2, V2, R2, B2, [], by rw [List.append_nil]; exact hI2, Nat.zero_le _, Nat.zero_le _, fun k => ?_⟩
  rw [List.append_nil]
  simp only [f_L_law_387, f_L_law_1172, s1, s2, Option.bind_some, ro, rm, e1, e2, if_true]
set_option maxRecDepth 10000 in
theorem okk_8 {L i : Nat} {xs : Nat → Int32} (h : i + 6 ≤ L) (hL : L ≤ 3072) (o : ∀ y1 : Int32, Ok1 (fun h => f_X10_letter h 0 y1) (fun h => f_X11_letter h 45 y1)) : Okk (f_L_law_424 L xs) i := by
  intro A V R B J hI
  have s1 : sI L xs (nN i + (1 : Int32)) = some (xs (i + 1)) := sI_j (j := 1) h hL (by decide)
  obtain ⟨x, A2, V2, R2, B2, e1, e2, hI2⟩ := o (xs (i + 1)) A V R B J hI
  simp only at e1 e2
  refine ⟨A2, V2, R2, B2, [], by rw [List.append_nil]; exact hI2, Nat.zero_le _, Nat.zero_le _, fun k => ?_⟩
  rw [List.append_nil]
  simp only [f_L_law_424, f_L_law_1172, s1, Option.bind_some, ro, rm, e1, e2, if_true]
set_option maxRecDepth 10000 in
theorem okk_9 {L i : Nat} {xs : Nat → Int32} (h : i + 6 ≤ L) (hL : L ≤ 3072) (o : Ok1 (fun h => f_X10_gaps h 0) (fun h => f_X11_gaps h 45)) : Okk (f_L_law_449 L xs) i := by
  intro A V R B J hI
  obtain ⟨x, A2, V2, R2, B2, e1, e2, hI2⟩ := o A V R B J hI
  simp only at e1 e2
  refine ⟨A2, V2, R2, B2, [], by rw [List.append_nil]; exact hI2, Nat.zero_le _, Nat.zero_le _, fun k => ?_⟩
  rw [List.append_nil]
  simp only [f_L_law_449, f_L_law_1172, Option.bind_some, ro, rm, e1, e2, if_true]
set_option maxRecDepth 10000 in
theorem okk_10 {L i : Nat} {xs : Nat → Int32} (h : i + 6 ≤ L) (hL : L ≤ 3072) (o : ∀ y1 y2 : Int32, Ok1 (fun h => f_X10_walk h 0 y1 y2) (fun h => f_X11_walk h 45 y1 y2)) : Okk (f_L_law_462 L xs) i := by
  intro A V R B J hI
  have s1 : sI L xs (nN i + (1 : Int32)) = some (xs (i + 1)) := sI_j (j := 1) h hL (by decide)
  have s2 : sI L xs (nN i + (2 : Int32)) = some (xs (i + 2)) := sI_j (j := 2) h hL (by decide)
  obtain ⟨x, A2, V2, R2, B2, e1, e2, hI2⟩ := o (xs (i + 1)) (xs (i + 2)) A V R B J hI
  simp only at e1 e2
  refine ⟨A2, V2, R2, B2, [], by rw [List.append_nil]; exact hI2, Nat.zero_le _, Nat.zero_le _, fun k => ?_⟩
  rw [List.append_nil]
  simp only [f_L_law_462, f_L_law_1172, s1, s2, Option.bind_some, ro, rm, e1, e2, if_true]
set_option maxRecDepth 10000 in
theorem okk_11 {L i : Nat} {xs : Nat → Int32} (h : i + 6 ≤ L) (hL : L ≤ 3072) (o : ∀ y1 y2 : Int32, Ok1 (fun h => f_X10_search h 0 y1 y2) (fun h => f_X11_search h 45 y1 y2)) : Okk (f_L_law_499 L xs) i := by
  intro A V R B J hI
  have s1 : sI L xs (nN i + (1 : Int32)) = some (xs (i + 1)) := sI_j (j := 1) h hL (by decide)
  have s2 : sI L xs (nN i + (2 : Int32)) = some (xs (i + 2)) := sI_j (j := 2) h hL (by decide)
  obtain ⟨x, A2, V2, R2, B2, e1, e2, hI2⟩ := o (xs (i + 1)) (xs (i + 2)) A V R B J hI
  simp only at e1 e2
  refine ⟨A2, V2, R2, B2, [], by rw [List.append_nil]; exact hI2, Nat.zero_le _, Nat.zero_le _, fun k => ?_⟩
  rw [List.append_nil]
  simp only [f_L_law_499, f_L_law_1172, s1, s2, Option.bind_some, ro, rm, e1, e2, if_true]
set_option maxRecDepth 10000 in
theorem okk_12 {L i : Nat} {xs : Nat → Int32} (h : i + 6 ≤ L) (hL : L ≤ 3072) (o : Ok2 (fun h => f_X10_rise h 0) (fun h => f_X11_rise h 45)) : Okk (f_L_law_536 L xs) i := by
  intro A V R B J hI
  obtain ⟨x, A1, V1, R1, B1, J1, A2, V2, R2, B2, e1, e2, hI2, c1, c2⟩ := o A V R B J hI
  simp only at e1 e2
  refine ⟨A2, V2, R2, B2, J1, hI2, c1, c2, fun k => ?_⟩
  simp only [f_L_law_536, f_L_law_1172, Option.bind_some, ro, rm, e1, e2, if_true]
set_option maxRecDepth 10000 in
theorem okk_13 {L i : Nat} {xs : Nat → Int32} (h : i + 6 ≤ L) (hL : L ≤ 3072) (o : Ok1 (fun h => f_X10_falls h 0) (fun h => f_X11_falls h 45)) : Okk (f_L_law_549 L xs) i := by
  intro A V R B J hI
  obtain ⟨x, A2, V2, R2, B2, e1, e2, hI2⟩ := o A V R B J hI
  simp only at e1 e2
  refine ⟨A2, V2, R2, B2, [], by rw [List.append_nil]; exact hI2, Nat.zero_le _, Nat.zero_le _, fun k => ?_⟩
  rw [List.append_nil]
  simp only [f_L_law_549, f_L_law_1172, Option.bind_some, ro, rm, e1, e2, if_true]
set_option maxRecDepth 10000 in
theorem okk_14 {L i : Nat} {xs : Nat → Int32} (h : i + 6 ≤ L) (hL : L ≤ 3072) (o : ∀ y1 y2 y3 : Int32, Ok2 (fun h => f_X10_byLaw h 0 y1 y2 y3) (fun h => f_X11_byLaw h 45 y1 y2 y3)) : Okk (f_L_law_562 L xs) i := by
  intro A V R B J hI
  have s1 : sI L xs (nN i + (1 : Int32)) = some (xs (i + 1)) := sI_j (j := 1) h hL (by decide)
  have s2 : sI L xs (nN i + (2 : Int32)) = some (xs (i + 2)) := sI_j (j := 2) h hL (by decide)
  have s3 : sI L xs (nN i + (3 : Int32)) = some (xs (i + 3)) := sI_j (j := 3) h hL (by decide)
  obtain ⟨x, A1, V1, R1, B1, J1, A2, V2, R2, B2, e1, e2, hI2, c1, c2⟩ := o (xs (i + 1)) (xs (i + 2)) (xs (i + 3)) A V R B J hI
  simp only at e1 e2
  refine ⟨A2, V2, R2, B2, J1, hI2, c1, c2, fun k => ?_⟩
  simp only [f_L_law_562, f_L_law_1172, s1, s2, s3, Option.bind_some, ro, rm, e1, e2, if_true]
set_option maxRecDepth 10000 in
theorem okk_15 {L i : Nat} {xs : Nat → Int32} (h : i + 6 ≤ L) (hL : L ≤ 3072) (o : ∀ y1 : Int32, Ok2 (fun h => f_X10_laws h 0 y1) (fun h => f_X11_laws h 45 y1)) : Okk (f_L_law_611 L xs) i := by
  intro A V R B J hI
  have s1 : sI L xs (nN i + (1 : Int32)) = some (xs (i + 1)) := sI_j (j := 1) h hL (by decide)
  obtain ⟨x, A1, V1, R1, B1, J1, A2, V2, R2, B2, e1, e2, hI2, c1, c2⟩ := o (xs (i + 1)) A V R B J hI
  simp only at e1 e2
  refine ⟨A2, V2, R2, B2, J1, hI2, c1, c2, fun k => ?_⟩
  simp only [f_L_law_611, f_L_law_1172, s1, Option.bind_some, ro, rm, e1, e2, if_true]
set_option maxRecDepth 10000 in
theorem okk_16 {L i : Nat} {xs : Nat → Int32} (h : i + 6 ≤ L) (hL : L ≤ 3072) (o : ∀ y1 : Int32, Ok2 (fun h => f_X10_orders h 0 y1) (fun h => f_X11_orders h 45 y1)) : Okk (f_L_law_636 L xs) i := by
  intro A V R B J hI
  have s1 : sI L xs (nN i + (1 : Int32)) = some (xs (i + 1)) := sI_j (j := 1) h hL (by decide)
  obtain ⟨x, A1, V1, R1, B1, J1, A2, V2, R2, B2, e1, e2, hI2, c1, c2⟩ := o (xs (i + 1)) A V R B J hI
  simp only at e1 e2
  refine ⟨A2, V2, R2, B2, J1, hI2, c1, c2, fun k => ?_⟩
  simp only [f_L_law_636, f_L_law_1172, s1, Option.bind_some, ro, rm, e1, e2, if_true]
set_option maxRecDepth 10000 in
theorem okk_17 {L i : Nat} {xs : Nat → Int32} (h : i + 6 ≤ L) (hL : L ≤ 3072) (o : ∀ y1 y2 : Int32, Ok1 (fun h => f_X10_joined h 0 y1 y2) (fun h => f_X11_joined h 45 y1 y2)) : Okk (f_L_law_661 L xs) i := by
  intro A V R B J hI
  have s1 : sI L xs (nN i + (1 : Int32)) = some (xs (i + 1)) := sI_j (j := 1) h hL (by decide)
  have s2 : sI L xs (nN i + (2 : Int32)) = some (xs (i + 2)) := sI_j (j := 2) h hL (by decide)
  obtain ⟨x, A2, V2, R2, B2, e1, e2, hI2⟩ := o (xs (i + 1)) (xs (i + 2)) A V R B J hI
  simp only at e1 e2
  refine ⟨A2, V2, R2, B2, [], by rw [List.append_nil]; exact hI2, Nat.zero_le _, Nat.zero_le _, fun k => ?_⟩
  rw [List.append_nil]
  simp only [f_L_law_661, f_L_law_1172, s1, s2, Option.bind_some, ro, rm, e1, e2, if_true]
set_option maxRecDepth 10000 in
theorem okk_18 {L i : Nat} {xs : Nat → Int32} (h : i + 6 ≤ L) (hL : L ≤ 3072) (o : ∀ y1 y2 y3 : Int32, Ok2 (fun h => f_X10_seeded h 0 y1 y2 y3) (fun h => f_X11_seeded h 45 y1 y2 y3)) : Okk (f_L_law_698 L xs) i := by
  intro A V R B J hI
  have s1 : sI L xs (nN i + (1 : Int32)) = some (xs (i + 1)) := sI_j (j := 1) h hL (by decide)
  have s2 : sI L xs (nN i + (2 : Int32)) = some (xs (i + 2)) := sI_j (j := 2) h hL (by decide)
  have s3 : sI L xs (nN i + (3 : Int32)) = some (xs (i + 3)) := sI_j (j := 3) h hL (by decide)
  obtain ⟨x, A1, V1, R1, B1, J1, A2, V2, R2, B2, e1, e2, hI2, c1, c2⟩ := o (xs (i + 1)) (xs (i + 2)) (xs (i + 3)) A V R B J hI
  simp only at e1 e2
  refine ⟨A2, V2, R2, B2, J1, hI2, c1, c2, fun k => ?_⟩
  simp only [f_L_law_698, f_L_law_1172, s1, s2, s3, Option.bind_some, ro, rm, e1, e2, if_true]
set_option maxRecDepth 10000 in
theorem okk_19 {L i : Nat} {xs : Nat → Int32} (h : i + 6 ≤ L) (hL : L ≤ 3072) (o : ∀ y1 : Int32, Ok1 (fun h => f_X10_judge h 0 y1) (fun h => f_X11_judge h 45 y1)) : Okk (f_L_law_747 L xs) i := by
  intro A V R B J hI
  have s1 : sI L xs (nN i + (1 : Int32)) = some (xs (i + 1)) := sI_j (j := 1) h hL (by decide)
  obtain ⟨x, A2, V2, R2, B2, e1, e2, hI2⟩ := o (xs (i + 1)) A V R B J hI
  simp only at e1 e2
  refine ⟨A2, V2, R2, B2, [], by rw [List.append_nil]; exact hI2, Nat.zero_le _, Nat.zero_le _, fun k => ?_⟩
  rw [List.append_nil]
  simp only [f_L_law_747, f_L_law_1172, s1, Option.bind_some, ro, rm, e1, e2, if_true]
set_option maxRecDepth 10000 in
theorem okk_20 {L i : Nat} {xs : Nat → Int32} (h : i + 6 ≤ L) (hL : L ≤ 3072) (o : Ok2 (fun h => f_X10_image h 0) (fun h => f_X11_image h 45)) : Okk (f_L_law_772 L xs) i := by
  intro A V R B J hI
  obtain ⟨x, A1, V1, R1, B1, J1, A2, V2, R2, B2, e1, e2, hI2, c1, c2⟩ := o A V R B J hI
  simp only at e1 e2
  refine ⟨A2, V2, R2, B2, J1, hI2, c1, c2, fun k => ?_⟩
  simp only [f_L_law_772, f_L_law_1172, Option.bind_some, ro, rm, e1, e2, if_true]
set_option maxRecDepth 10000 in
theorem okk_21 {L i : Nat} {xs : Nat → Int32} (h : i + 6 ≤ L) (hL : L ≤ 3072) (o : Ok2 (fun h => f_X10_restore h 0) (fun h => f_X11_restore h 45)) : Okk (f_L_law_785 L xs) i := by
  intro A V R B J hI
  obtain ⟨x, A1, V1, R1, B1, J1, A2, V2, R2, B2, e1, e2, hI2, c1, c2⟩ := o A V R B J hI
  simp only at e1 e2
  refine ⟨A2, V2, R2, B2, J1, hI2, c1, c2, fun k => ?_⟩
  simp only [f_L_law_785, f_L_law_1172, Option.bind_some, ro, rm, e1, e2, if_true]
set_option maxRecDepth 10000 in
theorem okk_22 {L i : Nat} {xs : Nat → Int32} (h : i + 6 ≤ L) (hL : L ≤ 3072) (o : ∀ y1 : Int32, Ok1 (fun h => f_X10_count h 0 y1) (fun h => f_X11_count h 45 y1)) : Okk (f_L_law_798 L xs) i := by
  intro A V R B J hI
  have s1 : sI L xs (nN i + (1 : Int32)) = some (xs (i + 1)) := sI_j (j := 1) h hL (by decide)
  obtain ⟨x, A2, V2, R2, B2, e1, e2, hI2⟩ := o (xs (i + 1)) A V R B J hI
  simp only at e1 e2
  refine ⟨A2, V2, R2, B2, [], by rw [List.append_nil]; exact hI2, Nat.zero_le _, Nat.zero_le _, fun k => ?_⟩
  rw [List.append_nil]
  simp only [f_L_law_798, f_L_law_1172, s1, Option.bind_some, ro, rm, e1, e2, if_true]
set_option maxRecDepth 10000 in
theorem okk_23 {L i : Nat} {xs : Nat → Int32} (h : i + 6 ≤ L) (hL : L ≤ 3072) (o : ∀ y1 y2 y3 y4 : Int32, Ok2 (fun h => f_X10_keep h 0 y1 y2 y3 y4) (fun h => f_X11_keep h 45 y1 y2 y3 y4)) : Okk (f_L_law_823 L xs) i := by
  intro A V R B J hI
  have s1 : sI L xs (nN i + (1 : Int32)) = some (xs (i + 1)) := sI_j (j := 1) h hL (by decide)
  have s2 : sI L xs (nN i + (2 : Int32)) = some (xs (i + 2)) := sI_j (j := 2) h hL (by decide)
  have s3 : sI L xs (nN i + (3 : Int32)) = some (xs (i + 3)) := sI_j (j := 3) h hL (by decide)
  have s4 : sI L xs (nN i + (4 : Int32)) = some (xs (i + 4)) := sI_j (j := 4) h hL (by decide)
  obtain ⟨x, A1, V1, R1, B1, J1, A2, V2, R2, B2, e1, e2, hI2, c1, c2⟩ := o (xs (i + 1)) (xs (i + 2)) (xs (i + 3)) (xs (i + 4)) A V R B J hI
  simp only at e1 e2
  refine ⟨A2, V2, R2, B2, J1, hI2, c1, c2, fun k => ?_⟩
  simp only [f_L_law_823, f_L_law_1172, s1, s2, s3, s4, Option.bind_some, ro, rm, e1, e2, if_true]
set_option maxRecDepth 10000 in
theorem okk_24 {L i : Nat} {xs : Nat → Int32} (h : i + 6 ≤ L) (hL : L ≤ 3072) (o : ∀ y1 y2 y3 : Int32, Ok2 (fun h => f_X10_row h 0 y1 y2 y3) (fun h => f_X11_row h 45 y1 y2 y3)) : Okk (f_L_law_884 L xs) i := by
  intro A V R B J hI
  have s1 : sI L xs (nN i + (1 : Int32)) = some (xs (i + 1)) := sI_j (j := 1) h hL (by decide)
  have s2 : sI L xs (nN i + (2 : Int32)) = some (xs (i + 2)) := sI_j (j := 2) h hL (by decide)
  have s3 : sI L xs (nN i + (3 : Int32)) = some (xs (i + 3)) := sI_j (j := 3) h hL (by decide)
  obtain ⟨x, A1, V1, R1, B1, J1, A2, V2, R2, B2, e1, e2, hI2, c1, c2⟩ := o (xs (i + 1)) (xs (i + 2)) (xs (i + 3)) A V R B J hI
  simp only at e1 e2
  refine ⟨A2, V2, R2, B2, J1, hI2, c1, c2, fun k => ?_⟩
  simp only [f_L_law_884, f_L_law_1172, s1, s2, s3, Option.bind_some, ro, rm, e1, e2, if_true]
set_option maxRecDepth 10000 in
theorem okk_25 {L i : Nat} {xs : Nat → Int32} (h : i + 6 ≤ L) (hL : L ≤ 3072) (o : ∀ y1 y2 y3 : Int32, Ok2 (fun h => f_X10_put h 0 y1 y2 y3) (fun h => f_X11_put h 45 y1 y2 y3)) : Okk (f_L_law_933 L xs) i := by
  intro A V R B J hI
  have s1 : sI L xs (nN i + (1 : Int32)) = some (xs (i + 1)) := sI_j (j := 1) h hL (by decide)
  have s2 : sI L xs (nN i + (2 : Int32)) = some (xs (i + 2)) := sI_j (j := 2) h hL (by decide)
  have s3 : sI L xs (nN i + (3 : Int32)) = some (xs (i + 3)) := sI_j (j := 3) h hL (by decide)
  obtain ⟨x, A1, V1, R1, B1, J1, A2, V2, R2, B2, e1, e2, hI2, c1, c2⟩ := o (xs (i + 1)) (xs (i + 2)) (xs (i + 3)) A V R B J hI
  simp only at e1 e2
  refine ⟨A2, V2, R2, B2, J1, hI2, c1, c2, fun k => ?_⟩
  simp only [f_L_law_933, f_L_law_1172, s1, s2, s3, Option.bind_some, ro, rm, e1, e2, if_true]
set_option maxRecDepth 10000 in
theorem okk_26 {L i : Nat} {xs : Nat → Int32} (h : i + 6 ≤ L) (hL : L ≤ 3072) (o : ∀ y1 y2 : Int32, OkE (fun h => f_L_element h (some 0) y1 y2 (some 67)) (fun h => f_X11_element h 45 y1 y2)) : Okk (f_L_law_982 L xs) i := by
  intro A V R B J hI
  have s1 : sI L xs (nN i + (1 : Int32)) = some (xs (i + 1)) := sI_j (j := 1) h hL (by decide)
  have s2 : sI L xs (nN i + (2 : Int32)) = some (xs (i + 2)) := sI_j (j := 2) h hL (by decide)
  obtain ⟨x, y, A1, V1, R1, B1, J1, A2, V2, R2, B2, e1, e2, hI2, ⟨c1, c2⟩, c3, c4⟩ := o (xs (i + 1)) (xs (i + 2)) A V R B J hI
  simp only at e1 e2
  refine ⟨A2, V2, R2, B2, J1, hI2, c1, c2, fun k => ?_⟩
  simp only [f_L_law_982, f_L_law_1172, f_L_law_1046, s1, s2, Option.bind_some, ro, rm, e1, e2, f_X11_thrown, gm_6, c3, if_true, am_67, ib1, cmp_0]
  by_cases q : x = 0
  · have c5 := c4 q
    simp only [q, if_true, c5, z0]
  · simp only [q, if_false]
set_option maxRecDepth 10000 in
theorem okk_27 {L i : Nat} {xs : Nat → Int32} (h : i + 6 ≤ L) (hL : L ≤ 3072) (o : ∀ y1 y2 y3 y4 y5 : Int32, Ok2 (fun h => f_X10_copy h 0 y1 y2 y3 y4 y5) (fun h => f_X11_copy h 45 y1 y2 y3 y4 y5)) : Okk (f_L_law_1049 L xs) i := by
  intro A V R B J hI
  have s1 : sI L xs (nN i + (1 : Int32)) = some (xs (i + 1)) := sI_j (j := 1) h hL (by decide)
  have s2 : sI L xs (nN i + (2 : Int32)) = some (xs (i + 2)) := sI_j (j := 2) h hL (by decide)
  have s3 : sI L xs (nN i + (3 : Int32)) = some (xs (i + 3)) := sI_j (j := 3) h hL (by decide)
  have s4 : sI L xs (nN i + (4 : Int32)) = some (xs (i + 4)) := sI_j (j := 4) h hL (by decide)
  have s5 : sI L xs (nN i + (5 : Int32)) = some (xs (i + 5)) := sI_j (j := 5) h hL (by decide)
  obtain ⟨x, A1, V1, R1, B1, J1, A2, V2, R2, B2, e1, e2, hI2, c1, c2⟩ := o (xs (i + 1)) (xs (i + 2)) (xs (i + 3)) (xs (i + 4)) (xs (i + 5)) A V R B J hI
  simp only at e1 e2
  refine ⟨A2, V2, R2, B2, J1, hI2, c1, c2, fun k => ?_⟩
  simp only [f_L_law_1049, f_L_law_1172, s1, s2, s3, s4, s5, Option.bind_some, ro, rm, e1, e2, if_true]
set_option maxRecDepth 10000 in
theorem okk_28 {L i : Nat} {xs : Nat → Int32} (h : i + 6 ≤ L) (hL : L ≤ 3072) (o : ∀ y1 : Int32, Ok1 (fun h => f_X10_tax h 0 y1) (fun h => f_X11_tax h 45 y1)) : Okk (f_L_law_1122 L xs) i := by
  intro A V R B J hI
  have s1 : sI L xs (nN i + (1 : Int32)) = some (xs (i + 1)) := sI_j (j := 1) h hL (by decide)
  obtain ⟨x, A2, V2, R2, B2, e1, e2, hI2⟩ := o (xs (i + 1)) A V R B J hI
  simp only at e1 e2
  refine ⟨A2, V2, R2, B2, [], by rw [List.append_nil]; exact hI2, Nat.zero_le _, Nat.zero_le _, fun k => ?_⟩
  rw [List.append_nil]
  simp only [f_L_law_1122, f_L_law_1172, s1, Option.bind_some, ro, rm, e1, e2, if_true]
set_option maxRecDepth 10000 in
theorem okk_29 {L i : Nat} {xs : Nat → Int32} (h : i + 6 ≤ L) (hL : L ≤ 3072) (o : ∀ y1 : Int32, Ok2 (fun h => f_X10_toss h 0 y1) (fun h => f_X11_toss h 45 y1)) : Okk (f_L_law_1147 L xs) i := by
  intro A V R B J hI
  have s1 : sI L xs (nN i + (1 : Int32)) = some (xs (i + 1)) := sI_j (j := 1) h hL (by decide)
  obtain ⟨x, A1, V1, R1, B1, J1, A2, V2, R2, B2, e1, e2, hI2, c1, c2⟩ := o (xs (i + 1)) A V R B J hI
  simp only at e1 e2
  refine ⟨A2, V2, R2, B2, J1, hI2, c1, c2, fun k => ?_⟩
  simp only [f_L_law_1147, f_L_law_1172, s1, Option.bind_some, ro, rm, e1, e2, if_true]
set_option maxRecDepth 10000 in
theorem law_loop {L : Nat} {xs : Nat → Int32} (hL : L ≤ 3072) (ops_o0 : ∀ y1 : Int32, Ok2 (fun h => f_X10_street h 0 y1) (fun h => f_X11_street h 45 y1)) (ops_o1 : ∀ y1 y2 : Int32, Ok2 (fun h => f_X10_build h 0 y1 y2) (fun h => f_X11_build h 45 y1 y2)) (ops_o2 : ∀ y1 : Int32, Ok2 (fun h => f_X10_burn h 0 y1) (fun h => f_X11_burn h 45 y1)) (ops_o3 : ∀ y1 : Int32, Ok2 (fun h => f_X10_enact h 0 y1) (fun h => f_X11_enact h 45 y1)) (ops_o4 : ∀ y1 y2 : Int32, Ok1 (fun h => f_X10_house h 0 y1 y2) (fun h => f_X11_house h 45 y1 y2)) (ops_o5 : ∀ y1 : Int32, Ok1 (fun h => f_X10_have h 0 y1) (fun h => f_X11_have h 45 y1)) (ops_o6 : ∀ y1 y2 : Int32, Ok1 (fun h => f_X10_would h 0 y1 y2) (fun h => f_X11_would h 45 y1 y2)) (ops_o7 : ∀ y1 y2 : Int32, Ok1 (fun h => f_X10_where h 0 y1 y2) (fun h => f_X11_where h 45 y1 y2)) (ops_o8 : ∀ y1 : Int32, Ok1 (fun h => f_X10_letter h 0 y1) (fun h => f_X11_letter h 45 y1)) (ops_o9 : Ok1 (fun h => f_X10_gaps h 0) (fun h => f_X11_gaps h 45)) (ops_o10 : ∀ y1 y2 : Int32, Ok1 (fun h => f_X10_walk h 0 y1 y2) (fun h => f_X11_walk h 45 y1 y2)) (ops_o11 : ∀ y1 y2 : Int32, Ok1 (fun h => f_X10_search h 0 y1 y2) (fun h => f_X11_search h 45 y1 y2)) (ops_o12 : Ok2 (fun h => f_X10_rise h 0) (fun h => f_X11_rise h 45)) (ops_o13 : Ok1 (fun h => f_X10_falls h 0) (fun h => f_X11_falls h 45)) (ops_o14 : ∀ y1 y2 y3 : Int32, Ok2 (fun h => f_X10_byLaw h 0 y1 y2 y3) (fun h => f_X11_byLaw h 45 y1 y2 y3)) (ops_o15 : ∀ y1 : Int32, Ok2 (fun h => f_X10_laws h 0 y1) (fun h => f_X11_laws h 45 y1)) (ops_o16 : ∀ y1 : Int32, Ok2 (fun h => f_X10_orders h 0 y1) (fun h => f_X11_orders h 45 y1)) (ops_o17 : ∀ y1 y2 : Int32, Ok1 (fun h => f_X10_joined h 0 y1 y2) (fun h => f_X11_joined h 45 y1 y2)) (ops_o18 : ∀ y1 y2 y3 : Int32, Ok2 (fun h => f_X10_seeded h 0 y1 y2 y3) (fun h => f_X11_seeded h 45 y1 y2 y3)) (ops_o19 : ∀ y1 : Int32, Ok1 (fun h => f_X10_judge h 0 y1) (fun h => f_X11_judge h 45 y1)) (ops_o20 : Ok2 (fun h => f_X10_image h 0) (fun h => f_X11_image h 45)) (ops_o21 : Ok2 (fun h => f_X10_restore h 0) (fun h => f_X11_restore h 45)) (ops_o22 : ∀ y1 : Int32, Ok1 (fun h => f_X10_count h 0 y1) (fun h => f_X11_count h 45 y1)) (ops_o23 : ∀ y1 y2 y3 y4 : Int32, Ok2 (fun h => f_X10_keep h 0 y1 y2 y3 y4) (fun h => f_X11_keep h 45 y1 y2 y3 y4)) (ops_o24 : ∀ y1 y2 y3 : Int32, Ok2 (fun h => f_X10_row h 0 y1 y2 y3) (fun h => f_X11_row h 45 y1 y2 y3)) (ops_o25 : ∀ y1 y2 y3 : Int32, Ok2 (fun h => f_X10_put h 0 y1 y2 y3) (fun h => f_X11_put h 45 y1 y2 y3)) (ops_o26 : ∀ y1 y2 : Int32, OkE (fun h => f_L_element h (some 0) y1 y2 (some 67)) (fun h => f_X11_element h 45 y1 y2)) (ops_o27 : ∀ y1 y2 y3 y4 y5 : Int32, Ok2 (fun h => f_X10_copy h 0 y1 y2 y3 y4 y5) (fun h => f_X11_copy h 45 y1 y2 y3 y4 y5)) (ops_o28 : ∀ y1 : Int32, Ok1 (fun h => f_X10_tax h 0 y1) (fun h => f_X11_tax h 45 y1)) (ops_o29 : ∀ y1 : Int32, Ok2 (fun h => f_X10_toss h 0 y1) (fun h => f_X11_toss h 45 y1)) : ∀ (m n i : Nat) (A V : Nat → Nat → Int32) (R : Nat → Nat → Option Nat) (B : Nat → Nat → Int64) (J : List En), L < i + 6 * m + 6 → m < n → i ≤ L → Inv A V R B J → LwP (68 + J.length + 32 * m) (sl (mk A V R B J) + 64 * m) (f_L_law_23 L xs n (mk A V R B J) (some 0) (some 45) (some 67) (nN i)) := by
  intro m
  induction m with
  | zero =>
    intro n i A V R B J h1 h2 h3 hI
    obtain ⟨n, rfl⟩ : ∃ n', n = n' + 1 := ⟨n - 1, by omega⟩
    have e : (Int32.ofNat L - (6 : Int32) < nN i) = True := eq_true (lt_end hL h3 h1)
    refine ⟨mk A V R B J, ?_, by rw [mk_len]; omega, by omega⟩
    rw [f_L_law_23, if_pos (lt_end hL h3 h1)]
    rfl
  | succ m ih =>
    intro n i A V R B J h1 h2 h3 hI
    obtain ⟨n, rfl⟩ : ∃ n', n = n' + 1 := ⟨n - 1, by omega⟩
    by_cases hx : L < i + 6
    · have e : (Int32.ofNat L - (6 : Int32) < nN i) = True := eq_true (lt_end hL h3 (by omega))
      refine ⟨mk A V R B J, ?_, by rw [mk_len]; omega, by omega⟩
      rw [f_L_law_23, if_pos (lt_end hL h3 (by omega))]
      rfl
    · have h : i + 6 ≤ L := by omega
      have e : (Int32.ofNat L - (6 : Int32) < nN i) = False := eq_false (ge_end hL h)
      have s0 : sI L xs (nN i) = some (xs i) := sI_0 h hL
      have go : ∀ F : KT4 → KT4, Okk F i → LwP (68 + J.length + 32 * (m + 1)) (sl (mk A V R B J) + 64 * (m + 1)) (F (f_L_law_23 L xs n) (mk A V R B J) (some 0) (some 45) (some 67) (nN i)) := by
        intro F hF
        obtain ⟨A2, V2, R2, B2, J1, hI2, c1, c2, hk⟩ := hF A V R B J hI
        have e6 : nN i + 6 = nN (i + 6) := (Int32.ofNat_add i 6).symm
        obtain ⟨h', g1, g2, g3⟩ := ih n (i + 6) A2 V2 R2 B2 (J ++ J1) (by omega) (by omega) (by omega) hI2
        refine ⟨h', ?_, ?_, ?_⟩
        · rw [hk, e6]
          exact g1
        · rw [List.length_append] at g2
          omega
        · rw [sl_mk, sl_app] at g3
          rw [sl_mk]
          omega
      rw [f_L_law_23, if_neg (ge_end hL h), s0, Option.bind_some]
      refine LwP.ite (go (f_L_law_176 L xs) (okk_0 h hL ops_o0)) ?_
      refine LwP.ite (go (f_L_law_201 L xs) (okk_1 h hL ops_o1)) ?_
      refine LwP.ite (go (f_L_law_238 L xs) (okk_2 h hL ops_o2)) ?_
      refine LwP.ite (go (f_L_law_263 L xs) (okk_3 h hL ops_o3)) ?_
      refine LwP.ite (go (f_L_law_288 L xs) (okk_4 h hL ops_o4)) ?_
      refine LwP.ite (go (f_L_law_325 L xs) (okk_5 h hL ops_o5)) ?_
      refine LwP.ite (go (f_L_law_350 L xs) (okk_6 h hL ops_o6)) ?_
      refine LwP.ite (go (f_L_law_387 L xs) (okk_7 h hL ops_o7)) ?_
      refine LwP.ite (go (f_L_law_424 L xs) (okk_8 h hL ops_o8)) ?_
      refine LwP.ite (go (f_L_law_449 L xs) (okk_9 h hL ops_o9)) ?_
      refine LwP.ite (go (f_L_law_462 L xs) (okk_10 h hL ops_o10)) ?_
      refine LwP.ite (go (f_L_law_499 L xs) (okk_11 h hL ops_o11)) ?_
      refine LwP.ite (go (f_L_law_536 L xs) (okk_12 h hL ops_o12)) ?_
      refine LwP.ite (go (f_L_law_549 L xs) (okk_13 h hL ops_o13)) ?_
      refine LwP.ite (go (f_L_law_562 L xs) (okk_14 h hL ops_o14)) ?_
      refine LwP.ite (go (f_L_law_611 L xs) (okk_15 h hL ops_o15)) ?_
      refine LwP.ite (go (f_L_law_636 L xs) (okk_16 h hL ops_o16)) ?_
      refine LwP.ite (go (f_L_law_661 L xs) (okk_17 h hL ops_o17)) ?_
      refine LwP.ite (go (f_L_law_698 L xs) (okk_18 h hL ops_o18)) ?_
      refine LwP.ite (go (f_L_law_747 L xs) (okk_19 h hL ops_o19)) ?_
      refine LwP.ite (go (f_L_law_772 L xs) (okk_20 h hL ops_o20)) ?_
      refine LwP.ite (go (f_L_law_785 L xs) (okk_21 h hL ops_o21)) ?_
      refine LwP.ite (go (f_L_law_798 L xs) (okk_22 h hL ops_o22)) ?_
      refine LwP.ite (go (f_L_law_823 L xs) (okk_23 h hL ops_o23)) ?_
      refine LwP.ite (go (f_L_law_884 L xs) (okk_24 h hL ops_o24)) ?_
      refine LwP.ite (go (f_L_law_933 L xs) (okk_25 h hL ops_o25)) ?_
      refine LwP.ite (go (f_L_law_982 L xs) (okk_26 h hL ops_o26)) ?_
      refine LwP.ite (go (f_L_law_1049 L xs) (okk_27 h hL ops_o27)) ?_
      refine LwP.ite (go (f_L_law_1122 L xs) (okk_28 h hL ops_o28)) ?_
      refine LwP.ite (go (f_L_law_1147 L xs) (okk_29 h hL ops_o29)) ?_
      exact go (f_L_law_1172 L xs) (okk_none)
end LW
theorem pure_of (ops_o0 : ∀ y1 : Int32, Ok2 (fun h => f_X10_street h 0 y1) (fun h => f_X11_street h 45 y1)) (ops_o1 : ∀ y1 y2 : Int32, Ok2 (fun h => f_X10_build h 0 y1 y2) (fun h => f_X11_build h 45 y1 y2)) (ops_o2 : ∀ y1 : Int32, Ok2 (fun h => f_X10_burn h 0 y1) (fun h => f_X11_burn h 45 y1)) (ops_o3 : ∀ y1 : Int32, Ok2 (fun h => f_X10_enact h 0 y1) (fun h => f_X11_enact h 45 y1)) (ops_o4 : ∀ y1 y2 : Int32, Ok1 (fun h => f_X10_house h 0 y1 y2) (fun h => f_X11_house h 45 y1 y2)) (ops_o5 : ∀ y1 : Int32, Ok1 (fun h => f_X10_have h 0 y1) (fun h => f_X11_have h 45 y1)) (ops_o6 : ∀ y1 y2 : Int32, Ok1 (fun h => f_X10_would h 0 y1 y2) (fun h => f_X11_would h 45 y1 y2)) (ops_o7 : ∀ y1 y2 : Int32, Ok1 (fun h => f_X10_where h 0 y1 y2) (fun h => f_X11_where h 45 y1 y2)) (ops_o8 : ∀ y1 : Int32, Ok1 (fun h => f_X10_letter h 0 y1) (fun h => f_X11_letter h 45 y1)) (ops_o9 : Ok1 (fun h => f_X10_gaps h 0) (fun h => f_X11_gaps h 45)) (ops_o10 : ∀ y1 y2 : Int32, Ok1 (fun h => f_X10_walk h 0 y1 y2) (fun h => f_X11_walk h 45 y1 y2)) (ops_o11 : ∀ y1 y2 : Int32, Ok1 (fun h => f_X10_search h 0 y1 y2) (fun h => f_X11_search h 45 y1 y2)) (ops_o12 : Ok2 (fun h => f_X10_rise h 0) (fun h => f_X11_rise h 45)) (ops_o13 : Ok1 (fun h => f_X10_falls h 0) (fun h => f_X11_falls h 45)) (ops_o14 : ∀ y1 y2 y3 : Int32, Ok2 (fun h => f_X10_byLaw h 0 y1 y2 y3) (fun h => f_X11_byLaw h 45 y1 y2 y3)) (ops_o15 : ∀ y1 : Int32, Ok2 (fun h => f_X10_laws h 0 y1) (fun h => f_X11_laws h 45 y1)) (ops_o16 : ∀ y1 : Int32, Ok2 (fun h => f_X10_orders h 0 y1) (fun h => f_X11_orders h 45 y1)) (ops_o17 : ∀ y1 y2 : Int32, Ok1 (fun h => f_X10_joined h 0 y1 y2) (fun h => f_X11_joined h 45 y1 y2)) (ops_o18 : ∀ y1 y2 y3 : Int32, Ok2 (fun h => f_X10_seeded h 0 y1 y2 y3) (fun h => f_X11_seeded h 45 y1 y2 y3)) (ops_o19 : ∀ y1 : Int32, Ok1 (fun h => f_X10_judge h 0 y1) (fun h => f_X11_judge h 45 y1)) (ops_o20 : Ok2 (fun h => f_X10_image h 0) (fun h => f_X11_image h 45)) (ops_o21 : Ok2 (fun h => f_X10_restore h 0) (fun h => f_X11_restore h 45)) (ops_o22 : ∀ y1 : Int32, Ok1 (fun h => f_X10_count h 0 y1) (fun h => f_X11_count h 45 y1)) (ops_o23 : ∀ y1 y2 y3 y4 : Int32, Ok2 (fun h => f_X10_keep h 0 y1 y2 y3 y4) (fun h => f_X11_keep h 45 y1 y2 y3 y4)) (ops_o24 : ∀ y1 y2 y3 : Int32, Ok2 (fun h => f_X10_row h 0 y1 y2 y3) (fun h => f_X11_row h 45 y1 y2 y3)) (ops_o25 : ∀ y1 y2 y3 : Int32, Ok2 (fun h => f_X10_put h 0 y1 y2 y3) (fun h => f_X11_put h 45 y1 y2 y3)) (ops_o26 : ∀ y1 y2 : Int32, OkE (fun h => f_L_element h (some 0) y1 y2 (some 67)) (fun h => f_X11_element h 45 y1 y2)) (ops_o27 : ∀ y1 y2 y3 y4 y5 : Int32, Ok2 (fun h => f_X10_copy h 0 y1 y2 y3 y4 y5) (fun h => f_X11_copy h 45 y1 y2 y3 y4 y5)) (ops_o28 : ∀ y1 : Int32, Ok1 (fun h => f_X10_tax h 0 y1) (fun h => f_X11_tax h 45 y1)) (ops_o29 : ∀ y1 : Int32, Ok2 (fun h => f_X10_toss h 0 y1) (fun h => f_X11_toss h 45 y1)) (hI : Inv A0 V0 R0 B0 []) : PURE := by
  intro L xs hL
  obtain ⟨h', e1, e2, e3⟩ := law_loop (xs := xs) hL ops_o0 ops_o1 ops_o2 ops_o3 ops_o4 ops_o5 ops_o6 ops_o7 ops_o8 ops_o9 ops_o10 ops_o11 ops_o12 ops_o13 ops_o14 ops_o15 ops_o16 ops_o17 ops_o18 ops_o19 ops_o20 ops_o21 ops_o22 ops_o23 ops_o24 ops_o25 ops_o26 ops_o27 ops_o28 ops_o29 512 10000 0 A0 V0 R0 B0 [] (by omega) (by omega) (Nat.zero_le _) hI
  refine ⟨h', (law_init L xs).trans e1, ?_, ?_⟩
  · rw [List.length_nil] at e2
    omega
  · rw [sl_mk] at e3
    have e : sl ([] : Hp) = 0 := rfl
    omega
