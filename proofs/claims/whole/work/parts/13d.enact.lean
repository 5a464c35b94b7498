/-! enact, keep. -/
section OPS4
variable {A V A' V' : Nat → Nat → Int32} {R R' : Nat → Nat → Option Nat} {B B' : Nat → Nat → Int64} {J : List En}
theorem uV_ne {a k b j : Nat} {x : Int32} (h : ¬ (b = a ∧ j = k)) : upV V a k x b j = V b j := if_neg h
theorem uV_eq {a k : Nat} {x : Int32} : upV V a k x a k = x := if_pos ⟨rfl, rfl⟩
theorem uR_ne {a k b j : Nat} {x : Option Nat} (h : ¬ (b = a ∧ j = k)) : upR R a k x b j = R b j := if_neg h
theorem uR_eq {a k : Nat} {x : Option Nat} : upR R a k x a k = x := if_pos ⟨rfl, rfl⟩
theorem uA_ne {a b : Nat} {f : Nat → Int32} (h : b ≠ a) : upA A a f b = A b := if_neg h
theorem uA_eq {a : Nat} {f : Nat → Int32} : upA A a f a = f := if_pos rfl
theorem uB_ne {a b : Nat} {f : Nat → Int64} (h : b ≠ a) : upB B a f b = B b := if_neg h
theorem uB_eq {a : Nat} {f : Nat → Int64} : upB B a f a = f := if_pos rfl
theorem op_3 (x : Int32) : Ok2 (fun h => f_X10_enact h 0 x) (fun h => f_X11_enact h 45 x) := by
  intro A V R B J h
  have fin : Inv A (upV V 45 6 0) R B (J ++ []) := h.frm [] (Frm.v (Or.inr ⟨rfl, by decide⟩))
  rcases c_shelf x with ⟨d, hd, rfl, hc⟩ | ⟨hc, hn⟩
  · have ht := isSh_d hd
    have cd : (Int32.ofNat d).toNatClampNeg = d := cn (by omega)
    have id8 : inB (Int32.ofNat d) 8 = true := ib hd (by decide)
    rcases h.2.2 d hd with ⟨s1, s2, s3⟩ | ⟨k, f, s1, s2, s3, s4, s5⟩ | ⟨s, n, s0, s1, s2, s3, s4, s5, -⟩
    · refine ⟨-11, A, V, R, B, [], A, upV V 45 6 0, R, B, ?_, ?_, fin, Nat.zero_le _, Nat.zero_le _⟩
      · rw [List.append_nil]
        simp only [f_X10_enact, ro, Option.bind_some, hc, reduceCtorEq, if_false, gh_0 ht, s1, if_true, rh ht, c_refLaw ht, s2, and_self]
      · simp only [f_X11_enact, pm_6, Option.bind_some, rm, m_wrongLaw hd, s3, if_true]
        rfl
    · have h0 := h
      obtain ⟨⟨T, w, st, mo⟩, -⟩ := h0
      obtain ⟨a, ha, -⟩ := law_at (A := A) (V := V) (R := R) (B := B) s1
      obtain ⟨b, hb, -, hb1, -⟩ := law_at (A := A) (V := V) (R := R) (B := B) st.2.2.2.2.2
      refine ⟨nN (tK T), A, V, upR R 1 9 (R (29 + 2 * d) 0), B, [], A, upV (upV (upV V 45 6 0) 45 0 (A 61 d)) 45 1 (A 62 d), upR R 1 9 (R (29 + 2 * d) 0), B, ?_, ?_, ?_, Nat.zero_le _, Nat.zero_le _⟩
      · rw [List.append_nil]
        have hne : ¬ R (29 + 2 * d) 0 = none := by rw [ha]; exact Option.some_ne_none a
        simp only [f_X10_enact, ro, Option.bind_some, hc, reduceCtorEq, if_false, gh_0 ht, hne, go_0, gs_9 isT, hb1, ps_9 isT]
      · simp only [f_X11_enact, pm_6, Option.bind_some, rm, m_wrongLaw hd, s3, one_ne, if_true, if_false, Int32.le_refl, gm_0, gm_29, am_61, id8, cd, pm_0, gm_30, am_62, pm_1]
        rw [uV_ne (by decide), mo.1.1]
      · refine Inv.town [] h ⟨fun _ _ _ _ => rfl, fun a k h1 h2 h3 => ?_, fun a k h1 h2 => ?_, rfl⟩ (k, f, tE T, tP T, tH T, tN T) ⟨s1.1, s1.2.1, w.2.2.1, w.2.2.2⟩ ?_ ?_
        · rw [uV_ne (by omega), uV_ne (by omega), uV_ne (fun q => h1 (Or.inr ⟨q.1, by rw [q.2]; decide⟩))]
        · rw [uR_ne (by omega)]
        · obtain ⟨⟨a1, a2⟩, a3, a4, a5, a6, a7⟩ := st
          refine ⟨⟨?_, ?_⟩, a3, a4, a5, a6, ?_⟩
          · rw [uV_ne (by decide), uV_ne (by decide), uV_ne (by decide)]; exact a1
          · rw [uV_ne (by decide), uV_ne (by decide), uV_ne (by decide)]; exact a2
          · rw [uR_eq]; exact s1.app
        · refine ⟨⟨?_, ?_, ?_⟩, mo.2⟩
          · rw [uV_ne (by decide), uV_eq]; exact s4
          · rw [uV_eq]; exact s5
          · rw [uV_ne (by decide), uV_ne (by decide), uV_ne (by decide)]; exact mo.1.2.2
    · refine ⟨-12, A, V, R, B, [], A, upV V 45 6 0, R, B, ?_, ?_, fin, Nat.zero_le _, Nat.zero_le _⟩
      · have e : ¬ V (29 + 2 * d) 1 = -1 := by
          rw [s3]
          match s, s0 with
          | 0, _ | 1, _ | 2, _ => decide
        rw [List.append_nil]
        simp only [f_X10_enact, ro, Option.bind_some, hc, reduceCtorEq, if_false, gh_0 ht, s2, if_true, rh ht, c_refLaw ht, e, and_false]
      · simp only [f_X11_enact, pm_6, Option.bind_some, rm, m_wrongLaw hd, s5]
        rfl
  · refine ⟨-1, A, V, R, B, [], A, upV V 45 6 0, R, B, ?_, ?_, fin, Nat.zero_le _, Nat.zero_le _⟩
    · rw [List.append_nil]
      simp only [f_X10_enact, ro, Option.bind_some, hc, if_true]
    · simp only [f_X11_enact, pm_6, Option.bind_some, rm, m_wrongLawN hn]
      rfl
/-! a new law -/
theorem pF_last {h : Hp} {c k : Nat} {fs cs : List _} {v : Vv} (h1 : c ∈ cs) (h2 : k < fs.length) : pF (h ++ [eO c fs]) (some h.length) cs k v = some (h ++ [eO c (fs.set k v)]) := by
  have e : hO (h ++ [eO c fs]) (some h.length) = some (h.length, c, fs) := by
    unfold hO
    dsimp only
    rw [List.getElem?_append_right (Nat.le_refl _), Nat.sub_self]
    rfl
  unfold pF
  rw [e]
  dsimp only
  rw [if_pos ⟨h1, h2⟩, List.set_append_right _ _ (Nat.le_refl _), Nat.sub_self]
  rfl
theorem ini3 {h : Hp} {c : Nat} {x y : Int32} (hc : c ∈ lws) : f_X3_init (h ++ [eO c [vI 0, vI 0]]) h.length x y = some (h ++ [eO c [vI x, vI y]]) := by
  unfold f_X3_init
  rw [pF_last hc (Nat.le_of_ble_eq_true rfl), Option.bind_some]
  show (pF (h ++ [eO c [vI x, vI 0]]) (some h.length) lws 1 (vI y)).bind _ = _
  rw [pF_last hc (Nat.le_of_ble_eq_true rfl), Option.bind_some]
  rfl
theorem c_lawOf (x y : Int32) : (∃ k f, k ≤ 7 ∧ (f ≤ 9 ∧ (x = nN k ∧ (y = nN f ∧ ∀ A V R B J, f_X10_lawOf (mk A V R B J) x y = some (some (68 + J.length), mk A V R B (J ++ [eO (lcl k) [vI (nN k), vI (nN f)]]))))))
    ∨ ((∀ A V R B J, f_X10_lawOf (mk A V R B J) x y = some (none, mk A V R B J)) ∧ ¬ (((0 : Int32) ≤ x ∧ x ≤ 7) ∧ ((0 : Int32) ≤ y ∧ y ≤ 9))) := by
  by_cases c1 : y < 0
  · refine Or.inr ⟨fun A V R B J => by simp only [f_X10_lawOf, if_pos c1], fun q => ?_⟩
    have h1 := Int32.lt_iff_toInt_lt.mp c1
    have h2 := Int32.le_iff_toInt_le.mp q.2.1
    omega
  · by_cases c2 : y ≤ 9
    · obtain ⟨f, rfl, hf⟩ := nat_of (not_lt' c1)
      have hf9 := (Int32.ofNat_le_ofNat (n := 9) hf (by decide)).mp c2
      by_cases c3 : (0 : Int32) ≤ x ∧ x ≤ 7
      · obtain ⟨k, rfl, hk⟩ := nat_of c3.1
        have hk7 := (Int32.ofNat_le_ofNat (n := 7) hk (by decide)).mp c3.2
        refine Or.inl ⟨k, f, hk7, hf9, rfl, rfl, fun A V R B J => ?_⟩
        have hl : (mk A V R B J).length = 68 + J.length := mk_len
        have hp : ∀ e : En, mk A V R B J ++ [e] = mk A V R B (J ++ [e]) := fun e => mk_push
        have g : ∀ c : Nat, c ∈ lws → f_X3_init (mk A V R B J ++ [eO c [vI 0, vI 0]]) (mk A V R B J).length (nN k) (nN f) = some (mk A V R B (J ++ [eO c [vI (nN k), vI (nN f)]])) := fun c hc => (ini3 hc).trans (by rw [hp])
        unfold f_X10_lawOf
        rw [if_neg c1, if_pos c2]
        match k, hk7 with
        | 0, _ => rw [if_pos (by rfl), g 3 (by decide), Option.bind_some, hl]; rfl
        | 1, _ => rw [if_neg (by decide), if_pos (by rfl)]; unfold f_X0_init; rw [g 0 (by decide), Option.bind_some, Option.bind_some, hl]; rfl
        | 2, _ => rw [if_neg (by decide), if_neg (by decide), if_pos (by rfl)]; unfold f_X4_init; rw [g 4 (by decide), Option.bind_some, Option.bind_some, hl]; rfl
        | 3, _ => rw [if_neg (by decide), if_neg (by decide), if_neg (by decide), if_pos (by rfl)]; unfold f_X1_init; rw [g 1 (by decide), Option.bind_some, Option.bind_some, hl]; rfl
        | 4, _ => rw [if_neg (by decide), if_neg (by decide), if_neg (by decide), if_neg (by decide), if_pos (by rfl)]; unfold f_X9_init; rw [g 9 (by decide), Option.bind_some, Option.bind_some, hl]; rfl
        | 5, _ => rw [if_neg (by decide), if_neg (by decide), if_neg (by decide), if_neg (by decide), if_neg (by decide), if_pos (by rfl)]; unfold f_X7_init; rw [g 7 (by decide), Option.bind_some, Option.bind_some, hl]; rfl
        | 6, _ => rw [if_neg (by decide), if_neg (by decide), if_neg (by decide), if_neg (by decide), if_neg (by decide), if_neg (by decide), if_pos (by rfl)]; unfold f_X2_init f_X0_init; rw [g 2 (by decide), Option.bind_some, Option.bind_some, Option.bind_some, hl]; rfl
        | 7, _ => rw [if_neg (by decide), if_neg (by decide), if_neg (by decide), if_neg (by decide), if_neg (by decide), if_neg (by decide), if_neg (by decide), if_pos (by rfl)]; unfold f_X6_init f_X4_init; rw [g 6 (by decide), Option.bind_some, Option.bind_some, Option.bind_some, hl]; rfl
      · refine Or.inr ⟨fun A V R B J => ?_, fun q => c3 q.1⟩
        unfold f_X10_lawOf
        rw [if_neg c1, if_pos c2, if_neg (fun q => c3 (by rw [q]; decide)), if_neg (fun q => c3 (by rw [q]; decide)), if_neg (fun q => c3 (by rw [q]; decide)), if_neg (fun q => c3 (by rw [q]; decide)), if_neg (fun q => c3 (by rw [q]; decide)), if_neg (fun q => c3 (by rw [q]; decide)), if_neg (fun q => c3 (by rw [q]; decide)), if_neg (fun q => c3 (by rw [q]; decide))]
    · refine Or.inr ⟨fun A V R B J => by simp only [f_X10_lawOf, if_neg c1, if_neg c2], fun q => c2 q.2.2⟩
theorem law_new {k f : Nat} (hk : k ≤ 7) (hf : f ≤ 9) : LawAt (J ++ [eO (lcl k) [vI (nN k), vI (nN f)]]) (some (68 + J.length)) k f :=
  ⟨hk, hf, Or.inr ⟨J.length, rfl, by rw [List.getElem?_append_right (Nat.le_refl _), Nat.sub_self]; rfl⟩⟩
end OPS4
