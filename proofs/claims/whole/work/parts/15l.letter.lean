/-! letter -/
section LET
variable {A V : Nat → Nat → Int32} {R : Nat → Nat → Option Nat} {B : Nat → Nat → Int64} {J : List En}
/-- whether an event built a house that is there still -/
def alv (P N : Nat → Nat) (E e : Nat) : Prop := N (P e) ≠ 0 ∧ lst P (P e) E = e
noncomputable def al (P N : Nat → Nat) (E : Nat) : Nat → Nat
  | 0 => 0
  | e + 1 => al P N E e + (@ite Nat (alv P N E e) (Classical.propDecidable _) 1 0)
theorem al_y {P N : Nat → Nat} {E e : Nat} (h : alv P N E e) : al P N E (e + 1) = al P N E e + 1 := by
  show al P N E e + (@ite Nat (alv P N E e) (Classical.propDecidable _) 1 0) = _
  rw [if_pos h]
theorem al_n {P N : Nat → Nat} {E e : Nat} (h : ¬ alv P N E e) : al P N E (e + 1) = al P N E e := by
  show al P N E e + (@ite Nat (alv P N E e) (Classical.propDecidable _) 1 0) = _
  rw [if_neg h]
  rfl
theorem al_mono {P N : Nat → Nat} {E e : Nat} : ∀ k, al P N E e ≤ al P N E (e + k)
  | 0 => Nat.le_refl _
  | k + 1 => by
    have h := al_mono (P := P) (N := N) (E := E) (e := e) k
    by_cases c : alv P N E (e + k)
    · rw [show e + (k + 1) = e + k + 1 by omega, al_y c]; omega
    · rw [show e + (k + 1) = e + k + 1 by omega, al_n c]; exact h
theorem al_inj {P N : Nat → Nat} {E d e : Nat} (hd : alv P N E d) (he : alv P N E e) (h : al P N E d = al P N E e) : d = e := by
  rcases Nat.lt_trichotomy d e with c | c | c
  · have h1 := al_mono (P := P) (N := N) (E := E) (e := d + 1) (e - (d + 1))
    rw [show d + 1 + (e - (d + 1)) = e by omega, al_y hd] at h1
    omega
  · exact c
  · have h1 := al_mono (P := P) (N := N) (E := E) (e := e + 1) (d - (e + 1))
    rw [show e + 1 + (d - (e + 1)) = d by omega, al_y he] at h1
    omega
/-- how many of the first houses were built ahead of x, or at x -/
def ca (P N : Nat → Nat) (E x : Nat) : Nat → Nat
  | 0 => 0
  | q + 1 => ca P N E x q + if N q ≠ 0 ∧ lst P q E < x then 1 else 0
def c1 (P N : Nat → Nat) (E x : Nat) : Nat → Nat
  | 0 => 0
  | q + 1 => c1 P N E x q + if N q ≠ 0 ∧ lst P q E = x then 1 else 0
theorem ca_s {P N : Nat → Nat} {E x : Nat} : ∀ q, ca P N E (x + 1) q = ca P N E x q + c1 P N E x q
  | 0 => rfl
  | q + 1 => by
    have h := ca_s (P := P) (N := N) (E := E) (x := x) q
    show ca P N E (x + 1) q + (if N q ≠ 0 ∧ lst P q E < x + 1 then 1 else 0) = ca P N E x q + (if N q ≠ 0 ∧ lst P q E < x then 1 else 0) + (c1 P N E x q + (if N q ≠ 0 ∧ lst P q E = x then 1 else 0))
    by_cases c : N q ≠ 0
    · by_cases d : lst P q E < x
      · rw [if_pos ⟨c, by omega⟩, if_pos ⟨c, d⟩, if_neg (fun z => by have := z.2; omega)]; omega
      · by_cases d2 : lst P q E = x
        · rw [if_pos ⟨c, by omega⟩, if_neg (fun z => d z.2), if_pos ⟨c, d2⟩]; omega
        · rw [if_neg (fun z => by have := z.2; omega), if_neg (fun z => d z.2), if_neg (fun z => d2 z.2)]; omega
    · rw [if_neg (fun z => c z.1), if_neg (fun z => c z.1), if_neg (fun z => c z.1)]; omega
theorem ca_0 {P N : Nat → Nat} {E : Nat} : ∀ q, ca P N E 0 q = 0
  | 0 => rfl
  | q + 1 => by
    show ca P N E 0 q + (if N q ≠ 0 ∧ lst P q E < 0 then 1 else 0) = 0
    rw [ca_0 q, if_neg (fun z => Nat.not_lt_zero _ z.2)]
theorem ca_le {P N : Nat → Nat} {E x : Nat} : ∀ q, ca P N E x q ≤ q
  | 0 => Nat.le_refl _
  | q + 1 => by
    have h := ca_le (P := P) (N := N) (E := E) (x := x) q
    show ca P N E x q + (if N q ≠ 0 ∧ lst P q E < x then 1 else 0) ≤ q + 1
    split <;> omega
theorem lst_P {P H : Nat → Nat} {p : Nat} : ∀ E, occ P H p E = true → P (lst P p E) = p
  | 0, h => by cases h
  | E + 1, h => by
    show P (if P E = p then E else lst P p E) = p
    by_cases c : P E = p
    · rw [if_pos c]; exact c
    · rw [if_neg c]
      have h' : (if P E = p then decide (H E ≠ 0) else occ P H p E) = true := h
      rw [if_neg c] at h'
      exact lst_P (H := H) E h'
theorem c1_n {P N : Nat → Nat} {E x : Nat} (hP : ∀ q, N q ≠ 0 → q < 12 → P (lst P q E) = q) (h : ¬ alv P N E x) : ∀ m, m ≤ 12 → c1 P N E x m = 0
  | 0, _ => rfl
  | m + 1, hm => by
    show c1 P N E x m + (if N m ≠ 0 ∧ lst P m E = x then 1 else 0) = 0
    rw [c1_n hP h m (by omega), if_neg]
    rintro ⟨h1, h2⟩
    have h3 := hP m h1 (by omega)
    rw [h2] at h3
    exact h ⟨by rw [h3]; exact h1, by rw [h3]; exact h2⟩
theorem c1_y {P N : Nat → Nat} {E x : Nat} (hP : ∀ q, N q ≠ 0 → q < 12 → P (lst P q E) = q) (h : alv P N E x) : ∀ m, m ≤ 12 → c1 P N E x m = if P x < m then 1 else 0
  | 0, _ => by rw [if_neg (Nat.not_lt_zero _)]; rfl
  | m + 1, hm => by
    show c1 P N E x m + (if N m ≠ 0 ∧ lst P m E = x then 1 else 0) = if P x < m + 1 then 1 else 0
    rw [c1_y hP h m (by omega)]
    by_cases c : P x = m
    · have h1 := h.1
      have h2 := h.2
      rw [c] at h1 h2
      rw [if_neg (by omega), if_pos ⟨h1, h2⟩, if_pos (by omega)]
    · rw [if_neg (show ¬ (N m ≠ 0 ∧ lst P m E = x) from fun z => c (by have := hP m z.1 (by omega); rw [z.2] at this; exact this))]
      by_cases d : P x < m
      · rw [if_pos d, if_pos (by omega)]
      · rw [if_neg d, if_neg (by omega)]
theorem ca_al {P N : Nat → Nat} {E : Nat} (hP : ∀ q, N q ≠ 0 → q < 12 → P (lst P q E) = q) (hE : ∀ e, e < E → P e < 12) : ∀ x, x ≤ E → ca P N E x 12 = al P N E x
  | 0, _ => ca_0 12
  | x + 1, hx => by
    rw [ca_s, ca_al hP hE x (by omega)]
    by_cases c : alv P N E x
    · rw [c1_y hP c 12 (Nat.le_refl _), al_y c, if_pos (hE x (by omega))]
    · rw [c1_n hP c 12 (Nat.le_refl _), al_n c]
      rfl
theorem Wf.hP {T : Tn} (w : Wf T) : ∀ q, tN T q ≠ 0 → q < 12 → tP T (lst (tP T) q (tE T)) = q := fun q h hq => lst_P (H := tH T) _ ((w.2.2.2 q hq).1.mp h)
theorem Wf.hb {T : Tn} (w : Wf T) : ∀ q, tN T q ≠ 0 → q < 12 → lst (tP T) q (tE T) < tE T := fun q h hq => lst_lt (H := tH T) _ ((w.2.2.2 q hq).1.mp h)
theorem c_age {t q : Nat} {T : Tn} (ht : isSt t) (w : Wf T) (st : StRep A V R J t T) (hq : q < 12) (hn : tN T q ≠ 0) : f_X8_ageAt (mk A V R B J) t (nN q) = some (nN (tE T - 1 - lst (tP T) q (tE T))) := by
  have hb := w.hb q hn hq
  rw [c_ageAt ht hq (plot_p hq).1, st.1.1, (st.2.2.2.2.1 q hq hn).2, n_pred (by omega), ← show nN (tE T - 1 - lst (tP T) q (tE T)) = nN (tE T - 1) - nN (lst (tP T) q (tE T)) from Int32.ofNat_sub _ _ (by omega)]
theorem c_ahead {t p : Nat} {T : Tn} (ht : isSt t) (w : Wf T) (st : StRep A V R J t T) (hp : p < 12) (hn : tN T p ≠ 0) : f_X8_builtAheadOf (mk A V R B J) t (nN p) = some (nN (ca (tP T) (tN T) (tE T) (lst (tP T) p (tE T)) 12)) := by
  have hE30 := w.2.2.1.1
  have hbp := w.hb p hn hp
  have h : ∃ y, f_X8_builtAheadOf_11 (mk A V R B J) t 10000 (nN (tE T - 1 - lst (tP T) p (tE T))) 0 (nN 0) = some y ∧ y = nN (ca (tP T) (tN T) (tE T) (lst (tP T) p (tE T)) 12) := by
    refine lpF (fun n s i => f_X8_builtAheadOf_11 (mk A V R B J) t n (nN (tE T - 1 - lst (tP T) p (tE T))) s i) (fun i s => s = nN (ca (tP T) (tN T) (tE T) (lst (tP T) p (tE T)) i)) (fun y => y = nN (ca (tP T) (tN T) (tE T) (lst (tP T) p (tE T)) 12)) 12 (i := 0) (s := 0) (by omega) (by omega) rfl ?_ ?_
    · intro n i s hi hs
      have g12 : ¬ (12 : Int32) ≤ nN i := fun q => by rw [ge12 hi] at q; exact q
      refine Or.inr ?_
      have hS : ca (tP T) (tN T) (tE T) (lst (tP T) p (tE T)) (i + 1) = ca (tP T) (tN T) (tE T) (lst (tP T) p (tE T)) i + if tN T i ≠ 0 ∧ lst (tP T) i (tE T) < lst (tP T) p (tE T) then 1 else 0 := rfl
      rw [f_X8_builtAheadOf_11, if_neg g12, rs ht, Option.bind_some, c_hasHouse ht hi (plot_p hi).1, Option.bind_some, st.2.2.2.1 i hi, hS, hs]
      unfold f_X8_builtAheadOf_40
      by_cases d : tN T i = 0
      · rw [d, if_pos (show nN 0 = 0 from rfl), if_pos rfl, if_neg (fun z => z.1 rfl)]
        exact ⟨_, rfl, rfl⟩
      · have hbi := w.hb i d hi
        rw [if_neg (n_ne0 d (by have := w.num i hi; omega)), if_neg (by decide), Option.bind_some, c_age ht w st hi d, Option.bind_some]
        by_cases c : lst (tP T) i (tE T) < lst (tP T) p (tE T)
        · rw [if_neg (le_n (by omega) (by omega)), if_pos ⟨d, c⟩, n_s]
          exact ⟨_, rfl, rfl⟩
        · rw [if_pos (le_y (by omega) (by omega)), if_neg (fun z => c z.2)]
          exact ⟨_, rfl, rfl⟩
    · intro n s hs
      rw [f_X8_builtAheadOf_11, if_pos (show (12 : Int32) ≤ nN 12 from Int32.le_refl _)]
      exact ⟨s, rfl, hs⟩
  obtain ⟨y, e1, e2⟩ := h
  rw [e2] at e1
  unfold f_X8_builtAheadOf
  rw [rs ht, Option.bind_some, c_age ht w st hp hn, Option.bind_some]
  exact e1
/-- the house looked for -/
def ltM (T : Tn) (n q : Nat) : Prop := tN T q ≠ 0 ∧ al (tP T) (tN T) (tE T) (lst (tP T) q (tE T)) + 1 = n
theorem c_letter {n : Nat} {T : Tn} (w : Wf T) (st : StRep A V R J 1 T) (h1 : 1 ≤ n) (hn : n ≤ 12) : ∃ y, f_X10_letter (mk A V R B J) 0 (nN n) = some y ∧ ((∃ q, q < 12 ∧ (ltM T n q ∧ y = nN q)) ∨ ((∀ q, q < 12 → ¬ ltM T n q) ∧ y = -4)) := by
  have h : ∃ y, f_X10_letter_15 (mk A V R B J) 0 10000 (nN n) (nN 0) = some y ∧ ((∃ q, q < 12 ∧ (ltM T n q ∧ y = nN q)) ∨ ((∀ q, q < 12 → ¬ ltM T n q) ∧ y = -4)) := by
    refine lpF (S := Unit) (fun m _ i => f_X10_letter_15 (mk A V R B J) 0 m (nN n) i) (fun i _ => ∀ q, q < i → ¬ ltM T n q) (fun y => (∃ q, q < 12 ∧ (ltM T n q ∧ y = nN q)) ∨ ((∀ q, q < 12 → ¬ ltM T n q) ∧ y = -4)) 12 (i := 0) (s := ()) (by omega) (by omega) (fun q hq => absurd hq (Nat.not_lt_zero q)) ?_ ?_
    · intro m i _ hi hs
      have g12 : ¬ (12 : Int32) ≤ nN i := fun q => by rw [ge12 hi] at q; exact q
      rw [f_X10_letter_15, if_neg g12, go_0, Option.bind_some, rs isT, Option.bind_some, c_hasHouse isT hi (plot_p hi).1, Option.bind_some, st.2.2.2.1 i hi]
      unfold f_X10_letter_48
      by_cases d : tN T i = 0
      · rw [d, if_pos (show nN 0 = 0 from rfl), if_pos rfl]
        refine Or.inr ⟨(), rfl, fun q hq => ?_⟩
        by_cases e : q = i
        · rw [e]; exact fun z => z.1 d
        · exact hs q (by omega)
      · have hbi := w.hb i d hi
        have hca := ca_al w.hP (fun e he => (w.2.2.1.2 e he).1) (lst (tP T) i (tE T)) (by omega)
        have hle := ca_le (P := tP T) (N := tN T) (E := tE T) (x := lst (tP T) i (tE T)) 12
        rw [if_neg (n_ne0 d (by have := w.num i hi; omega)), if_neg (by decide), Option.bind_some, rs isT, Option.bind_some, c_ahead isT w st hi d, Option.bind_some, n_pred h1, hca]
        rw [hca] at hle
        by_cases c : al (tP T) (tN T) (tE T) (lst (tP T) i (tE T)) = n - 1
        · rw [if_pos (by rw [c])]
          exact Or.inl ⟨_, rfl, Or.inl ⟨i, hi, ⟨d, by omega⟩, rfl⟩⟩
        · rw [if_neg (eq_n' c (by omega) (by omega))]
          refine Or.inr ⟨(), rfl, fun q hq => ?_⟩
          by_cases e : q = i
          · rw [e]; exact fun z => c (by have := z.2; omega)
          · exact hs q (by omega)
    · intro m _ hs
      rw [f_X10_letter_15, if_pos (show (12 : Int32) ≤ nN 12 from Int32.le_refl _)]
      exact ⟨-4, rfl, Or.inr ⟨hs, rfl⟩⟩
  unfold f_X10_letter
  rw [if_neg (show ¬ nN n < 1 from lt_n h1 (by omega)), if_pos (show nN n ≤ 12 from le_y hn (by decide))]
  exact h
theorem m_letter {n : Nat} {T : Tn} (w : Wf T) (mo : MoRep A V T) (h1 : 1 ≤ n) (hn : n ≤ 12) : ∃ y, f_X11_letter (mk A V R B J) 45 (nN n) = some (y, mk A (upV V 45 6 0) R B J) ∧ ((∃ q, q < 12 ∧ (ltM T n q ∧ y = nN q)) ∨ ((∀ q, q < 12 → ¬ ltM T n q) ∧ y = -4)) := by
  have hE30 := w.2.2.1.1
  have alt : ∀ q, q < 12 → ltM T n q → alv (tP T) (tN T) (tE T) (lst (tP T) q (tE T)) := fun q hq h => by
    have e := w.hP q h.1 hq
    exact ⟨by rw [e]; exact h.1, by rw [e]⟩
  have h : ∃ r, f_X11_letter_23 45 10000 (mk A (upV V 45 6 0) R B J) (nN n) (nN 0) = some r ∧ (r.2 = mk A (upV V 45 6 0) R B J ∧ ((∃ q, q < 12 ∧ (ltM T n q ∧ r.1 = nN q)) ∨ ((∀ q, q < 12 → ¬ ltM T n q) ∧ r.1 = -4))) := by
    refine lpF (fun m s i => f_X11_letter_23 45 m (mk A (upV V 45 6 0) R B J) s i) (fun i s => s = nN (n - al (tP T) (tN T) (tE T) i) ∧ al (tP T) (tN T) (tE T) i < n) (fun r => r.2 = mk A (upV V 45 6 0) R B J ∧ ((∃ q, q < 12 ∧ (ltM T n q ∧ r.1 = nN q)) ∨ ((∀ q, q < 12 → ¬ ltM T n q) ∧ r.1 = -4))) (tE T) (i := 0) (s := nN n) (by omega) (by omega) ⟨rfl, h1⟩ ?_ ?_
    · rintro m i s hi ⟨hs, hl⟩
      have g30 : i < 30 := by omega
      have hpi := (w.2.2.1.2 i hi).1
      obtain ⟨v5, v6⟩ := mo.2.1 i hi
      have hz := w.num _ hpi
      have hS : ¬ nN (n - al (tP T) (tN T) (tE T) i) - 0 = 0 := by
        rw [Int32.sub_zero]
        exact n_ne0 (by omega) (by omega)
      rw [f_X11_letter_23, gm_2, Option.bind_some, mo.thr.1.2.2, if_neg (le_n hi (by omega)), gm_3, Option.bind_some, am_46, ib30 g30, if_pos rfl, Option.bind_some, c30 g30, v5, gm_5, Option.bind_some, am_48, ib12 hpi, if_pos rfl, Option.bind_some, c12 hpi, mo.2.2 _ hpi, hs]
      unfold f_X11_letter_64 f_X11_letter_65
      have skip : ¬ alv (tP T) (tN T) (tE T) i → nN (n - al (tP T) (tN T) (tE T) i) - 0 = nN (n - al (tP T) (tN T) (tE T) (i + 1)) ∧ al (tP T) (tN T) (tE T) (i + 1) < n := fun hx => by
        rw [Int32.sub_zero, al_n hx]
        exact ⟨rfl, hl⟩
      by_cases d : tN T (tP T i) = 0
      · rw [if_pos (le0_y d), if_neg hS]
        exact Or.inr ⟨_, rfl, skip (fun z => z.1 d)⟩
      · have ho := (w.2.2.2 _ hpi).1.mp d
        rw [if_neg (le0_n d (by omega)), rm, Option.bind_some, m_builtAt (P := tP T) hpi hE30 mo.thr.1.2.2 (fun e he => ⟨(w.2.2.1.2 e he).1, (mo.2.1 e he).1⟩), Option.bind_some, bAt_lst (H := tH T) _ ho]
        have hlt := w.hb _ d hpi
        by_cases c : lst (tP T) (tP T i) (tE T) = i
        · have hv : alv (tP T) (tN T) (tE T) i := ⟨d, c⟩
          rw [if_pos (congrArg nN c), n_pred (by omega)]
          by_cases c2 : al (tP T) (tN T) (tE T) i + 1 = n
          · rw [if_pos (by rw [show n - al (tP T) (tN T) (tE T) i - 1 = 0 by omega]; rfl)]
            exact Or.inl ⟨_, rfl, rfl, Or.inl ⟨tP T i, hpi, ⟨d, by rw [c]; exact c2⟩, rfl⟩⟩
          · rw [if_neg (n_ne0 (by omega) (by omega))]
            exact Or.inr ⟨_, rfl, by rw [al_y hv]; exact congrArg nN (by omega), by rw [al_y hv]; omega⟩
        · rw [if_neg (eq_n' c (by omega) (by omega)), if_neg hS]
          exact Or.inr ⟨_, rfl, skip (fun z => c z.2)⟩
    · rintro m s ⟨hs, hl⟩
      rw [f_X11_letter_23, gm_2, Option.bind_some, mo.thr.1.2.2, if_pos (Int32.le_refl _)]
      refine ⟨_, rfl, rfl, Or.inr ⟨fun q hq hm => ?_, rfl⟩⟩
      have hv := alt q hq hm
      have hb := w.hb q hm.1 hq
      have h2 := hm.2
      have h3 := al_mono (P := tP T) (N := tN T) (E := tE T) (e := lst (tP T) q (tE T) + 1) (tE T - (lst (tP T) q (tE T) + 1))
      rw [show lst (tP T) q (tE T) + 1 + (tE T - (lst (tP T) q (tE T) + 1)) = tE T by omega, al_y hv] at h3
      omega
  obtain ⟨⟨y, g⟩, e1, e2, e3⟩ := h
  have e2 : g = mk A (upV V 45 6 0) R B J := e2
  subst e2
  refine ⟨y, ?_, e3⟩
  have i12 : f_X11_in (mk A (upV V 45 6 0) R B J) (nN n).toInt64 (1 : Int64) (12 : Int64) = some 1 := by
    have e := m_in (h := mk A (upV V 45 6 0) R B J) (x := nN n) (a := 1) (b := 12)
    rw [if_pos ⟨le_y h1 (by omega), le_y hn (by decide)⟩] at e
    exact e
  unfold f_X11_letter
  rw [pm_6, Option.bind_some, i12, Option.bind_some, if_neg (by decide)]
  exact e1
theorem op_8 (x1 : Int32) : Ok1 (fun h => f_X10_letter h 0 x1) (fun h => f_X11_letter h 45 x1) := by
  intro A V R B J h
  have h0 := h
  obtain ⟨⟨T, w, st, mo⟩, -⟩ := h0
  rcases rng x1 1 12 (by decide) (by decide) with ⟨n, h1, hn, rfl⟩ | c
  · obtain ⟨y, e1, e2⟩ := c_letter (B := B) w st h1 hn
    obtain ⟨y', e3, e4⟩ := m_letter (R := R) (B := B) (J := J) w mo h1 hn
    have ey : y = y' := by
      rcases e2 with ⟨q, hq, hm, rfl⟩ | ⟨hx, rfl⟩
      · rcases e4 with ⟨q', hq', hm', rfl⟩ | ⟨hx', -⟩
        · have a1 := w.hP q hm.1 hq
          have a2 := w.hP q' hm'.1 hq'
          have v1 : alv (tP T) (tN T) (tE T) (lst (tP T) q (tE T)) := ⟨by rw [a1]; exact hm.1, by rw [a1]⟩
          have v2 : alv (tP T) (tN T) (tE T) (lst (tP T) q' (tE T)) := ⟨by rw [a2]; exact hm'.1, by rw [a2]⟩
          have e := al_inj v1 v2 (by have := hm.2; have := hm'.2; omega)
          rw [← a1, ← a2, e]
        · exact absurd hm (hx' q hq)
      · rcases e4 with ⟨q', hq', hm', rfl⟩ | ⟨-, e⟩
        · exact absurd hm' (hx q' hq')
        · exact e.symm
    subst ey
    exact ⟨y, A, upV V 45 6 0, R, B, e1, e3, h.thr⟩
  · refine ⟨-1, A, upV V 45 6 0, R, B, ?_, ?_, h.thr⟩
    · show f_X10_letter (mk A V R B J) 0 x1 = _
      unfold f_X10_letter
      by_cases q : x1 < 1
      · rw [if_pos q]
      · rw [if_neg q, if_neg (show ¬ x1 ≤ 12 from fun q2 => c ⟨not_lt' q, q2⟩)]
    · have i12 : f_X11_in (mk A (upV V 45 6 0) R B J) x1.toInt64 (1 : Int64) (12 : Int64) = some 0 := by
        have e := m_in (h := mk A (upV V 45 6 0) R B J) (x := x1) (a := 1) (b := 12)
        rw [if_neg (show ¬ ((1 : Int32) ≤ x1 ∧ x1 ≤ 12) from c)] at e
        exact e
      show f_X11_letter (mk A V R B J) 45 x1 = _
      unfold f_X11_letter
      rw [pm_6, Option.bind_some, i12, Option.bind_some, if_pos rfl]
end LET
