/-! walk, search -/
section WLK
variable {A V : Nat → Nat → Int32} {R : Nat → Nat → Option Nat} {B : Nat → Nat → Int64} {J : List En}
theorem m_wrongSort {d s0 : Nat} (hd : d < 8) : f_X11_wrongSort (mk A V R B J) 45 (nN d) (nN s0) = some (if A 60 d = 0 then -11 else if A 60 d = 2 then (if A 63 d = nN s0 then 0 else -12) else -12) := by
  have cd : (nN d).toNatClampNeg = d := cn (by omega)
  have id8 : inB (nN d) 8 = true := ib hd (by decide)
  unfold f_X11_wrongSort
  rw [rm, Option.bind_some, m_wrongRow hd, Option.bind_some]
  by_cases c0 : A 60 d = 0
  · rw [if_pos c0, if_pos c0, if_neg (by decide), Option.bind_some, m_wrongRow hd, Option.bind_some, if_pos c0]
  · rw [if_neg c0, if_neg c0]
    by_cases c2 : A 60 d = 2
    · rw [if_pos c2, if_pos c2, if_pos (by decide), gm_31, Option.bind_some, am_63, id8, if_pos rfl, Option.bind_some, cd]
      by_cases c3 : A 63 d = nN s0
      · rw [if_pos c3, if_pos c3]
      · rw [if_neg c3, if_neg c3]
    · rw [if_neg c2, if_neg c2, if_neg (by decide), Option.bind_some, m_wrongRow hd, Option.bind_some, if_neg c0, if_neg c2]
theorem m_wrongSortN {x y : Int32} (hx : ¬ ((0 : Int32) ≤ x ∧ x ≤ 7)) : f_X11_wrongSort (mk A V R B J) 45 x y = some (-1) := by
  unfold f_X11_wrongSort
  rw [rm, Option.bind_some, m_wrongRowN hx, Option.bind_some, if_neg (by decide), Option.bind_some, m_wrongRowN hx, Option.bind_some]
theorem c_refOf {t s0 : Nat} (ht : isSh t) : f_X5_refusalAsRowOf (mk A V R B J) t (nN s0) = some (if R t 0 = none ∧ V t 1 = -1 then -11 else if V t 1 = nN s0 then 0 else -12) := by
  unfold f_X5_refusalAsRowOf
  rw [rh ht, Option.bind_some, c_nothing ht, Option.bind_some]
  by_cases c : R t 0 = none ∧ V t 1 = -1
  · rw [if_pos c, if_pos c, if_neg (by decide)]
  · rw [if_neg c, if_neg c, if_pos rfl, gh_1 ht, Option.bind_some]
    by_cases c2 : V t 1 = nN s0
    · rw [if_pos c2, if_pos c2]
    · rw [if_neg c2, if_neg c2]
/-- a shelf read as a row of a sort: both refuse, or both hold it -/
theorem sh_sort {d s0 : Nat} (hd : d < 8) (hs : s0 ≤ 2) (sh : ShRep A V R B J d) : (∃ r : Int32, (r = -11 ∨ r = -12) ∧ (f_X5_refusalAsRowOf (mk A V R B J) (29 + 2 * d) (nN s0) = some r ∧ ∀ V2 R2 B2 J2, f_X11_wrongSort (mk A V2 R2 B2 J2) 45 (nN d) (nN s0) = some r))
    ∨ ∃ n, n ≤ 100 ∧ (V (29 + 2 * d) 2 = nN n ∧ (A 64 d = nN n ∧ ((∀ i, i < n → inSort s0 (A (30 + 2 * d) i) ∧ B 65 (100 * d + i) = (A (30 + 2 * d) i).toInt64) ∧ (f_X5_refusalAsRowOf (mk A V R B J) (29 + 2 * d) (nN s0) = some 0 ∧ ∀ V2 R2 B2 J2, f_X11_wrongSort (mk A V2 R2 B2 J2) 45 (nN d) (nN s0) = some 0)))) := by
  have ht := isSh_d hd
  have nm : ∀ s, s ≤ 2 → ¬ nN s = -1 := by
    intro s h
    match s, h with
    | 0, _ | 1, _ | 2, _ => decide
  rcases sh with ⟨s1, s2, s3⟩ | ⟨k, f, s1, s2, s3, s4, s5⟩ | ⟨s, n, g0, s1, s2, s3, s4, s5, s6, s7, s8⟩
  · refine Or.inl ⟨-11, Or.inl rfl, ?_, fun V2 R2 B2 J2 => ?_⟩
    · rw [c_refOf ht, if_pos ⟨s1, s2⟩]
    · rw [m_wrongSort hd, if_pos s3]
  · obtain ⟨a, ha, -⟩ := law_at (A := A) (V := V) (R := R) (B := B) s1
    refine Or.inl ⟨-12, Or.inr rfl, ?_, fun V2 R2 B2 J2 => ?_⟩
    · rw [c_refOf ht, if_neg (fun z => by rw [ha] at z; exact absurd z.1 (by simp)), s2, if_neg (fun z => nm s0 hs z.symm)]
    · rw [m_wrongSort hd, s3, if_neg (by decide), if_neg (by decide)]
  · by_cases e : s = s0
    · subst e
      refine Or.inr ⟨n, s1, s4, s7, s8, ?_, fun V2 R2 B2 J2 => ?_⟩
      · rw [c_refOf ht, if_neg (fun z => nm s hs (s3.symm.trans z.2)), if_pos s3]
      · rw [m_wrongSort hd, s5, if_neg (by decide), if_pos rfl, if_pos s6]
    · refine Or.inl ⟨-12, Or.inr rfl, ?_, fun V2 R2 B2 J2 => ?_⟩
      · rw [c_refOf ht, if_neg (fun z => nm s g0 (s3.symm.trans z.2)), s3, if_neg (eq_n' e (by omega) (by omega))]
      · rw [m_wrongSort hd, s5, if_neg (by decide), if_pos rfl, s6, if_neg (eq_n' e (by omega) (by omega))]
/-- the length of a way from p over lo and hi -/
def wy (p lo hi : Nat) : Nat := hi - lo + min (p - lo) (hi - p)
noncomputable def wS (N : Nat → Nat) (v : Nat → Int32) (n p lo : Nat) : Nat → Nat → Nat := fun hi s => @ite Nat (wy p lo hi < s ∧ AM N v n lo hi) (Classical.propDecidable _) (wy p lo hi) s
noncomputable def wI' (N : Nat → Nat) (v : Nat → Int32) (n p : Nat) : Nat → Nat → Nat := fun lo s => itr (wS N v n p lo) p (12 - p) s
/-- 24: none yet -/
def e24 (s : Nat) : Int32 := if s = 24 then -4 else nN s
theorem wS_y {N : Nat → Nat} {v : Nat → Int32} {n p lo hi s : Nat} (h1 : wy p lo hi < s) (h2 : AM N v n lo hi) : wS N v n p lo hi s = wy p lo hi := by
  unfold wS
  rw [if_pos ⟨h1, h2⟩]
theorem wS_n {N : Nat → Nat} {v : Nat → Int32} {n p lo hi s : Nat} (h : ¬ (wy p lo hi < s ∧ AM N v n lo hi)) : wS N v n p lo hi s = s := by
  unfold wS
  rw [if_neg h]
theorem wS_le {N : Nat → Nat} {v : Nat → Int32} {n p lo hi s : Nat} : wS N v n p lo hi s ≤ s := by
  by_cases h : wy p lo hi < s ∧ AM N v n lo hi
  · rw [wS_y h.1 h.2]; omega
  · rw [wS_n h]; omega
theorem wy_lt {p lo hi : Nat} (hp : p < 12) (h1 : lo ≤ p) (h3 : hi < 12) : wy p lo hi < 24 := by
  unfold wy
  omega
theorem mn_n {a b : Nat} (ha : a < 2147483648) (hb : b < 2147483648) : mnI (nN a) (nN b) = nN (min a b) := by
  unfold mnI
  by_cases c : b < a
  · rw [if_pos (lt_y c ha), Nat.min_eq_right (by omega)]
  · rw [if_neg (lt_n (by omega) hb), Nat.min_eq_left (by omega)]
theorem n_sub {a b : Nat} (h : b ≤ a) : nN a - nN b = nN (a - b) := (Int32.ofNat_sub a b h).symm
theorem c_wy {p lo hi : Nat} (h1 : lo ≤ p) (h2 : p ≤ hi) (h3 : hi < 12) : (nN hi - nN lo) + mnI (nN p - nN lo) (nN hi - nN p) = nN (wy p lo hi) := by
  rw [n_sub (by omega), n_sub h1, n_sub h2, mn_n (by omega) (by omega), n_add]
  rfl
theorem itr_P {S : Type} {f : Nat → S → S} (Pr : S → Prop) (h : ∀ i s, Pr s → Pr (f i s)) : ∀ k i s, Pr s → Pr (itr f i k s) := by
  intro k
  induction k with
  | zero => intro i s hs; exact hs
  | succ k ih => intro i s hs; exact ih (i + 1) _ (h i s hs)
theorem c_way {N : Nat → Nat} {v : Nat → Int32} {d n p : Nat} (hd : d < 8) (hn : n ≤ 100) (s4 : V (29 + 2 * d) 2 = nN n) (hv : ∀ i, i < n → A (29 + 2 * d + 1) i = v i) (hp : p < 12) (hN : ∀ p, p < 12 → N p < 1000 ∧ A (1 + 1) p = nN (N p)) : f_X10_leastWay (mk A V R B J) 0 (some (29 + 2 * d)) (nN p) = some (nN (itr (wI' N v n p) 0 (p + 1) 24)) := by
  have inner : ∀ (k6 : (Option Nat) → Int32 → Int32 → Int32 → Option Int32) (lo s : Nat), lo ≤ p → s ≤ 24 → f_X10_leastWay_15 (mk A V R B J) 0 k6 10000 (some (29 + 2 * d)) (nN p) (nN s) (nN lo) (nN p) = k6 (some (29 + 2 * d)) (nN p) (nN (wI' N v n p lo s)) (nN lo + 1) := by
    intro k6 lo s hlo hs
    refine lpE (fun m (s : Nat) i => f_X10_leastWay_15 (mk A V R B J) 0 k6 m (some (29 + 2 * d)) (nN p) (nN s) (nN lo) i) (fun i s' => p ≤ i ∧ (s' ≤ 24 ∧ s' = itr (wS N v n p lo) p (i - p) s)) (fun o => o = k6 (some (29 + 2 * d)) (nN p) (nN (wI' N v n p lo s)) (nN lo + 1)) 12 (i := p) (s := s) (by omega) (by omega) ⟨Nat.le_refl _, hs, by rw [Nat.sub_self]; rfl⟩ ?_ ?_
    · rintro m i s' hi ⟨hpi, h24, hs'⟩
      refine Or.inr ?_
      have g12 : ¬ (12 : Int32) ≤ nN i := fun q => by rw [ge12 hi] at q; exact q
      have hw := wy_lt (hi := i) hp hlo hi
      rw [f_X10_leastWay_15, if_neg g12, c_wy hlo hpi hi]
      unfold f_X10_leastWay_65
      have step : itr (wS N v n p lo) p (i + 1 - p) s = wS N v n p lo i s' := by
        rw [show i + 1 - p = i - p + 1 by omega, itr_s, show p + (i - p) = i by omega, ← hs']
      refine ⟨wS N v n p lo i s', ?_, by omega, Nat.le_trans wS_le h24, step.symm⟩
      by_cases c : wy p lo i < s'
      · rw [if_neg (le_n c (by omega))]
        unfold f_X10_plotsBetween
        show (f_X10_comesByAll (mk A V R B J) 0 (some (29 + 2 * d)) (pb lo i)).bind _ = _
        rw [c_comes hd hn s4 hv (by omega) hi hN, Option.bind_some]
        by_cases c2 : AM N v n lo i
        · rw [bz_y c2, if_neg (by decide), wS_y c c2]
        · rw [bz_n c2, if_pos rfl, wS_n (fun z => c2 z.2)]
      · rw [if_pos (le_y (by omega) (by omega)), wS_n (fun z => c z.1)]
    · rintro m s' ⟨-, -, hs'⟩
      rw [f_X10_leastWay_15, if_pos (show (12 : Int32) ≤ nN 12 from Int32.le_refl _), hs']
      rfl
  have h : ∃ y, f_X10_leastWay_6 (mk A V R B J) 0 10000 (some (29 + 2 * d)) (nN p) (nN 24) (nN 0) = some y ∧ y = nN (itr (wI' N v n p) 0 (p + 1) 24) := by
    refine lpF (fun m (s : Nat) i => f_X10_leastWay_6 (mk A V R B J) 0 m (some (29 + 2 * d)) (nN p) (nN s) i) (fun i s => s ≤ 24 ∧ s = itr (wI' N v n p) 0 i 24) (fun y => y = nN (itr (wI' N v n p) 0 (p + 1) 24)) (p + 1) (i := 0) (s := 24) (by omega) (by omega) ⟨Nat.le_refl _, rfl⟩ ?_ ?_
    · rintro m i s hi ⟨h24, hs⟩
      refine Or.inr ⟨wI' N v n p i s, ?_, itr_P (fun s => s ≤ 24) (fun i s h => Nat.le_trans wS_le h) _ _ _ h24, by rw [itr_s, Nat.zero_add, ← hs]⟩
      rw [f_X10_leastWay_6, if_neg (lt_n (show i ≤ p by omega) (by omega))]
      exact inner _ i s (by omega) h24
    · rintro m s ⟨-, hs⟩
      rw [f_X10_leastWay_6, if_pos (lt_y (show p < p + 1 by omega) (by omega)), hs]
      exact ⟨_, rfl, rfl⟩
  obtain ⟨y, e1, e2⟩ := h
  rw [e2] at e1
  exact e1
theorem m_way {N : Nat → Nat} {v : Nat → Int32} {d n p : Nat} (hd : d < 8) (hn : n ≤ 100) (s7 : A 64 d = nN n) (s8 : ∀ i, i < n → B 65 (100 * d + i) = (v i).toInt64) (hp : p < 12) (hN : ∀ p, p < 12 → N p < 1000 ∧ A 48 p = nN (N p)) : f_X11_walk_36 45 10000 (mk A V R B J) (nN d) (nN p) (-4) 0 = some (e24 (itr (wI' N v n p) 0 (p + 1) 24), mk A V R B J) := by
  have inner : ∀ (k36 : Hp → Int32 → Int32 → Int32 → Int32 → Option (Int32 × Hp)) (lo s : Nat), lo ≤ p → s ≤ 24 → f_X11_walk_45 45 k36 10000 (mk A V R B J) (nN d) (nN p) (e24 s) (nN lo) (nN p) = k36 (mk A V R B J) (nN d) (nN p) (e24 (wI' N v n p lo s)) (nN lo + 1) := by
    intro k36 lo s hlo hs
    refine lpE (fun m (s : Nat) i => f_X11_walk_45 45 k36 m (mk A V R B J) (nN d) (nN p) (e24 s) (nN lo) i) (fun i s' => p ≤ i ∧ (s' ≤ 24 ∧ s' = itr (wS N v n p lo) p (i - p) s)) (fun o => o = k36 (mk A V R B J) (nN d) (nN p) (e24 (wI' N v n p lo s)) (nN lo + 1)) 12 (i := p) (s := s) (by omega) (by omega) ⟨Nat.le_refl _, hs, by rw [Nat.sub_self]; rfl⟩ ?_ ?_
    · rintro m i s' hi ⟨hpi, h24, hs'⟩
      refine Or.inr ?_
      have g12 : ¬ (12 : Int32) ≤ nN i := fun q => by rw [ge12 hi] at q; exact q
      have hw := wy_lt (hi := i) hp hlo hi
      have step : itr (wS N v n p lo) p (i + 1 - p) s = wS N v n p lo i s' := by
        rw [show i + 1 - p = i - p + 1 by omega, itr_s, show p + (i - p) = i by omega, ← hs']
      refine ⟨wS N v n p lo i s', ?_, by omega, Nat.le_trans wS_le h24, step.symm⟩
      have go : ∀ x : Nat, i - lo + x = wy p lo i → f_X11_walk_74 45 k36 (f_X11_walk_45 45 k36 m) (mk A V R B J) (nN d) (nN p) (e24 s') (nN lo) (nN i) (nN x) = f_X11_walk_45 45 k36 m (mk A V R B J) (nN d) (nN p) (e24 (wS N v n p lo i s')) (nN lo) (nN i + 1) := by
        intro x hx
        unfold f_X11_walk_74 f_X11_walk_110 f_X11_walk_115 f_X11_walk_117
        rw [rm, Option.bind_some, m_areMet hd hn s7 s8 hi (by omega) hN, Option.bind_some, n_sub (by omega), n_add, hx]
        by_cases c2 : AM N v n lo i
        · rw [bz_y c2, if_neg (by decide)]
          by_cases c3 : s' = 24
          · rw [wS_y (by omega) c2]
            unfold e24
            rw [if_pos c3, if_pos (by decide), if_neg (by omega)]
          · have e1 : e24 s' = nN s' := if_neg c3
            rw [e1, if_neg (n_lt0 s' (by omega))]
            by_cases c : wy p lo i < s'
            · rw [if_neg (le_n c (by omega)), wS_y c c2]
              unfold e24
              rw [if_neg (by omega)]
            · rw [if_pos (le_y (by omega) (by omega)), wS_n (fun z => c z.1), e1]
        · rw [bz_n c2, if_pos rfl, wS_n (fun z => c2 z.2)]
      rw [f_X11_walk_45, if_neg g12, n_sub hpi, n_sub hlo]
      by_cases c : i - p ≤ p - lo
      · rw [if_pos (le_y c (by omega))]
        exact go (i - p) (by unfold wy; omega)
      · rw [if_neg (le_n (by omega) (by omega))]
        exact go (p - lo) (by unfold wy; omega)
    · rintro m s' ⟨-, -, hs'⟩
      rw [f_X11_walk_45, if_pos (show (12 : Int32) ≤ nN 12 from Int32.le_refl _), hs']
      rfl
  have h : ∃ y, f_X11_walk_36 45 10000 (mk A V R B J) (nN d) (nN p) (e24 24) (nN 0) = some y ∧ y = (e24 (itr (wI' N v n p) 0 (p + 1) 24), mk A V R B J) := by
    refine lpF (fun m (s : Nat) i => f_X11_walk_36 45 m (mk A V R B J) (nN d) (nN p) (e24 s) i) (fun i s => s ≤ 24 ∧ s = itr (wI' N v n p) 0 i 24) (fun y => y = (e24 (itr (wI' N v n p) 0 (p + 1) 24), mk A V R B J)) (p + 1) (i := 0) (s := 24) (by omega) (by omega) ⟨Nat.le_refl _, rfl⟩ ?_ ?_
    · rintro m i s hi ⟨h24, hs⟩
      refine Or.inr ⟨wI' N v n p i s, ?_, itr_P (fun s => s ≤ 24) (fun i s h => Nat.le_trans wS_le h) _ _ _ h24, by rw [itr_s, Nat.zero_add, ← hs]⟩
      rw [f_X11_walk_36, if_neg (lt_n (show i ≤ p by omega) (by omega))]
      exact inner _ i s (by omega) h24
    · rintro m s ⟨-, hs⟩
      rw [f_X11_walk_36, if_pos (lt_y (show p < p + 1 by omega) (by omega)), hs]
      exact ⟨_, rfl, rfl⟩
  obtain ⟨y, e1, e2⟩ := h
  rw [e2] at e1
  exact e1
/-- none, if not all are met along the whole street; else one -/
theorem way_n {N : Nat → Nat} {v : Nat → Int32} {n p : Nat} (h : ¬ AM N v n 0 11) : itr (wI' N v n p) 0 (p + 1) 24 = 24 := by
  have hb : ∀ lo hi s, hi < 12 → wS N v n p lo hi s = s := fun lo hi s hh => wS_n (fun z => h (fun i hi' => (z.2 i hi').mono (Nat.zero_le _) (by omega)))
  have h1 : ∀ lo s, p < 12 → wI' N v n p lo s = s := fun lo s hp => by
    unfold wI'
    have : ∀ k i s, i + k ≤ 12 → itr (wS N v n p lo) i k s = s := by
      intro k
      induction k with
      | zero => intro i s _; rfl
      | succ k ih =>
        intro i s hik
        show itr (wS N v n p lo) (i + 1) k (wS N v n p lo i s) = s
        rw [hb lo i s (by omega)]
        exact ih (i + 1) s (by omega)
    exact this (12 - p) p s (by omega)
  by_cases hp : p < 12
  · exact itr_P (fun s => s = 24) (fun i s hs => by rw [h1 i s hp]; exact hs) _ _ _ rfl
  · have : ∀ lo s, wI' N v n p lo s = s := fun lo s => by
      unfold wI'
      rw [show 12 - p = 0 by omega]
      rfl
    exact itr_P (fun s => s = 24) (fun i s hs => by rw [this i s]; exact hs) _ _ _ rfl
theorem way_y {N : Nat → Nat} {v : Nat → Int32} {n p : Nat} (hp : p < 12) (h : AM N v n 0 11) : itr (wI' N v n p) 0 (p + 1) 24 < 24 := by
  show itr (wI' N v n p) (0 + 1) p (wI' N v n p 0 24) < 24
  have down : ∀ lo s, wI' N v n p lo s ≤ s := fun lo s => itr_P (fun s' => s' ≤ s) (fun i s' hs => Nat.le_trans wS_le hs) _ _ _ (Nat.le_refl _)
  refine itr_P (fun s => s < 24) (fun i s hs => Nat.lt_of_le_of_lt (down i s) hs) _ _ _ ?_
  unfold wI'
  rw [show 12 - p = 11 - p + 1 by omega, itr_s, show p + (11 - p) = 11 by omega]
  have hw := wy_lt (lo := 0) (hi := 11) hp (Nat.zero_le _) (by decide)
  by_cases c : wy p 0 11 < itr (wS N v n p 0) p (11 - p) 24
  · rw [wS_y c h]; exact hw
  · rw [wS_n (fun z => c z.1)]; omega
theorem op_10 (x1 x2 : Int32) : Ok1 (fun h => f_X10_walk h 0 x1 x2) (fun h => f_X11_walk h 45 x1 x2) := by
  intro A V R B J h
  have h0 := h
  obtain ⟨⟨T, w, st, mo⟩, -, shs⟩ := h0
  have cw : ∀ {y : Int32}, f_X10_wayBy (mk A V R B J) 0 x1 x2 1 = some y → f_X10_walk (mk A V R B J) 0 x1 x2 = some y := fun e => by
    unfold f_X10_walk
    rw [ro, Option.bind_some, e, Option.bind_some]
  rcases c_shelf x1 with ⟨d, hd, rfl, hc⟩ | ⟨hc, hn⟩
  · have ht := isSh_d hd
    rcases c_plot x2 with ⟨p, hp, rfl, g1, g2⟩ | ⟨g1, g2, -⟩
    · rcases sh_sort (s0 := 1) hd (by decide) (shs d hd) with ⟨r, hr, e1, e2⟩ | ⟨n, hn, s4, s7, s8, e1, e2⟩
      · refine ⟨r, A, upV V 45 6 0, R, B, cw ?_, ?_, h.thr⟩
        · unfold f_X10_wayBy
          rw [ro, Option.bind_some, hc, Option.bind_some, if_neg (by simp), g1, Option.bind_some, if_neg (by decide), rh ht, Option.bind_some, show (1 : Int32) = nN 1 from rfl, e1, Option.bind_some, if_neg (by rcases hr with rfl | rfl <;> decide)]
        · show f_X11_walk (mk A V R B J) 45 (nN d) (nN p) = _
          unfold f_X11_walk f_X11_walk_22
          rw [pm_6, Option.bind_some, g2, Option.bind_some, if_neg (by decide), rm, Option.bind_some, show (1 : Int32) = nN 1 from rfl, e2, Option.bind_some, if_neg (by rcases hr with rfl | rfl <;> decide)]
      · have hN2 : ∀ p, p < 12 → tN T p < 1000 ∧ A (1 + 1) p = nN (tN T p) := fun p hp => ⟨w.num p hp, st.2.2.2.1 p hp⟩
        have hN48 : ∀ p, p < 12 → tN T p < 1000 ∧ A 48 p = nN (tN T p) := fun p hp => ⟨w.num p hp, mo.2.2 p hp⟩
        have e30 : 30 + 2 * d = 29 + 2 * d + 1 := by omega
        rw [e30] at s8
        have c1 := c_comes (R := R) (B := B) (J := J) (lo := 0) (hi := 11) hd hn s4 (fun i _ => rfl) (by decide) (by decide) hN2
        have c2 := c_way (R := R) (B := B) (J := J) hd hn s4 (fun i _ => rfl) hp hN2
        have c3 := m_way (A := A) (V := upV V 45 6 0) (R := R) (J := J) hd hn s7 (fun i hi => (s8 i hi).2) hp hN48
        have em : f_X11_walk (mk A V R B J) 45 (nN d) (nN p) = some (e24 (itr (wI' (tN T) (A (29 + 2 * d + 1)) n p) 0 (p + 1) 24), mk A (upV V 45 6 0) R B J) := by
          unfold f_X11_walk f_X11_walk_22
          rw [pm_6, Option.bind_some, g2, Option.bind_some, if_neg (by decide), rm, Option.bind_some, show (1 : Int32) = nN 1 from rfl, e2, Option.bind_some, if_pos (by decide)]
          exact c3
        refine ⟨_, A, upV V 45 6 0, R, B, cw ?_, em, h.thr⟩
        unfold f_X10_wayBy
        rw [ro, Option.bind_some, hc, Option.bind_some, if_neg (by simp), g1, Option.bind_some, if_neg (by decide), rh ht, Option.bind_some, show (1 : Int32) = nN 1 from rfl, e1, Option.bind_some, if_pos rfl, Option.bind_some, show (4095 : Int32) = pb 0 11 by decide, c1, Option.bind_some]
        by_cases c : AM (tN T) (A (29 + 2 * d + 1)) n 0 11
        · have hlt := way_y hp c
          rw [bz_y c, if_neg (by decide), if_neg (by decide), Option.bind_some, c2, Option.bind_some]
          unfold e24
          rw [if_neg (by omega)]
        · rw [bz_n c, if_pos rfl, way_n c]
          rfl
    · refine ⟨-1, A, upV V 45 6 0, R, B, cw ?_, ?_, h.thr⟩
      · unfold f_X10_wayBy
        rw [ro, Option.bind_some, hc, Option.bind_some, if_neg (by simp), g1, Option.bind_some, if_pos rfl]
      · show f_X11_walk (mk A V R B J) 45 (nN d) x2 = _
        unfold f_X11_walk f_X11_walk_22
        rw [pm_6, Option.bind_some, g2, Option.bind_some, if_pos rfl, if_neg (by decide)]
  · refine ⟨-1, A, upV V 45 6 0, R, B, cw ?_, ?_, h.thr⟩
    · unfold f_X10_wayBy
      rw [ro, Option.bind_some, hc, Option.bind_some, if_pos rfl]
    · show f_X11_walk (mk A V R B J) 45 x1 x2 = _
      unfold f_X11_walk f_X11_walk_22
      rw [pm_6, Option.bind_some]
      rcases c_plot x2 with ⟨p, hp, rfl, g1, g2⟩ | ⟨g1, g2, -⟩
      · rw [g2, Option.bind_some, if_neg (by decide), rm, Option.bind_some, m_wrongSortN hn, Option.bind_some, if_neg (by decide)]
      · rw [g2, Option.bind_some, if_pos rfl, if_neg (by decide)]
end WLK
