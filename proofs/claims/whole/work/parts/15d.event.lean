/-! One event more. -/
section EVT
variable {A V : Nat → Nat → Int32} {R : Nat → Nat → Option Nat} {B : Nat → Nat → Int64} {J : List En}
def upN (f : Nat → Nat) (i v : Nat) : Nat → Nat := fun j => if j = i then v else f j
theorem upN_eq {f : Nat → Nat} {i v : Nat} : upN f i v i = v := if_pos rfl
theorem upN_ne {f : Nat → Nat} {i v j : Nat} (h : j ≠ i) : upN f i v j = f j := if_neg h
/-- a town behind one event more: on plot p, of height x, with number n there then -/
def evT (T : Tn) (p x n : Nat) : Tn := (tK T, tF T, tE T + 1, upN (tP T) (tE T) p, upN (tH T) (tE T) x, upN (tN T) p n)
theorem cnt_cong {P H P' H' : Nat → Nat} {q : Nat} : ∀ E, (∀ e, e < E → P' e = P e ∧ H' e = H e) → cnt P' H' q E = cnt P H q E
  | 0, _ => rfl
  | E + 1, h => by
    show cnt P' H' q E + (if H' E ≠ 0 ∧ P' E / 4 = q then 1 else 0) = cnt P H q E + (if H E ≠ 0 ∧ P E / 4 = q then 1 else 0)
    rw [cnt_cong E (fun e he => h e (by omega)), (h E (by omega)).1, (h E (by omega)).2]
theorem occ_cong {P H P' H' : Nat → Nat} {p : Nat} : ∀ E, (∀ e, e < E → P' e = P e ∧ H' e = H e) → occ P' H' p E = occ P H p E
  | 0, _ => rfl
  | E + 1, h => by
    show (if P' E = p then decide (H' E ≠ 0) else occ P' H' p E) = (if P E = p then decide (H E ≠ 0) else occ P H p E)
    rw [occ_cong E (fun e he => h e (by omega)), (h E (by omega)).1, (h E (by omega)).2]
theorem lst_cong {P P' : Nat → Nat} {p : Nat} : ∀ E, (∀ e, e < E → P' e = P e) → lst P' p E = lst P p E
  | 0, _ => rfl
  | E + 1, h => by
    show (if P' E = p then E else lst P' p E) = (if P E = p then E else lst P p E)
    rw [lst_cong E (fun e he => h e (by omega)), h E (by omega)]
theorem ev_old {T : Tn} {p x n : Nat} : ∀ e, e < tE T → tP (evT T p x n) e = tP T e ∧ tH (evT T p x n) e = tH T e :=
  fun e he => ⟨upN_ne (by omega), upN_ne (by omega)⟩
theorem ev_P {T : Tn} {p x n : Nat} : tP (evT T p x n) (tE T) = p := upN_eq
theorem ev_H {T : Tn} {p x n : Nat} : tH (evT T p x n) (tE T) = x := upN_eq
theorem cnt_ev {T : Tn} {p x n q : Nat} : cnt (tP (evT T p x n)) (tH (evT T p x n)) q (tE T + 1) = cnt (tP T) (tH T) q (tE T) + (if x ≠ 0 ∧ p / 4 = q then 1 else 0) := by
  show cnt (tP (evT T p x n)) (tH (evT T p x n)) q (tE T) + (if tH (evT T p x n) (tE T) ≠ 0 ∧ tP (evT T p x n) (tE T) / 4 = q then 1 else 0) = _
  rw [cnt_cong (tE T) ev_old, ev_P, ev_H]
theorem bui_ev {T : Tn} {p x n : Nat} (hp : p < 12) : bui (tP (evT T p x n)) (tH (evT T p x n)) (tE T + 1) = bui (tP T) (tH T) (tE T) + (if x ≠ 0 then 1 else 0) := by
  unfold bui
  rw [cnt_ev, cnt_ev, cnt_ev]
  by_cases c : x ≠ 0
  · rw [if_pos c]
    by_cases c0 : p / 4 = 0
    · rw [if_pos ⟨c, c0⟩, if_neg (by omega), if_neg (by omega)]; omega
    · by_cases c1 : p / 4 = 1
      · rw [if_neg (by omega), if_pos ⟨c, c1⟩, if_neg (by omega)]; omega
      · rw [if_neg (by omega), if_neg (by omega), if_pos ⟨c, by omega⟩]; omega
  · rw [if_neg (fun q => c q.1), if_neg (fun q => c q.1), if_neg (fun q => c q.1), if_neg c]
    omega
theorem occ_ev {T : Tn} {p x n q : Nat} : occ (tP (evT T p x n)) (tH (evT T p x n)) q (tE T + 1) = if p = q then decide (x ≠ 0) else occ (tP T) (tH T) q (tE T) := by
  show (if tP (evT T p x n) (tE T) = q then decide (tH (evT T p x n) (tE T) ≠ 0) else occ (tP (evT T p x n)) (tH (evT T p x n)) q (tE T)) = _
  rw [occ_cong (tE T) ev_old, ev_P, ev_H]
theorem lst_ev {T : Tn} {p x n q : Nat} : lst (tP (evT T p x n)) q (tE T + 1) = if p = q then tE T else lst (tP T) q (tE T) := by
  show (if tP (evT T p x n) (tE T) = q then tE T else lst (tP (evT T p x n)) q (tE T)) = _
  rw [lst_cong (tE T) (fun e he => (ev_old (T := T) (p := p) (x := x) (n := n) e he).1), ev_P]
theorem Wf.occ0 {T : Tn} (w : Wf T) {p : Nat} (hp : p < 12) : tN T p = 0 ↔ occ (tP T) (tH T) p (tE T) = false := by
  have h := (w.2.2.2 p hp).1
  rw [← Bool.not_eq_true, ← h]
  omega
theorem Wf.ev {T : Tn} (w : Wf T) {p x n : Nat} (hp : p < 12) (hE : tE T < 30) (hx : x ≤ 9) (hxn : x ≠ 0 ↔ tN T p = 0) (hn0 : n ≠ 0 ↔ x ≠ 0) (hn : n ≤ 112 + (tE T + 1)) : Wf (evT T p x n) := by
  refine ⟨w.1, w.2.1, ⟨by show tE T + 1 ≤ 30; omega, fun e he => ?_⟩, fun q hq => ?_⟩
  · have he : e < tE T + 1 := he
    by_cases c : e < tE T
    · obtain ⟨h1, h2, h3⟩ := w.2.2.1.2 e c
      obtain ⟨o1, o2⟩ := ev_old (T := T) (p := p) (x := x) (n := n) e c
      rw [o1, o2, occ_cong e (fun e' he' => ev_old e' (by omega))]
      exact ⟨h1, h2, h3⟩
    · have e' : e = tE T := by omega
      subst e'
      rw [ev_P, ev_H, occ_cong (tE T) ev_old, ← w.occ0 hp]
      exact ⟨hp, hx, hxn⟩
  · have ho : occ (tP (evT T p x n)) (tH (evT T p x n)) q (tE T + 1) = if p = q then decide (x ≠ 0) else occ (tP T) (tH T) q (tE T) := occ_ev
    show (upN (tN T) p n q ≠ 0 ↔ occ (tP (evT T p x n)) (tH (evT T p x n)) q (tE T + 1) = true) ∧ upN (tN T) p n q ≤ 112 + (tE T + 1)
    rw [ho]
    by_cases c : p = q
    · subst c
      rw [if_pos rfl, upN_eq, decide_eq_true_eq]
      exact ⟨hn0, hn⟩
    · rw [if_neg c, upN_ne (fun z => c z.symm)]
      have h := w.2.2.2 q hq
      exact ⟨h.1, by omega⟩
/-- how high a number can be -/
theorem skS_le {n f : Nat} : n ≤ skS n f ∧ skS n f ≤ 2 * n := by
  have key : ∀ b, b ≤ n - 1 → n ≤ n + b ∧ n + b ≤ 2 * n := fun b h => by omega
  unfold skS
  split
  · omega
  · exact key _ (Nat.div_le_self _ _)
theorem numS_b {k f b q : Nat} {N : Nat → Nat} {p x E : Nat} (hf : f ≤ 9) (hx : x ≤ 9) (hb : b ≤ E) (hq : q ≤ b) (hE : E ≤ 29) (hN : ∀ p, p < 12 → N p ≤ 112 + E) : 1 ≤ numS k f b q N p x ∧ numS k f b q N p x ≤ 112 + (E + 1) := by
  have hg := gp_le N
  have hs := skS_le (n := b + 1) (f := f)
  have hG : gN N 12 < 112 + E + 1 := gN_lt N _ (by omega) 12 (fun p hp => by have := hN p hp; omega)
  have hm : f * x ≤ 9 * 9 := Nat.mul_le_mul hf hx
  match k with
  | 0 => exact ⟨by show 1 ≤ b + 1; omega, by show b + 1 ≤ _; omega⟩
  | 1 => exact ⟨hg.1, by show gp N ≤ _; omega⟩
  | 2 => exact ⟨by show 1 ≤ q + 1; omega, by show q + 1 ≤ _; omega⟩
  | 3 => exact ⟨by show 1 ≤ b + 1 + f * x; omega, by show b + 1 + f * x ≤ _; omega⟩
  | 4 => exact ⟨by show 1 ≤ 2 * (b + 1); omega, by show 2 * (b + 1) ≤ _; omega⟩
  | 5 => exact ⟨by show 1 ≤ skS (b + 1) f; omega, by show skS (b + 1) f ≤ _; omega⟩
  | 6 => exact ⟨by show 1 ≤ (if gp N < f then gp N else gN N 12 + 1); split <;> omega, by show (if gp N < f then gp N else gN N 12 + 1) ≤ _; split <;> omega⟩
  | k + 7 => exact ⟨by show 1 ≤ (if p % 2 = 0 then 2 * (q + 1) - 1 else 2 * (q + 1)); split <;> omega, by show (if p % 2 = 0 then 2 * (q + 1) - 1 else 2 * (q + 1)) ≤ _; split <;> omega⟩
theorem cnt_bui {P H : Nat → Nat} {q E : Nat} (hq : q < 3) : cnt P H q E ≤ bui P H E := by
  unfold bui
  match q, hq with
  | 0, _ => omega
  | 1, _ => omega
  | 2, _ => omega
theorem numT_b {T : Tn} (w : Wf T) {p x : Nat} (hp : p < 12) (hx : x ≤ 9) (hE : tE T < 30) : 1 ≤ numT T p x ∧ numT T p x ≤ 112 + (tE T + 1) :=
  numS_b w.2.1 hx (bui_le _) (cnt_bui (by omega)) (by omega) (fun p hp => (w.2.2.2 p hp).2)
def rsT (T : Tn) (p x : Nat) : Tn := evT T p x (numT T p x)
def rzT (T : Tn) (p : Nat) : Tn := evT T p 0 0
theorem Wf.rs {T : Tn} (w : Wf T) {p x : Nat} (hp : p < 12) (h1 : 1 ≤ x) (hx : x ≤ 9) (hE : tE T < 30) (h0 : tN T p = 0) : Wf (rsT T p x) := by
  have h := numT_b w hp hx hE
  exact w.ev hp hE hx (by omega) (by omega) h.2
theorem Wf.rz {T : Tn} (w : Wf T) {p : Nat} (hp : p < 12) (hE : tE T < 30) (h0 : tN T p ≠ 0) : Wf (rzT T p) :=
  w.ev hp hE (by omega) (by omega) (by omega) (by omega)
/-- the street's object behind one event more -/
theorem StRep.ev {A' V' : Nat → Nat → Int32} {t p x n : Nat} {T : Tn} (w : Wf T) (hp : p < 12) (s : StRep A V R J t T) (h7 : V' t 7 = nN (tE T + 1)) (h8 : V' t 8 = nN (bui (tP T) (tH T) (tE T) + if x ≠ 0 then 1 else 0))
    (a1 : ∀ q, q < 12 → A' (t + 1) q = if q = p then nN n else A (t + 1) q) (a2 : ∀ q, q < 12 → q ≠ p → A' (t + 2) q = A (t + 2) q ∧ A' (t + 3) q = A (t + 3) q) (a3 : n ≠ 0 → A' (t + 2) p = nN x ∧ A' (t + 3) p = nN (tE T))
    (a4 : ∀ q, q < 3 → A' (t + 4) q = nN (cnt (tP T) (tH T) q (tE T) + if x ≠ 0 ∧ p / 4 = q then 1 else 0)) (a5 : ∀ e, e < tE T → A' (t + 5) e = A (t + 5) e ∧ A' (t + 6) e = A (t + 6) e) (a6 : A' (t + 5) (tE T) = nN p ∧ A' (t + 6) (tE T) = nN x) : StRep A' V' R J t (evT T p x n) := by
  obtain ⟨⟨s1, s2⟩, s3, s4, s5, s6, s7⟩ := s
  refine ⟨⟨h7, ?_⟩, fun q hq => ?_, fun e he => ?_, fun q hq => ?_, fun q hq hn => ?_, s7⟩
  · show V' t 8 = nN (bui (tP (evT T p x n)) (tH (evT T p x n)) (tE T + 1))
    rw [bui_ev hp]
    exact h8
  · show A' (t + 4) q = nN (cnt (tP (evT T p x n)) (tH (evT T p x n)) q (tE T + 1))
    rw [cnt_ev]
    exact a4 q hq
  · have he : e < tE T + 1 := he
    by_cases c : e < tE T
    · obtain ⟨o1, o2⟩ := ev_old (T := T) (p := p) (x := x) (n := n) e c
      rw [o1, o2, (a5 e c).1, (a5 e c).2]
      exact s4 e c
    · have e' : e = tE T := by omega
      subst e'
      rw [ev_P, ev_H]
      exact a6
  · show A' (t + 1) q = nN (upN (tN T) p n q)
    rw [a1 q hq]
    by_cases c : q = p
    · rw [if_pos c, c, upN_eq]
    · rw [if_neg c, upN_ne c]
      exact s5 q hq
  · have hn : upN (tN T) p n q ≠ 0 := hn
    show A' (t + 2) q = nN (tH (evT T p x n) (lst (tP (evT T p x n)) q (tE T + 1))) ∧ A' (t + 3) q = nN (lst (tP (evT T p x n)) q (tE T + 1))
    rw [lst_ev]
    by_cases c : q = p
    · subst c
      rw [upN_eq] at hn
      rw [if_pos rfl, ev_H]
      exact a3 hn
    · rw [upN_ne c] at hn
      rw [if_neg (fun z => c z.symm), (a2 q hq c).1, (a2 q hq c).2]
      have ho := (w.2.2.2 q hq).1.mp hn
      rw [(ev_old (T := T) (p := p) (x := x) (n := n) _ (lst_lt (H := tH T) _ ho)).2]
      exact s6 q hq hn
theorem MoRep.ev {A' V' : Nat → Nat → Int32} {p x n : Nat} {T : Tn} (s : MoRep A V T) (h0 : V' 45 0 = V 45 0 ∧ V' 45 1 = V 45 1) (h2 : V' 45 2 = nN (tE T + 1))
    (a1 : ∀ q, q < 12 → A' 48 q = if q = p then nN n else A 48 q) (a5 : ∀ e, e < tE T → A' 46 e = A 46 e ∧ A' 47 e = A 47 e) (a6 : A' 46 (tE T) = nN p ∧ A' 47 (tE T) = nN x) : MoRep A' V' (evT T p x n) := by
  obtain ⟨⟨s1, s2, s3⟩, s4, s5⟩ := s
  refine ⟨⟨h0.1.trans s1, h0.2.trans s2, h2⟩, fun e he => ?_, fun q hq => ?_⟩
  · have he : e < tE T + 1 := he
    by_cases c : e < tE T
    · obtain ⟨o1, o2⟩ := ev_old (T := T) (p := p) (x := x) (n := n) e c
      rw [o1, o2, (a5 e c).1, (a5 e c).2]
      exact s4 e c
    · have e' : e = tE T := by omega
      subst e'
      rw [ev_P, ev_H]
      exact a6
  · show A' 48 q = nN (upN (tN T) p n q)
    rw [a1 q hq]
    by_cases c : q = p
    · rw [if_pos c, c, upN_eq]
    · rw [if_neg c, upN_ne c]
      exact s5 q hq
end EVT
