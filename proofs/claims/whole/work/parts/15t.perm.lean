/-! orders: all orders, one behind the other -/
section PER
def fnL (s : List Nat) : Nat → Nat := fun i => s.getD i 0
def plO (a : Nat → Nat) : Nat → Option Nat
  | 0 => none
  | p + 1 => if a (p + 1) < a p then plO a p else some p
def otO (a : Nat → Nat) (v : Nat) : Nat → Nat
  | 0 => 0
  | o + 1 => if a (o + 1) < v then otO a v o else o + 1
def swO (a : Nat → Nat) (i j : Nat) : Nat → Nat := upN (upN a i (a j)) j (a i)
def rvO : Nat → (Nat → Nat) → Nat → Nat → (Nat → Nat)
  | 0, a, _, _ => a
  | k + 1, a, lo, hi => if lo < hi then rvO k (swO a lo hi) (lo + 1) (hi - 1) else a
def nxO (n : Nat) (a : Nat → Nat) : Option (Nat → Nat) := match plO a (n - 1) with
  | none => none
  | some p => some (rvO n (swO a p (otO a (a p) (n - 1))) (p + 1) (n - 1))
def nxL (n : Nat) (s : List Nat) : Option (List Nat) := match nxO n (fnL s) with
  | none => none
  | some a => some ((List.range n).map a)
/-- each element and the others -/
def pkO {α : Type} : List α → List (α × List α)
  | [] => []
  | x :: xs => (x, xs) :: (pkO xs).map (fun q => (q.1, x :: q.2))
/-- all orders, by their first elements -/
def lpO {α : Type} : Nat → List α → List (List α)
  | 0, _ => [[]]
  | n + 1, l => (pkO l).flatMap (fun q => (lpO n q.2).map (fun s => q.1 :: s))
/-- what stands behind -/
def hdO (l : List (List Nat)) (e : Option (List Nat)) : Option (List Nat) := match l with
  | [] => e
  | b :: _ => some b
/-- each is followed by its next -/
def chE (n : Nat) : List (List Nat) → Option (List Nat) → Bool
  | [], _ => true
  | a :: r, e => decide (nxL n a = hdO r e) && chE n r e
theorem hdO_app {A B : List (List Nat)} {e : Option (List Nat)} : hdO (A ++ B) e = hdO A (hdO B e) := by
  cases A
  · rfl
  · rfl
theorem chE_app {n : Nat} : ∀ (A B : List (List Nat)) (e : Option (List Nat)), chE n (A ++ B) e = (chE n A (hdO B e) && chE n B e)
  | [], B, e => by
    show chE n B e = (true && chE n B e)
    rw [Bool.true_and]
  | a :: A, B, e => by
    show (decide (nxL n a = hdO (A ++ B) e) && chE n (A ++ B) e) = ((decide (nxL n a = hdO A (hdO B e)) && chE n A (hdO B e)) && chE n B e)
    rw [hdO_app, chE_app A B e, Bool.and_assoc]
theorem ch_6 : ∀ n, n < 7 → chE n (lpO n (List.range n)) none = true := by decide +kernel
def blO (x : Nat) (r : List Nat) : List (List Nat) := (lpO 6 r).map (fun s => x :: s)
theorem bl_0 : chE 7 (blO 0 [1, 2, 3, 4, 5, 6]) (some [1, 0, 2, 3, 4, 5, 6]) = true := by decide +kernel
theorem bl_1 : chE 7 (blO 1 [0, 2, 3, 4, 5, 6]) (some [2, 0, 1, 3, 4, 5, 6]) = true := by decide +kernel
theorem bl_2 : chE 7 (blO 2 [0, 1, 3, 4, 5, 6]) (some [3, 0, 1, 2, 4, 5, 6]) = true := by decide +kernel
theorem bl_3 : chE 7 (blO 3 [0, 1, 2, 4, 5, 6]) (some [4, 0, 1, 2, 3, 5, 6]) = true := by decide +kernel
theorem bl_4 : chE 7 (blO 4 [0, 1, 2, 3, 5, 6]) (some [5, 0, 1, 2, 3, 4, 6]) = true := by decide +kernel
theorem bl_5 : chE 7 (blO 5 [0, 1, 2, 3, 4, 6]) (some [6, 0, 1, 2, 3, 4, 5]) = true := by decide +kernel
theorem bl_6 : chE 7 (blO 6 [0, 1, 2, 3, 4, 5]) none = true := by decide +kernel
theorem pk_7 : pkO (List.range 7) = [(0, [1, 2, 3, 4, 5, 6]), (1, [0, 2, 3, 4, 5, 6]), (2, [0, 1, 3, 4, 5, 6]), (3, [0, 1, 2, 4, 5, 6]), (4, [0, 1, 2, 3, 5, 6]), (5, [0, 1, 2, 3, 4, 6]), (6, [0, 1, 2, 3, 4, 5])] := by decide +kernel
theorem hd_1 {e : Option (List Nat)} : hdO (blO 1 [0, 2, 3, 4, 5, 6]) e = some [1, 0, 2, 3, 4, 5, 6] := by rfl
theorem hd_2 {e : Option (List Nat)} : hdO (blO 2 [0, 1, 3, 4, 5, 6]) e = some [2, 0, 1, 3, 4, 5, 6] := by rfl
theorem hd_3 {e : Option (List Nat)} : hdO (blO 3 [0, 1, 2, 4, 5, 6]) e = some [3, 0, 1, 2, 4, 5, 6] := by rfl
theorem hd_4 {e : Option (List Nat)} : hdO (blO 4 [0, 1, 2, 3, 5, 6]) e = some [4, 0, 1, 2, 3, 5, 6] := by rfl
theorem hd_5 {e : Option (List Nat)} : hdO (blO 5 [0, 1, 2, 3, 4, 6]) e = some [5, 0, 1, 2, 3, 4, 6] := by rfl
theorem hd_6 {e : Option (List Nat)} : hdO (blO 6 [0, 1, 2, 3, 4, 5]) e = some [6, 0, 1, 2, 3, 4, 5] := by rfl
theorem ch_7 : chE 7 (lpO 7 (List.range 7)) none = true := by
  have e : lpO 7 (List.range 7) = blO 0 [1, 2, 3, 4, 5, 6] ++ (blO 1 [0, 2, 3, 4, 5, 6] ++ (blO 2 [0, 1, 3, 4, 5, 6] ++ (blO 3 [0, 1, 2, 4, 5, 6] ++ (blO 4 [0, 1, 2, 3, 5, 6] ++ (blO 5 [0, 1, 2, 3, 4, 6] ++ (blO 6 [0, 1, 2, 3, 4, 5] ++ [])))))) := by
    show (pkO (List.range 7)).flatMap (fun q => (lpO 6 q.2).map (fun s => q.1 :: s)) = _
    rw [pk_7]
    simp only [List.flatMap_cons, List.flatMap_nil]
    rfl
  rw [e, List.append_nil, chE_app, chE_app, chE_app, chE_app, chE_app, chE_app, hdO_app, hd_1, hdO_app, hd_2, hdO_app, hd_3, hdO_app, hd_4, hdO_app, hd_5, hd_6, bl_0, bl_1, bl_2, bl_3, bl_4, bl_5, bl_6]
  rfl
theorem ch_all {n : Nat} (hn : n ≤ 7) : chE n (lpO n (List.range n)) none = true := by
  by_cases c : n < 7
  · exact ch_6 n c
  · rw [show n = 7 by omega]
    exact ch_7
theorem pk_mem {α : Type} : ∀ (l : List α) (q : α × List α), q ∈ pkO l → q.1 ∈ l ∧ ((∀ y, y ∈ q.2 → y ∈ l) ∧ q.2.length + 1 = l.length)
  | [], q, h => by cases h
  | x :: xs, q, h => by
    rcases List.mem_cons.mp h with rfl | h
    · exact ⟨List.mem_cons_self .., fun y hy => List.mem_cons_of_mem _ hy, rfl⟩
    · obtain ⟨q', h1, rfl⟩ := List.mem_map.mp h
      obtain ⟨a, b, c⟩ := pk_mem xs q' h1
      refine ⟨List.mem_cons_of_mem _ a, fun y hy => ?_, ?_⟩
      · rcases List.mem_cons.mp hy with rfl | hy
        · exact List.mem_cons_self ..
        · exact List.mem_cons_of_mem _ (b y hy)
      · show (x :: q'.2).length + 1 = (x :: xs).length
        rw [List.length_cons, List.length_cons, c]
theorem lp_mem {α : Type} : ∀ (n : Nat) (l : List α), l.length = n → ∀ s, s ∈ lpO n l → s.length = n ∧ ∀ x, x ∈ s → x ∈ l
  | 0, l, _, s, h => by
    have h : s ∈ [[]] := h
    rw [List.mem_singleton] at h
    subst h
    exact ⟨rfl, fun x hx => by cases hx⟩
  | n + 1, l, hl, s, h => by
    have h : s ∈ (pkO l).flatMap (fun q => (lpO n q.2).map (fun s => q.1 :: s)) := h
    obtain ⟨q, h1, h2⟩ := List.mem_flatMap.mp h
    obtain ⟨s', h3, rfl⟩ := List.mem_map.mp h2
    obtain ⟨a, b, c⟩ := pk_mem l q h1
    obtain ⟨d, e⟩ := lp_mem n q.2 (by omega) s' h3
    refine ⟨by rw [List.length_cons, d], fun x hx => ?_⟩
    rcases List.mem_cons.mp hx with rfl | hx
    · exact a
    · exact b x (e x hx)
theorem pk_map {α β : Type} (g : α → β) : ∀ l : List α, pkO (l.map g) = (pkO l).map (fun q => (g q.1, q.2.map g))
  | [] => rfl
  | x :: xs => by
    show (g x, xs.map g) :: (pkO (xs.map g)).map (fun q => (q.1, g x :: q.2)) = (g x, xs.map g) :: ((pkO xs).map (fun q => (q.1, x :: q.2))).map (fun q => (g q.1, q.2.map g))
    rw [pk_map g xs, List.map_map, List.map_map]
    rfl
theorem lp_map {α β : Type} (g : α → β) : ∀ (n : Nat) (l : List α), lpO n (l.map g) = (lpO n l).map (fun s => s.map g)
  | 0, _ => rfl
  | n + 1, l => by
    show (pkO (l.map g)).flatMap (fun q => (lpO n q.2).map (fun s => q.1 :: s)) = ((pkO l).flatMap (fun q => (lpO n q.2).map (fun s => q.1 :: s))).map (fun s => s.map g)
    rw [pk_map, List.flatMap_map, List.map_flatMap]
    congr 1
    funext q
    rw [lp_map g n, List.map_map, List.map_map]
    rfl
end PER
