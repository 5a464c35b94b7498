/-! The law's start: what both constructors leave. -/
def A0 : Nat → Nat → Int32 := fun _ _ => 0
def V0 : Nat → Nat → Int32 := fun a k => if k = 1 ∧ 29 ≤ a ∧ a < 45 then -1 else 0
def R0 : Nat → Nat → Option Nat := fun a _ => if a = 1 then some 9 else if a = 10 then some 18 else if a = 19 then some 27 else none
def B0 : Nat → Nat → Int64 := fun _ _ => 0
set_option maxRecDepth 100000 in
set_option maxHeartbeats 1000000 in
theorem law_init (sL : Nat) (sxs : Nat → Int32) : f_L_law [] sL sxs = f_L_law_23 sL sxs 10000 (mk A0 V0 R0 B0 []) (some 0) (some 45) (some 67) 0 := by
  unfold f_L_law
  rfl
