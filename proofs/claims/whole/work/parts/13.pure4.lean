/-! pure part 4: the eight steps, the gates' sums, what a gate gives. No machine in it. -/
theorem tp_turn_s (κ row : Nat → Int32) (n : Nat) : tp_turn κ row (n + 1) = tp_turn κ row n + (if κ n = 1 then (tp_rd (row n) : Int) else 0) := rfl
/-- one step more -/
theorem tp_iter {κ row : Nat → Int32} {n : Nat} {back : Int} {g g' : Int → Int32} (h : ∀ j, tp_sm (329728 * n) (g j - tp_w0 back (j - tp_turn κ row n)))
    (h' : ∀ j, tp_sm 329728 (g' j - g (j - (if κ n = 1 then (tp_rd (row n) : Int) else 0)))) (j : Int) : tp_sm (329728 * (n + 1)) (g' j - tp_w0 back (j - tp_turn κ row (n + 1))) := by
  have q1 := h' j
  have q2 := h (j - (if κ n = 1 then (tp_rd (row n) : Int) else 0))
  have e : j - (if κ n = 1 then (tp_rd (row n) : Int) else 0) - tp_turn κ row n = j - tp_turn κ row (n + 1) := by rw [tp_turn_s]; omega
  rw [e] at q2
  have q := tp_sm_add q1 q2
  have e2 : ∀ A B C : Int32, A - B + (B - C) = A - C := by intro A B C; grind
  rw [e2] at q
  exact tp_sm_mono q (by omega)
/-- what comes of a refreshed row whose place is read with its sign -/
theorem tp_refreshed {s κ row r wa wb : Nat → Int32} (hκ : ∀ i, i < 8 → tp_bit (κ i)) {p : Int} {v : Bool} (hp : tp_place κ row = Int32.ofInt p)
    (h : if v then 301989888 ≤ p ∧ p < 1845493760 else p < -301989888 ∧ -1845493760 ≤ p)
    (hw : ∀ j, tp_sm (329728 * 8) (tp_ph s wa wb j - tp_w0 (tp_rd (row 8)) (j - tp_turn κ row 8))) (hb : tp_sm 196608 (tp_place κ r - tp_ph s wa wb 0)) : tp_near κ r v 3186688 := by
  have q := tp_sm_add hb (hw 0)
  rw [tp_sign hκ hp h] at q
  have e2 : ∀ A B C : Int32, A - B + (B - C) = A - C := by intro A B C; grind
  rw [e2] at q
  exact tp_sm_mono q (by decide)
def tp_w1 (g : Nat) : Int := match g with
  | 0 => 1
  | 1 => 1
  | 2 => -1
  | 3 => -1
  | 4 => 2
  | 5 => -2
  | 6 => 1
  | _ => 1
def tp_w2 (g : Nat) : Int := match g with
  | 0 => 1
  | 1 => 1
  | 2 => -1
  | 3 => -1
  | 4 => 2
  | 5 => -2
  | 6 => -1
  | _ => -1
def tp_e8 (g : Nat) : Int := match g with
  | 0 => -1
  | 1 => 1
  | 2 => 1
  | 3 => -1
  | 4 => 2
  | 5 => -2
  | 6 => -1
  | _ => 1
def tp_truth (g : Nat) (a b : Bool) : Bool := match g with
  | 0 => a && b
  | 1 => a || b
  | 2 => !(a && b)
  | 3 => !(a || b)
  | 4 => a != b
  | 5 => a == b
  | 6 => a && !b
  | _ => a || !b
/-- the bounds are too great for the gate -/
def tp_far (g b1 b2 : Nat) : Prop := if g = 4 ∨ g = 5 then 771751936 ≤ 2 * (b1 + b2) else 234881024 ≤ b1 + b2
def tp_c (v : Bool) : Int := if v then 536870912 else -536870912
theorem tp_pl_c (v : Bool) : tp_pl v = Int32.ofInt (tp_c v) := by cases v <;> rfl
def tp_wrap (g : Nat) (a b : Bool) : Int := if g = 4 ∧ a = true ∧ b = true then -4294967296 else if g = 5 ∧ a = true ∧ b = true then 4294967296 else 0
theorem tp_wrap_of (g : Nat) (a b : Bool) : Int32.ofInt (tp_wrap g a b) = 0 := by
  unfold tp_wrap
  split
  · rfl
  · split
    · rfl
    · rfl
theorem tp_gate_num {g b1 b2 : Nat} {v1 v2 : Bool} {z1 z2 : Int} (hg : g < 8) (h1 : z1.natAbs ≤ b1) (h2 : z2.natAbs ≤ b2) (hl : ¬ tp_far g b1 b2) :
    if tp_truth g v1 v2 then 301989888 ≤ tp_w1 g * (tp_c v1 + z1) + tp_w2 g * (tp_c v2 + z2) + tp_e8 g * 536870912 + tp_wrap g v1 v2 ∧ tp_w1 g * (tp_c v1 + z1) + tp_w2 g * (tp_c v2 + z2) + tp_e8 g * 536870912 + tp_wrap g v1 v2 < 1845493760
    else tp_w1 g * (tp_c v1 + z1) + tp_w2 g * (tp_c v2 + z2) + tp_e8 g * 536870912 + tp_wrap g v1 v2 < -301989888 ∧ -1845493760 ≤ tp_w1 g * (tp_c v1 + z1) + tp_w2 g * (tp_c v2 + z2) + tp_e8 g * 536870912 + tp_wrap g v1 v2 := by
  have hc : g = 0 ∨ g = 1 ∨ g = 2 ∨ g = 3 ∨ g = 4 ∨ g = 5 ∨ g = 6 ∨ g = 7 := by omega
  rcases hc with rfl | rfl | rfl | rfl | rfl | rfl | rfl | rfl <;> cases v1 <;> cases v2 <;> simp [tp_truth, tp_w1, tp_w2, tp_e8, tp_c, tp_wrap, tp_far] at hl ⊢ <;> omega
theorem tp_gate_sum {κ a b r : Nat → Int32} {g b1 b2 : Nat} {v1 v2 : Bool} (hg : g < 8) (h1 : tp_near κ a v1 b1) (h2 : tp_near κ b v2 b2) (hl : ¬ tp_far g b1 b2)
    (hr : ∀ i, i < 8 → r i = Int32.ofInt (tp_w1 g) * a i + Int32.ofInt (tp_w2 g) * b i) (h8 : r 8 = Int32.ofInt (tp_w1 g) * a 8 + Int32.ofInt (tp_w2 g) * b 8 + Int32.ofInt (tp_e8 g) * tp_E) :
    ∃ p : Int, tp_place κ r = Int32.ofInt p ∧ (if tp_truth g v1 v2 then 301989888 ≤ p ∧ p < 1845493760 else p < -301989888 ∧ -1845493760 ≤ p) := by
  obtain ⟨z1, q1, e1⟩ := h1
  obtain ⟨z2, q2, e2⟩ := h2
  refine ⟨_, ?_, tp_gate_num (v1 := v1) (v2 := v2) hg q1 q2 hl⟩
  rw [Int32.ofInt_add, tp_wrap_of, Int32.ofInt_add, Int32.ofInt_add, Int32.ofInt_mul, Int32.ofInt_mul, Int32.ofInt_mul, Int32.ofInt_add, Int32.ofInt_add, ← tp_pl_c, ← tp_pl_c, ← e1, ← e2]
  rw [tp_place_8 (a := fun i => Int32.ofInt (tp_w1 g) * a i + Int32.ofInt (tp_w2 g) * b i) hr h8, tp_place_lin (a := a) (b := b) (c := Int32.ofInt (tp_w1 g)) (d := Int32.ofInt (tp_w2 g)) (fun i _ => rfl)]
  rw [show Int32.ofInt 536870912 = tp_E from rfl]
  grind
