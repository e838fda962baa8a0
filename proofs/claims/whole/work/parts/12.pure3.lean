/-! pure part 3: rows and places, the way back, the sign of a sum, what gates give. No machine in it. -/
def tp_E : Int32 := 536870912
/-- the place of a row under the key for rows -/
def tp_place (κ row : Nat → Int32) : Int32 := row 8 - tp_sum 8 (fun i => row i * κ i)
theorem tp_place_lin {κ r a b : Nat → Int32} {c d : Int32} (h : ∀ i, i < 9 → r i = c * a i + d * b i) : tp_place κ r = c * tp_place κ a + d * tp_place κ b := by
  unfold tp_place
  rw [h 8 (by decide), tp_sum_congr (g := fun i => c * (a i * κ i) + d * (b i * κ i)) (fun i hi => by rw [h i (by omega)]; grind), tp_sum_add, tp_sum_mul, tp_sum_mul]
  grind
theorem tp_place_congr {κ r a : Nat → Int32} (h : ∀ i, i < 9 → r i = a i) : tp_place κ r = tp_place κ a := by
  unfold tp_place
  rw [h 8 (by decide), tp_sum_congr (g := fun i => a i * κ i) (fun i hi => by rw [h i (by omega)])]
/-- the number behind the mask counts as it is -/
theorem tp_place_8 {κ r a : Nat → Int32} {x : Int32} (h : ∀ i, i < 8 → r i = a i) (h8 : r 8 = a 8 + x) : tp_place κ r = tp_place κ a + x := by
  unfold tp_place
  rw [h8, tp_sum_congr (g := fun i => a i * κ i) (fun i hi => by rw [h i hi])]
  grind
def tp_pl (v : Bool) : Int32 := if v then tp_E else - tp_E
/-- the row lies within 'bd' of the place of v -/
def tp_near (κ row : Nat → Int32) (v : Bool) (bd : Nat) : Prop := tp_sm bd (tp_place κ row - tp_pl v)
theorem tp_near_mono {κ row : Nat → Int32} {v : Bool} {a b : Nat} (h : tp_near κ row v a) (hab : a ≤ b) : tp_near κ row v b := tp_sm_mono h hab
theorem tp_near_congr {κ r a : Nat → Int32} {v : Bool} {bd : Nat} (h : tp_near κ a v bd) (e : ∀ i, i < 9 → r i = a i) : tp_near κ r v bd := by
  unfold tp_near at *
  rw [tp_place_congr e]
  exact h
theorem tp_near_not {κ r a : Nat → Int32} {v : Bool} {bd : Nat} (h : tp_near κ a v bd) (e : ∀ i, i < 9 → r i = a i * (-1)) : tp_near κ r (!v) bd := by
  unfold tp_near at *
  rw [tp_place_lin (a := a) (b := a) (c := -1) (d := 0) (fun i hi => by rw [e i hi]; grind)]
  have e2 : -1 * tp_place κ a + 0 * tp_place κ a - tp_pl (!v) = - (tp_place κ a - tp_pl v) := by
    cases v
    · show -1 * tp_place κ a + 0 * tp_place κ a - tp_E = - (tp_place κ a - - tp_E)
      grind
    · show -1 * tp_place κ a + 0 * tp_place κ a - - tp_E = - (tp_place κ a - tp_E)
      grind
  rw [e2]
  exact tp_sm_neg h
theorem tp_near_add {κ r a z : Nat → Int32} {v : Bool} {bd n : Nat} (h : tp_near κ a v bd) (hz : tp_sm n (tp_place κ z)) (e : ∀ i, i < 9 → r i = a i + z i) : tp_near κ r v (bd + n) := by
  unfold tp_near at *
  rw [tp_place_lin (a := a) (b := z) (c := 1) (d := 1) (fun i hi => by rw [e i hi]; grind)]
  have e2 : 1 * tp_place κ a + 1 * tp_place κ z - tp_pl v = tp_place κ a - tp_pl v + tp_place κ z := by grind
  rw [e2]
  exact tp_sm_add h hz
theorem tp_near_pile {κ r a : Nat → Int32} {v : Bool} {bd k : Nat} (h : tp_near κ a v bd) (e : ∀ i, i < 9 → r i = a i * Int32.ofInt ((8 * k + 1 : Nat) : Int)) : tp_near κ r v (bd * (8 * k + 1)) := by
  unfold tp_near at *
  have hc : Int32.ofInt ((8 * k + 1 : Nat) : Int) = 8 * Int32.ofInt (k : Int) + 1 := by
    have e0 : ((8 * k + 1 : Nat) : Int) = 8 * (k : Int) + 1 := by omega
    rw [e0, Int32.ofInt_add, Int32.ofInt_mul]
    rfl
  rw [tp_place_lin (a := a) (b := a) (c := Int32.ofInt ((8 * k + 1 : Nat) : Int)) (d := 0) (fun i hi => by rw [e i hi]; grind)]
  have e1 : Int32.ofInt ((8 * k + 1 : Nat) : Int) * tp_pl v = tp_pl v := by
    have e8 : (8 : Int32) * tp_E = 0 := by decide
    rw [hc]
    cases v
    · show (8 * Int32.ofInt (k : Int) + 1) * - tp_E = - tp_E
      have : (8 * Int32.ofInt (k : Int) + 1) * - tp_E = - (Int32.ofInt (k : Int) * (8 * tp_E)) + - tp_E := by grind
      rw [this, e8]
      grind
    · show (8 * Int32.ofInt (k : Int) + 1) * tp_E = tp_E
      have : (8 * Int32.ofInt (k : Int) + 1) * tp_E = Int32.ofInt (k : Int) * (8 * tp_E) + tp_E := by grind
      rw [this, e8]
      grind
  have e2 : Int32.ofInt ((8 * k + 1 : Nat) : Int) * tp_place κ a + 0 * tp_place κ a - tp_pl v = (tp_place κ a - tp_pl v) * Int32.ofInt ((8 * k + 1 : Nat) : Int) := by
    have : Int32.ofInt ((8 * k + 1 : Nat) : Int) * tp_place κ a + 0 * tp_place κ a - tp_pl v = Int32.ofInt ((8 * k + 1 : Nat) : Int) * tp_place κ a - Int32.ofInt ((8 * k + 1 : Nat) : Int) * tp_pl v := by rw [e1]; grind
    rw [this]
    grind
  rw [e2]
  exact tp_sm_mul h ⟨_, by omega, rfl⟩
/-- the number of a small distance, read with its sign -/
theorem tp_sm_read {n : Nat} {x : Int32} (h : tp_sm n x) (hn : n < 2147483648) : - (n : Int) ≤ x.toInt ∧ x.toInt ≤ n := by
  obtain ⟨z, h1, rfl⟩ := h
  rw [Int32.toInt_ofInt_of_le (by omega) (by omega)]
  omega
theorem tp_E_of : tp_E = Int32.ofInt 536870912 := rfl
/-- what open reads -/
theorem tp_near_open {κ row : Nat → Int32} {v : Bool} {bd : Nat} (h : tp_near κ row v bd) (hb : bd < 536870912) : 0 < (tp_place κ row).toInt ↔ v = true := by
  obtain ⟨z, h1, h2⟩ := h
  cases v
  · have e : tp_place κ row = Int32.ofInt (z + -536870912) := by
      rw [Int32.ofInt_add, ← h2]
      show _ = tp_place κ row - - tp_E + Int32.ofInt (-536870912)
      rw [show Int32.ofInt (-536870912) = - tp_E from rfl]
      grind
    rw [e, Int32.toInt_ofInt_of_le (by omega) (by omega)]
    constructor
    · intro q; omega
    · intro q; cases q
  · have e : tp_place κ row = Int32.ofInt (z + 536870912) := by
      rw [Int32.ofInt_add, ← h2]
      show _ = tp_place κ row - tp_E + Int32.ofInt 536870912
      rw [show Int32.ofInt 536870912 = tp_E from rfl]
      grind
    rw [e, Int32.toInt_ofInt_of_le (by omega) (by omega)]
    constructor
    · intro _; rfl
    · intro _; omega
/-- a number's place of 64, by its 32 bits read without a sign -/
def tp_rd (x : Int32) : Nat := (x + 33554432).toBitVec.toNat / 67108864
theorem tp_rd_lt (x : Int32) : tp_rd x < 64 := by
  have := (x + 33554432).toBitVec.isLt
  unfold tp_rd
  omega
theorem tp_rd_sm (x : Int32) : tp_sm 33554432 (Int32.ofInt (67108864 * (tp_rd x : Int)) - x) := by
  have hy := (x + 33554432).toBitVec.isLt
  have e : Int32.ofInt ((x + 33554432).toBitVec.toNat : Int) = x + 33554432 := tp_un (x + 33554432)
  unfold tp_rd
  generalize (x + 33554432).toBitVec.toNat = y at hy e ⊢
  refine ⟨67108864 * ((y / 67108864 : Nat) : Int) - (y : Int) + 33554432, by omega, ?_⟩
  rw [Int32.ofInt_add, Int32.ofInt_sub, e]
  rw [show Int32.ofInt 33554432 = 33554432 from rfl]
  grind
def tp_sumZ : Nat → (Nat → Int) → Int
  | 0, _ => 0
  | n + 1, f => tp_sumZ n f + f n
theorem tp_sumZ_of (n : Nat) (f : Nat → Int) : Int32.ofInt (tp_sumZ n f) = tp_sum n (fun i => Int32.ofInt (f i)) := by
  induction n with
  | zero => rfl
  | succ n ih => rw [tp_sumZ, Int32.ofInt_add, ih, tp_sum_s]
/-- the turn that the steps make in all -/
def tp_turn (κ row : Nat → Int32) (n : Nat) : Int := tp_sumZ n (fun i => if κ i = 1 then (tp_rd (row i) : Int) else 0)
theorem tp_round {κ row : Nat → Int32} (hκ : ∀ i, i < 8 → tp_bit (κ i)) : tp_sm 301989888 (Int32.ofInt (67108864 * ((tp_rd (row 8) : Int) - tp_turn κ row 8)) - tp_place κ row) := by
  have h8 := tp_rd_sm (row 8)
  have hs : tp_sm (8 * 33554432) (tp_sum 8 (fun i => κ i * (Int32.ofInt (67108864 * (tp_rd (row i) : Int)) - row i))) := tp_sm_sum (fun i hi => tp_sm_mono (tp_sm_mul (tp_bit_sm (hκ i hi)) (tp_rd_sm (row i))) (by decide))
  have e : Int32.ofInt (67108864 * ((tp_rd (row 8) : Int) - tp_turn κ row 8)) - tp_place κ row = (Int32.ofInt (67108864 * (tp_rd (row 8) : Int)) - row 8) - tp_sum 8 (fun i => κ i * (Int32.ofInt (67108864 * (tp_rd (row i) : Int)) - row i)) := by
    have e1 : Int32.ofInt (67108864 * ((tp_rd (row 8) : Int) - tp_turn κ row 8)) = Int32.ofInt (67108864 * (tp_rd (row 8) : Int)) - tp_sum 8 (fun i => κ i * Int32.ofInt (67108864 * (tp_rd (row i) : Int))) := by
      rw [Int.mul_sub, Int32.ofInt_sub]
      refine congrArg (fun z => Int32.ofInt (67108864 * (tp_rd (row 8) : Int)) - z) ?_
      unfold tp_turn
      rw [Int32.ofInt_mul, tp_sumZ_of, ← tp_sum_mul]
      refine tp_sum_congr (fun i hi => ?_)
      rcases hκ i hi with h | h
      · rw [h, if_neg (by decide), show Int32.ofInt 0 = 0 from rfl]
        grind
      · rw [h, if_pos rfl, Int32.ofInt_mul]
        grind
    rw [e1]
    unfold tp_place
    rw [tp_sum_congr (f := fun i => κ i * (Int32.ofInt (67108864 * (tp_rd (row i) : Int)) - row i)) (g := fun i => κ i * Int32.ofInt (67108864 * (tp_rd (row i) : Int)) - row i * κ i) (fun i _ => by grind), tp_sum_sub]
    grind
  rw [e]
  exact tp_sm_mono (tp_sm_sub h8 hs) (by decide)
/-- the wheel at its start, as a function on all turns -/
def tp_w0 (back : Int) (k : Int) : Int32 := if (k + back) % 64 < 32 then tp_E else - tp_E
theorem tp_start {s wa wb : Nat → Int32} {back : Int} (ha : ∀ i, i < 32 → wa i = 0) (hb : ∀ i : Nat, i < 32 → wb i = tp_w0 back i) (k : Int) : tp_ph s wa wb k = tp_w0 back k := by
  have z : ∀ k : Int, tp_ext wa k = 0 := by
    intro k
    unfold tp_ext
    by_cases h1 : k % 64 < 32
    · rw [if_pos h1, ha _ (by omega)]
    · rw [if_neg h1, ha _ (by omega)]; decide
  have e : tp_ext wb k = tp_w0 back k := by
    refine tp_ext_all ?_ hb ?_ k
    · intro k
      unfold tp_w0
      by_cases h : (k + back) % 64 < 32
      · rw [if_pos h, if_neg (by omega)]
      · rw [if_neg h, if_pos (by omega)]
        grind
    · intro k j h
      unfold tp_w0
      rw [show (k + back) % 64 = (j + back) % 64 by omega]
  unfold tp_ph
  rw [e, tp_sum_congr (g := fun _ => 0) (fun i _ => by rw [z]; grind), tp_sum_zero]
  grind
/-- the sign of what was turned is the sign of the row's place -/
theorem tp_sign {κ row : Nat → Int32} (hκ : ∀ i, i < 8 → tp_bit (κ i)) {p : Int} {v : Bool} (hp : tp_place κ row = Int32.ofInt p)
    (h : if v then 301989888 ≤ p ∧ p < 1845493760 else p < -301989888 ∧ -1845493760 ≤ p) : tp_w0 (tp_rd (row 8)) (0 - tp_turn κ row 8) = tp_pl v := by
  obtain ⟨z, h1, h2⟩ := tp_round (row := row) hκ
  rw [hp, ← Int32.ofInt_sub] at h2
  have h3 := congrArg Int32.toInt h2
  rw [Int32.toInt_ofInt, Int32.toInt_ofInt, show Int32.size = 4294967296 from rfl] at h3
  have h4 : (67108864 * ((tp_rd (row 8) : Int) - tp_turn κ row 8) - p) % 4294967296 = z % 4294967296 := by
    have key : ∀ x : Int, x.bmod 4294967296 % 4294967296 = x % 4294967296 := fun x => Int.bmod_emod (x := x) (m := 4294967296)
    have h5 := congrArg (fun x : Int => x % 4294967296) h3
    simp only [key] at h5
    exact h5
  unfold tp_w0
  generalize (tp_rd (row 8) : Int) = a at h4 ⊢
  generalize tp_turn κ row 8 = b at h4 ⊢
  cases v
  · simp only [Bool.false_eq_true, if_false] at h
    rw [if_neg (by omega)]
    rfl
  · simp only [if_true] at h
    rw [if_pos (by omega)]
    rfl
/-- the way back: a row under the key for rows, of the wheel's first number -/
theorem tp_back {s κ wa wb : Nat → Int32} {r : Nat → Int32} {pb : Nat → Nat → Int32} (hs : ∀ i, i < 32 → tp_bit (s i))
    (hpb : ∀ i w, i < 32 → w < 2 → tp_sm 4 (tp_place κ (pb (2 * i + w)) - s i * tp_W w))
    (hr : tp_place κ r = wb 0 - tp_sum 32 (fun i => tp_dg 0 (tp_ext wa (0 - (i : Int))) * tp_place κ (pb (2 * i)) + tp_dg 1 (tp_ext wa (0 - (i : Int))) * tp_place κ (pb (2 * i + 1)))) :
    tp_sm 196608 (tp_place κ r - tp_ph s wa wb 0) := by
  have e : tp_place κ r - tp_ph s wa wb 0 = tp_sum 32 (fun i => s i * tp_rs (tp_ext wa (0 - (i : Int))) - (tp_dg 0 (tp_ext wa (0 - (i : Int))) * (tp_place κ (pb (2 * i)) - s i * tp_W 0) + tp_dg 1 (tp_ext wa (0 - (i : Int))) * (tp_place κ (pb (2 * i + 1)) - s i * tp_W 1))) := by
    rw [hr]
    unfold tp_ph
    have e0 : tp_ext wb 0 = wb 0 := tp_ext_lt (f := wb) (i := 0) (by decide)
    rw [e0]
    have e1 : ∀ A B C : Int32, A - B - (A - C) = C - B := by intro A B C; grind
    rw [e1, ← tp_sum_sub]
    refine tp_sum_congr (fun i _ => ?_)
    have e2 := tp_dg_sum (tp_ext wa (0 - (i : Int)))
    generalize tp_ext wa (0 - (i : Int)) = x at e2 ⊢
    generalize tp_place κ (pb (2 * i)) = A
    generalize tp_place κ (pb (2 * i + 1)) = B
    generalize tp_dg 0 x = d0 at e2 ⊢
    generalize tp_dg 1 x = d1 at e2 ⊢
    generalize tp_rs x = r0 at e2 ⊢
    generalize tp_W 0 = w0 at e2 ⊢
    generalize tp_W 1 = w1 at e2 ⊢
    rw [← e2]
    grind
  rw [e]
  refine tp_sm_mono (tp_sm_sum (n := 32) (c := 6144) (fun i hi => ?_)) (by decide)
  refine tp_sm_mono (tp_sm_sub (tp_sm_mul (tp_bit_sm (hs i hi)) (tp_rs_sm _)) (tp_sm_add (tp_sm_mul (tp_dg_sm 0 _) (hpb i 0 hi (by decide))) (tp_sm_mul (tp_dg_sm 1 _) (hpb i 1 hi (by decide))))) (by decide)
