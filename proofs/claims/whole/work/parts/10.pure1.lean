/-! pure part 1: sums over Int32, small numbers, turned polynomials, phases. No machine in it. -/
def tp_sum : Nat → (Nat → Int32) → Int32
  | 0, _ => 0
  | n + 1, f => tp_sum n f + f n
theorem tp_sum_0 (f : Nat → Int32) : tp_sum 0 f = 0 := rfl
theorem tp_sum_s (n : Nat) (f : Nat → Int32) : tp_sum (n + 1) f = tp_sum n f + f n := rfl
theorem tp_sum_congr {n : Nat} {f g : Nat → Int32} (h : ∀ i, i < n → f i = g i) : tp_sum n f = tp_sum n g := by
  induction n with
  | zero => rfl
  | succ n ih =>
    rw [tp_sum_s, tp_sum_s, ih (fun i hi => h i (by omega)), h n (by omega)]
theorem tp_sum_zero (n : Nat) : tp_sum n (fun _ => 0) = 0 := by
  induction n with
  | zero => rfl
  | succ n ih => rw [tp_sum_s, ih]; rfl
theorem tp_sum_add (n : Nat) (f g : Nat → Int32) : tp_sum n (fun i => f i + g i) = tp_sum n f + tp_sum n g := by
  induction n with
  | zero => rfl
  | succ n ih => rw [tp_sum_s, tp_sum_s, tp_sum_s, ih]; grind
theorem tp_sum_mul (n : Nat) (c : Int32) (f : Nat → Int32) : tp_sum n (fun i => c * f i) = c * tp_sum n f := by
  induction n with
  | zero => rw [tp_sum_0, tp_sum_0]; grind
  | succ n ih => rw [tp_sum_s, tp_sum_s, ih]; grind
theorem tp_sum_neg (n : Nat) (f : Nat → Int32) : tp_sum n (fun i => - f i) = - tp_sum n f := by
  induction n with
  | zero => rw [tp_sum_0, tp_sum_0]; decide
  | succ n ih => rw [tp_sum_s, tp_sum_s, ih]; grind
theorem tp_sum_sub (n : Nat) (f g : Nat → Int32) : tp_sum n (fun i => f i - g i) = tp_sum n f - tp_sum n g := by
  induction n with
  | zero => rw [tp_sum_0, tp_sum_0, tp_sum_0]; decide
  | succ n ih => rw [tp_sum_s, tp_sum_s, tp_sum_s, ih]; grind
theorem tp_sum_swap (n m : Nat) (f : Nat → Nat → Int32) : tp_sum n (fun i => tp_sum m (fun j => f i j)) = tp_sum m (fun j => tp_sum n (fun i => f i j)) := by
  induction n with
  | zero => rw [tp_sum_0]; exact (tp_sum_zero m).symm
  | succ n ih =>
    rw [tp_sum_s, ih, ← tp_sum_add]
    exact tp_sum_congr (fun i _ => (tp_sum_s n _).symm)
theorem tp_sum_one {n k : Nat} (hk : k < n) (f : Nat → Int32) (h : ∀ i, i < n → i ≠ k → f i = 0) : tp_sum n f = f k := by
  induction n with
  | zero => omega
  | succ n ih =>
    rw [tp_sum_s]
    by_cases hn : k = n
    · subst hn
      rw [tp_sum_congr (g := fun _ => 0) (fun i hi => h i (by omega) (by omega)), tp_sum_zero]
      grind
    · rw [ih (by omega) (fun i hi hne => h i (by omega) hne), h n (by omega) (fun e => hn e.symm)]
      grind
/-- x is a number of at most n, up to the torus -/
def tp_sm (n : Nat) (x : Int32) : Prop := ∃ z : Int, z.natAbs ≤ n ∧ x = Int32.ofInt z
theorem tp_sm_0 : tp_sm 0 0 := ⟨0, by decide, rfl⟩
theorem tp_sm_mono {a b : Nat} {x : Int32} (h : tp_sm a x) (hab : a ≤ b) : tp_sm b x := by
  obtain ⟨z, h1, h2⟩ := h
  exact ⟨z, by omega, h2⟩
theorem tp_sm_add {a b : Nat} {x y : Int32} (h1 : tp_sm a x) (h2 : tp_sm b y) : tp_sm (a + b) (x + y) := by
  obtain ⟨z, h3, rfl⟩ := h1
  obtain ⟨w, h4, rfl⟩ := h2
  exact ⟨z + w, by omega, (Int32.ofInt_add z w).symm⟩
theorem tp_sm_sub {a b : Nat} {x y : Int32} (h1 : tp_sm a x) (h2 : tp_sm b y) : tp_sm (a + b) (x - y) := by
  obtain ⟨z, h3, rfl⟩ := h1
  obtain ⟨w, h4, rfl⟩ := h2
  exact ⟨z - w, by omega, (Int32.ofInt_sub z w).symm⟩
theorem tp_sm_neg {a : Nat} {x : Int32} (h1 : tp_sm a x) : tp_sm a (-x) := by
  obtain ⟨z, h3, rfl⟩ := h1
  exact ⟨-z, by omega, (Int32.ofInt_neg z).symm⟩
theorem tp_sm_mul {a b : Nat} {x y : Int32} (h1 : tp_sm a x) (h2 : tp_sm b y) : tp_sm (a * b) (x * y) := by
  obtain ⟨z, h3, rfl⟩ := h1
  obtain ⟨w, h4, rfl⟩ := h2
  exact ⟨z * w, by rw [Int.natAbs_mul]; exact Nat.mul_le_mul h3 h4, (Int32.ofInt_mul z w).symm⟩
theorem tp_sm_sum {n c : Nat} {f : Nat → Int32} (h : ∀ i, i < n → tp_sm c (f i)) : tp_sm (n * c) (tp_sum n f) := by
  induction n with
  | zero => rw [Nat.zero_mul]; exact tp_sm_0
  | succ n ih =>
    rw [Nat.succ_mul, tp_sum_s]
    exact tp_sm_add (ih (fun i hi => h i (by omega))) (h n (by omega))
theorem tp_sm_toInt {n : Nat} {x : Int32} (h1 : - (n : Int) ≤ x.toInt) (h2 : x.toInt ≤ n) : tp_sm n x := ⟨x.toInt, by omega, (Int32.ofInt_toInt x).symm⟩
/-- a bit of a key -/
def tp_bit (x : Int32) : Prop := x = 0 ∨ x = 1
theorem tp_bit_sm {x : Int32} (h : tp_bit x) : tp_sm 1 x := by
  rcases h with rfl | rfl
  · exact ⟨0, by decide, rfl⟩
  · exact ⟨1, by decide, rfl⟩
/-- 32 numbers as a function on all turns: turned once round (32 steps) it changes its sign -/
def tp_ext (f : Nat → Int32) (k : Int) : Int32 := if k % 64 < 32 then f (k % 64).toNat else - f (k % 64 - 32).toNat
theorem tp_ext_mod {f : Nat → Int32} {k j : Int} (h : k % 64 = j % 64) : tp_ext f k = tp_ext f j := by
  unfold tp_ext
  rw [h]
theorem tp_ext_lt {f : Nat → Int32} {i : Nat} (h : i < 32) : tp_ext f i = f i := by
  have h1 : (i : Int) % 64 = i := by omega
  unfold tp_ext
  rw [h1, if_pos (by omega), Int.toNat_natCast]
theorem tp_ext_32 (f : Nat → Int32) (k : Int) : tp_ext f (k + 32) = - tp_ext f k := by
  unfold tp_ext
  by_cases h : k % 64 < 32
  · have h1 : (k + 32) % 64 = k % 64 + 32 := by omega
    rw [h1, if_neg (by omega), if_pos h]
    congr 2
    omega
  · have h1 : (k + 32) % 64 = k % 64 - 32 := by omega
    rw [h1, if_pos (by omega), if_neg h]
    grind
theorem tp_ext_congr {f g : Nat → Int32} (h : ∀ i, i < 32 → f i = g i) (k : Int) : tp_ext f k = tp_ext g k := by
  unfold tp_ext
  by_cases h1 : k % 64 < 32
  · rw [if_pos h1, if_pos h1, h _ (by omega)]
  · rw [if_neg h1, if_neg h1, h _ (by omega)]
/-- what is so at 32 places is so at all turns -/
theorem tp_ext_all {f : Nat → Int32} {g : Int → Int32} (hg : ∀ k, g (k + 32) = - g k) (h : ∀ i : Nat, i < 32 → f i = g i) (hm : ∀ k j : Int, k % 64 = j % 64 → g k = g j) (k : Int) : tp_ext f k = g k := by
  unfold tp_ext
  by_cases h1 : k % 64 < 32
  · rw [if_pos h1, h _ (by omega)]
    exact hm _ _ (by omega)
  · rw [if_neg h1, h _ (by omega), ← hg]
    exact hm _ _ (by omega)
theorem tp_ext_add {f f' g : Nat → Int32} {c : Int32} {t : Int} (h : ∀ i : Nat, i < 32 → f' i = f i + c * tp_ext g ((i : Int) - t)) (k : Int) : tp_ext f' k = tp_ext f k + c * tp_ext g (k - t) := by
  refine tp_ext_all (f := f') (g := fun k => tp_ext f k + c * tp_ext g (k - t)) ?_ ?_ ?_ k
  · intro k
    show tp_ext f (k + 32) + c * tp_ext g (k + 32 - t) = - (tp_ext f k + c * tp_ext g (k - t))
    have e : k + 32 - t = k - t + 32 := by omega
    rw [e, tp_ext_32, tp_ext_32]
    grind
  · intro i hi
    show f' i = tp_ext f i + c * tp_ext g ((i : Int) - t)
    rw [h i hi, tp_ext_lt hi]
  · intro k j hkj
    show tp_ext f k + c * tp_ext g (k - t) = tp_ext f j + c * tp_ext g (j - t)
    rw [tp_ext_mod hkj, tp_ext_mod (k := k - t) (j := j - t) (by omega)]
theorem tp_ext_lin {f g h : Nat → Int32} {c d : Int32} (e : ∀ i : Nat, i < 32 → h i = c * f i + d * g i) (k : Int) : tp_ext h k = c * tp_ext f k + d * tp_ext g k := by
  unfold tp_ext
  by_cases h1 : k % 64 < 32
  · rw [if_pos h1, if_pos h1, if_pos h1, e _ (by omega)]
  · rw [if_neg h1, if_neg h1, if_neg h1, e _ (by omega)]
    grind
theorem tp_ext_sm {f : Nat → Int32} {n : Nat} (h : ∀ i, i < 32 → tp_sm n (f i)) (k : Int) : tp_sm n (tp_ext f k) := by
  unfold tp_ext
  by_cases h1 : k % 64 < 32
  · rw [if_pos h1]; exact h _ (by omega)
  · rw [if_neg h1]; exact tp_sm_neg (h _ (by omega))
/-- the 1 of the ring -/
def tp_one (i : Nat) : Int32 := if i = 0 then 1 else 0
/-- 32 numbers are the sum of their places -/
theorem tp_ext_sum (d : Nat → Int32) (k : Int) : tp_sum 32 (fun t => d t * tp_ext tp_one (k - (t : Int))) = tp_ext d k := by
  refine (tp_ext_all (f := d) (g := fun k => tp_sum 32 (fun t => d t * tp_ext tp_one (k - (t : Int)))) ?_ ?_ ?_ k).symm
  · intro k
    show tp_sum 32 (fun t => d t * tp_ext tp_one (k + 32 - (t : Int))) = - tp_sum 32 (fun t => d t * tp_ext tp_one (k - (t : Int)))
    rw [← tp_sum_neg]
    refine tp_sum_congr (fun t _ => ?_)
    have e : k + 32 - (t : Int) = k - t + 32 := by omega
    rw [e, tp_ext_32]
    grind
  · intro i hi
    show d i = tp_sum 32 (fun t => d t * tp_ext tp_one ((i : Int) - (t : Int)))
    rw [tp_sum_one hi]
    · have e : (i : Int) - i = ((0 : Nat) : Int) := by omega
      rw [e, tp_ext_lt (by omega)]
      show d i = d i * 1
      grind
    · intro t ht hne
      have h0 : tp_ext tp_one ((i : Int) - t) = 0 := by
        unfold tp_ext tp_one
        by_cases h1 : ((i : Int) - t) % 64 < 32
        · rw [if_pos h1, if_neg (by omega)]
        · rw [if_neg h1, if_neg (by omega)]; rfl
      rw [h0]
      grind
  · intro k j hkj
    exact tp_sum_congr (fun t _ => by rw [tp_ext_mod (k := k - t) (j := j - t) (by omega)])
/-- the phase of a pair under the ring's key s -/
def tp_ph (s a b : Nat → Int32) (k : Int) : Int32 := tp_ext b k - tp_sum 32 (fun i => s i * tp_ext a (k - (i : Int)))
theorem tp_ph_mod {s a b : Nat → Int32} {k j : Int} (h : k % 64 = j % 64) : tp_ph s a b k = tp_ph s a b j := by
  unfold tp_ph
  rw [tp_ext_mod h]
  exact congrArg (fun z => tp_ext b j - z) (tp_sum_congr (fun i _ => by rw [tp_ext_mod (k := k - i) (j := j - i) (by omega)]))
theorem tp_ph_32 (s a b : Nat → Int32) (k : Int) : tp_ph s a b (k + 32) = - tp_ph s a b k := by
  unfold tp_ph
  have e : tp_sum 32 (fun i => s i * tp_ext a (k + 32 - (i : Int))) = - tp_sum 32 (fun i => s i * tp_ext a (k - (i : Int))) := by
    rw [← tp_sum_neg]
    refine tp_sum_congr (fun i _ => ?_)
    have e : k + 32 - (i : Int) = k - i + 32 := by omega
    rw [e, tp_ext_32]
    grind
  rw [e, tp_ext_32]
  grind
theorem tp_ph_add {s a b a' b' sa sb : Nat → Int32} {c : Int32} {t : Int} (ha : ∀ i : Nat, i < 32 → a' i = a i + c * tp_ext sa ((i : Int) - t)) (hb : ∀ i : Nat, i < 32 → b' i = b i + c * tp_ext sb ((i : Int) - t)) (k : Int) :
    tp_ph s a' b' k = tp_ph s a b k + c * tp_ph s sa sb (k - t) := by
  unfold tp_ph
  have e : tp_sum 32 (fun i => s i * tp_ext a' (k - (i : Int))) = tp_sum 32 (fun i => s i * tp_ext a (k - (i : Int))) + c * tp_sum 32 (fun i => s i * tp_ext sa (k - t - (i : Int))) := by
    rw [← tp_sum_mul, ← tp_sum_add]
    refine tp_sum_congr (fun i _ => ?_)
    have e : k - (i : Int) - t = k - t - i := by omega
    rw [tp_ext_add ha (k - i), e]
    grind
  rw [e, tp_ext_add hb k]
  grind
theorem tp_ph_congr {s a b a' b' : Nat → Int32} (ha : ∀ i : Nat, i < 32 → a' i = a i) (hb : ∀ i : Nat, i < 32 → b' i = b i) (k : Int) : tp_ph s a' b' k = tp_ph s a b k := by
  unfold tp_ph
  rw [tp_ext_congr hb]
  exact congrArg (fun z => tp_ext b k - z) (tp_sum_congr (fun i _ => by rw [tp_ext_congr ha]))
