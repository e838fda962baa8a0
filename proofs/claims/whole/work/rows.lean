section
/-! pure part 1: sums over Int32, small numbers, turned polynomials, phases. No machine in it. -/
def tp_sum : Nat → (Nat → Int32) → Int32
  | 0, _ => 0
  | n + 1, f => tp_sum n f + f n
theorem tp_sum_0 (f : Nat → Int32) : tp_sum 0 f = 0 := rfl
theorem tp_sum_s (n : Nat) (f : Nat → Int32) : tp_sum (n + 1) f = tp_sum n f + f n := rfl
theorem tp_sum_congr {n : Nat} {f g : Nat → Int32} (h : ∀ i, i < n → f i = g i) : tp_sum n f = tp_sum n g := by
  induction n with
  | zero => rfl
  | succ n ih =>
    rw [tp_sum_s, tp_sum_s, ih (fun i hi => h i (by omega)), h n (by omega)]
theorem tp_sum_zero (n : Nat) : tp_sum n (fun _ => 0) = 0 := by
  induction n with
  | zero => rfl
  | succ n ih => rw [tp_sum_s, ih]; rfl
theorem tp_sum_add (n : Nat) (f g : Nat → Int32) : tp_sum n (fun i => f i + g i) = tp_sum n f + tp_sum n g := by
  induction n with
  | zero => rfl
  | succ n ih => rw [tp_sum_s, tp_sum_s, tp_sum_s, ih]; grind
theorem tp_sum_mul (n : Nat) (c : Int32) (f : Nat → Int32) : tp_sum n (fun i => c * f i) = c * tp_sum n f := by
  induction n with
  | zero => rw [tp_sum_0, tp_sum_0]; grind
  | succ n ih => rw [tp_sum_s, tp_sum_s, ih]; grind
theorem tp_sum_neg (n : Nat) (f : Nat → Int32) : tp_sum n (fun i => - f i) = - tp_sum n f := by
  induction n with
  | zero => rw [tp_sum_0, tp_sum_0]; decide
  | succ n ih => rw [tp_sum_s, tp_sum_s, ih]; grind
theorem tp_sum_sub (n : Nat) (f g : Nat → Int32) : tp_sum n (fun i => f i - g i) = tp_sum n f - tp_sum n g := by
  induction n with
  | zero => rw [tp_sum_0, tp_sum_0, tp_sum_0]; decide
  | succ n ih => rw [tp_sum_s, tp_sum_s, tp_sum_s, ih]; grind
theorem tp_sum_swap (n m : Nat) (f : Nat → Nat → Int32) : tp_sum n (fun i => tp_sum m (fun j => f i j)) = tp_sum m (fun j => tp_sum n (fun i => f i j)) := by
  induction n with
  | zero => rw [tp_sum_0]; exact (tp_sum_zero m).symm
  | succ n ih =>
    rw [tp_sum_s, ih, ← tp_sum_add]
    exact tp_sum_congr (fun i _ => (tp_sum_s n _).symm)
theorem tp_sum_one {n k : Nat} (hk : k < n) (f : Nat → Int32) (h : ∀ i, i < n → i ≠ k → f i = 0) : tp_sum n f = f k := by
  induction n with
  | zero => omega
  | succ n ih =>
    rw [tp_sum_s]
    by_cases hn : k = n
    · subst hn
      rw [tp_sum_congr (g := fun _ => 0) (fun i hi => h i (by omega) (by omega)), tp_sum_zero]
      grind
    · rw [ih (by omega) (fun i hi hne => h i (by omega) hne), h n (by omega) (fun e => hn e.symm)]
      grind
/-- x is a number of at most n, up to the torus -/
def tp_sm (n : Nat) (x : Int32) : Prop := ∃ z : Int, z.natAbs ≤ n ∧ x = Int32.ofInt z
theorem tp_sm_0 : tp_sm 0 0 := ⟨0, by decide, rfl⟩
theorem tp_sm_mono {a b : Nat} {x : Int32} (h : tp_sm a x) (hab : a ≤ b) : tp_sm b x := by
  obtain ⟨z, h1, h2⟩ := h
  exact ⟨z, by omega, h2⟩
theorem tp_sm_add {a b : Nat} {x y : Int32} (h1 : tp_sm a x) (h2 : tp_sm b y) : tp_sm (a + b) (x + y) := by
  obtain ⟨z, h3, rfl⟩ := h1
  obtain ⟨w, h4, rfl⟩ := h2
  exact ⟨z + w, by omega, (Int32.ofInt_add z w).symm⟩
theorem tp_sm_sub {a b : Nat} {x y : Int32} (h1 : tp_sm a x) (h2 : tp_sm b y) : tp_sm (a + b) (x - y) := by
  obtain ⟨z, h3, rfl⟩ := h1
  obtain ⟨w, h4, rfl⟩ := h2
  exact ⟨z - w, by omega, (Int32.ofInt_sub z w).symm⟩
theorem tp_sm_neg {a : Nat} {x : Int32} (h1 : tp_sm a x) : tp_sm a (-x) := by
  obtain ⟨z, h3, rfl⟩ := h1
  exact ⟨-z, by omega, (Int32.ofInt_neg z).symm⟩
theorem tp_sm_mul {a b : Nat} {x y : Int32} (h1 : tp_sm a x) (h2 : tp_sm b y) : tp_sm (a * b) (x * y) := by
  obtain ⟨z, h3, rfl⟩ := h1
  obtain ⟨w, h4, rfl⟩ := h2
  exact ⟨z * w, by rw [Int.natAbs_mul]; exact Nat.mul_le_mul h3 h4, (Int32.ofInt_mul z w).symm⟩
theorem tp_sm_sum {n c : Nat} {f : Nat → Int32} (h : ∀ i, i < n → tp_sm c (f i)) : tp_sm (n * c) (tp_sum n f) := by
  induction n with
  | zero => rw [Nat.zero_mul]; exact tp_sm_0
  | succ n ih =>
    rw [Nat.succ_mul, tp_sum_s]
    exact tp_sm_add (ih (fun i hi => h i (by omega))) (h n (by omega))
theorem tp_sm_toInt {n : Nat} {x : Int32} (h1 : - (n : Int) ≤ x.toInt) (h2 : x.toInt ≤ n) : tp_sm n x := ⟨x.toInt, by omega, (Int32.ofInt_toInt x).symm⟩
/-- a bit of a key -/
def tp_bit (x : Int32) : Prop := x = 0 ∨ x = 1
theorem tp_bit_sm {x : Int32} (h : tp_bit x) : tp_sm 1 x := by
  rcases h with rfl | rfl
  · exact ⟨0, by decide, rfl⟩
  · exact ⟨1, by decide, rfl⟩
/-- 32 numbers as a function on all turns: turned once round (32 steps) it changes its sign -/
def tp_ext (f : Nat → Int32) (k : Int) : Int32 := if k % 64 < 32 then f (k % 64).toNat else - f (k % 64 - 32).toNat
theorem tp_ext_mod {f : Nat → Int32} {k j : Int} (h : k % 64 = j % 64) : tp_ext f k = tp_ext f j := by
  unfold tp_ext
  rw [h]
theorem tp_ext_lt {f : Nat → Int32} {i : Nat} (h : i < 32) : tp_ext f i = f i := by
  have h1 : (i : Int) % 64 = i := by omega
  unfold tp_ext
  rw [h1, if_pos (by omega), Int.toNat_natCast]
theorem tp_ext_32 (f : Nat → Int32) (k : Int) : tp_ext f (k + 32) = - tp_ext f k := by
  unfold tp_ext
  by_cases h : k % 64 < 32
  · have h1 : (k + 32) % 64 = k % 64 + 32 := by omega
    rw [h1, if_neg (by omega), if_pos h]
    congr 2
    omega
  · have h1 : (k + 32) % 64 = k % 64 - 32 := by omega
    rw [h1, if_pos (by omega), if_neg h]
    grind
theorem tp_ext_congr {f g : Nat → Int32} (h : ∀ i, i < 32 → f i = g i) (k : Int) : tp_ext f k = tp_ext g k := by
  unfold tp_ext
  by_cases h1 : k % 64 < 32
  · rw [if_pos h1, if_pos h1, h _ (by omega)]
  · rw [if_neg h1, if_neg h1, h _ (by omega)]
/-- what is so at 32 places is so at all turns -/
theorem tp_ext_all {f : Nat → Int32} {g : Int → Int32} (hg : ∀ k, g (k + 32) = - g k) (h : ∀ i : Nat, i < 32 → f i = g i) (hm : ∀ k j : Int, k % 64 = j % 64 → g k = g j) (k : Int) : tp_ext f k = g k := by
  unfold tp_ext
  by_cases h1 : k % 64 < 32
  · rw [if_pos h1, h _ (by omega)]
    exact hm _ _ (by omega)
  · rw [if_neg h1, h _ (by omega), ← hg]
    exact hm _ _ (by omega)
theorem tp_ext_add {f f' g : Nat → Int32} {c : Int32} {t : Int} (h : ∀ i : Nat, i < 32 → f' i = f i + c * tp_ext g ((i : Int) - t)) (k : Int) : tp_ext f' k = tp_ext f k + c * tp_ext g (k - t) := by
  refine tp_ext_all (f := f') (g := fun k => tp_ext f k + c * tp_ext g (k - t)) ?_ ?_ ?_ k
  · intro k
    show tp_ext f (k + 32) + c * tp_ext g (k + 32 - t) = - (tp_ext f k + c * tp_ext g (k - t))
    have e : k + 32 - t = k - t + 32 := by omega
    rw [e, tp_ext_32, tp_ext_32]
    grind
  · intro i hi
    show f' i = tp_ext f i + c * tp_ext g ((i : Int) - t)
    rw [h i hi, tp_ext_lt hi]
  · intro k j hkj
    show tp_ext f k + c * tp_ext g (k - t) = tp_ext f j + c * tp_ext g (j - t)
    rw [tp_ext_mod hkj, tp_ext_mod (k := k - t) (j := j - t) (by omega)]
theorem tp_ext_lin {f g h : Nat → Int32} {c d : Int32} (e : ∀ i : Nat, i < 32 → h i = c * f i + d * g i) (k : Int) : tp_ext h k = c * tp_ext f k + d * tp_ext g k := by
  unfold tp_ext
  by_cases h1 : k % 64 < 32
  · rw [if_pos h1, if_pos h1, if_pos h1, e _ (by omega)]
  · rw [if_neg h1, if_neg h1, if_neg h1, e _ (by omega)]
    grind
theorem tp_ext_sm {f : Nat → Int32} {n : Nat} (h : ∀ i, i < 32 → tp_sm n (f i)) (k : Int) : tp_sm n (tp_ext f k) := by
  unfold tp_ext
  by_cases h1 : k % 64 < 32
  · rw [if_pos h1]; exact h _ (by omega)
  · rw [if_neg h1]; exact tp_sm_neg (h _ (by omega))
/-- the 1 of the ring -/
def tp_one (i : Nat) : Int32 := if i = 0 then 1 else 0
/-- 32 numbers are the sum of their places -/
theorem tp_ext_sum (d : Nat → Int32) (k : Int) : tp_sum 32 (fun t => d t * tp_ext tp_one (k - (t : Int))) = tp_ext d k := by
  refine (tp_ext_all (f := d) (g := fun k => tp_sum 32 (fun t => d t * tp_ext tp_one (k - (t : Int)))) ?_ ?_ ?_ k).symm
  · intro k
    show tp_sum 32 (fun t => d t * tp_ext tp_one (k + 32 - (t : Int))) = - tp_sum 32 (fun t => d t * tp_ext tp_one (k - (t : Int)))
    rw [← tp_sum_neg]
    refine tp_sum_congr (fun t _ => ?_)
    have e : k + 32 - (t : Int) = k - t + 32 := by omega
    rw [e, tp_ext_32]
    grind
  · intro i hi
    show d i = tp_sum 32 (fun t => d t * tp_ext tp_one ((i : Int) - (t : Int)))
    rw [tp_sum_one hi]
    · have e : (i : Int) - i = ((0 : Nat) : Int) := by omega
      rw [e, tp_ext_lt (by omega)]
      show d i = d i * 1
      grind
    · intro t ht hne
      have h0 : tp_ext tp_one ((i : Int) - t) = 0 := by
        unfold tp_ext tp_one
        by_cases h1 : ((i : Int) - t) % 64 < 32
        · rw [if_pos h1, if_neg (by omega)]
        · rw [if_neg h1, if_neg (by omega)]; rfl
      rw [h0]
      grind
  · intro k j hkj
    exact tp_sum_congr (fun t _ => by rw [tp_ext_mod (k := k - t) (j := j - t) (by omega)])
/-- the phase of a pair under the ring's key s -/
def tp_ph (s a b : Nat → Int32) (k : Int) : Int32 := tp_ext b k - tp_sum 32 (fun i => s i * tp_ext a (k - (i : Int)))
theorem tp_ph_mod {s a b : Nat → Int32} {k j : Int} (h : k % 64 = j % 64) : tp_ph s a b k = tp_ph s a b j := by
  unfold tp_ph
  rw [tp_ext_mod h]
  exact congrArg (fun z => tp_ext b j - z) (tp_sum_congr (fun i _ => by rw [tp_ext_mod (k := k - i) (j := j - i) (by omega)]))
theorem tp_ph_32 (s a b : Nat → Int32) (k : Int) : tp_ph s a b (k + 32) = - tp_ph s a b k := by
  unfold tp_ph
  have e : tp_sum 32 (fun i => s i * tp_ext a (k + 32 - (i : Int))) = - tp_sum 32 (fun i => s i * tp_ext a (k - (i : Int))) := by
    rw [← tp_sum_neg]
    refine tp_sum_congr (fun i _ => ?_)
    have e : k + 32 - (i : Int) = k - i + 32 := by omega
    rw [e, tp_ext_32]
    grind
  rw [e, tp_ext_32]
  grind
theorem tp_ph_add {s a b a' b' sa sb : Nat → Int32} {c : Int32} {t : Int} (ha : ∀ i : Nat, i < 32 → a' i = a i + c * tp_ext sa ((i : Int) - t)) (hb : ∀ i : Nat, i < 32 → b' i = b i + c * tp_ext sb ((i : Int) - t)) (k : Int) :
    tp_ph s a' b' k = tp_ph s a b k + c * tp_ph s sa sb (k - t) := by
  unfold tp_ph
  have e : tp_sum 32 (fun i => s i * tp_ext a' (k - (i : Int))) = tp_sum 32 (fun i => s i * tp_ext a (k - (i : Int))) + c * tp_sum 32 (fun i => s i * tp_ext sa (k - t - (i : Int))) := by
    rw [← tp_sum_mul, ← tp_sum_add]
    refine tp_sum_congr (fun i _ => ?_)
    have e : k - (i : Int) - t = k - t - i := by omega
    rw [tp_ext_add ha (k - i), e]
    grind
  rw [e, tp_ext_add hb k]
  grind
theorem tp_ph_congr {s a b a' b' : Nat → Int32} (ha : ∀ i : Nat, i < 32 → a' i = a i) (hb : ∀ i : Nat, i < 32 → b' i = b i) (k : Int) : tp_ph s a' b' k = tp_ph s a b k := by
  unfold tp_ph
  rw [tp_ext_congr hb]
  exact congrArg (fun z => tp_ext b k - z) (tp_sum_congr (fun i _ => by rw [tp_ext_congr ha]))
end
section
/-! pure part 2: digits, help rows, a step of the wheel, the way back, the sign. No machine in it. -/
def tp_W (w : Nat) : Int32 := if w = 0 then 4194304 else 4096
/-- a number's digit and rest, by its 32 bits read without a sign after half of each range was added -/
def tp_y (x : Int32) : Nat := (x + (-2145384448)).toBitVec.toNat
def tp_dg (w : Nat) (x : Int32) : Int32 := if w = 0 then Int32.ofInt ((tp_y x / 4194304 : Nat) : Int) - 512 else Int32.ofInt ((tp_y x / 4096 % 1024 : Nat) : Int) - 512
def tp_rs (x : Int32) : Int32 := Int32.ofInt ((tp_y x % 4096 : Nat) : Int) - 2048
theorem tp_y_lt (x : Int32) : tp_y x < 4294967296 := (x + (-2145384448)).toBitVec.isLt
theorem tp_un (x : Int32) : Int32.ofInt (x.toBitVec.toNat : Int) = x := by
  rw [Int32.ofInt_eq_ofNat]
  exact Int32.toBitVec.inj (by simp)
theorem tp_y_of (x : Int32) : Int32.ofInt (tp_y x : Int) = x + (-2145384448) := tp_un (x + (-2145384448))
theorem tp_dg_sum (x : Int32) : tp_dg 0 x * tp_W 0 + tp_dg 1 x * tp_W 1 + tp_rs x = x := by
  have h1 : (tp_y x : Int) = ((tp_y x / 4194304 : Nat) : Int) * 4194304 + ((tp_y x / 4096 % 1024 : Nat) : Int) * 4096 + ((tp_y x % 4096 : Nat) : Int) := by omega
  have h2 := congrArg Int32.ofInt h1
  rw [tp_y_of, Int32.ofInt_add, Int32.ofInt_add, Int32.ofInt_mul, Int32.ofInt_mul] at h2
  have e1 : Int32.ofInt 4194304 = 4194304 := rfl
  have e2 : Int32.ofInt 4096 = 4096 := rfl
  rw [e1, e2] at h2
  show (Int32.ofInt ((tp_y x / 4194304 : Nat) : Int) - 512) * 4194304 + (Int32.ofInt ((tp_y x / 4096 % 1024 : Nat) : Int) - 512) * 4096 + (Int32.ofInt ((tp_y x % 4096 : Nat) : Int) - 2048) = x
  generalize Int32.ofInt ((tp_y x / 4194304 : Nat) : Int) = a at h2 ⊢
  generalize Int32.ofInt ((tp_y x / 4096 % 1024 : Nat) : Int) = b at h2 ⊢
  generalize Int32.ofInt ((tp_y x % 4096 : Nat) : Int) = c at h2 ⊢
  grind
theorem tp_dg_sm (w : Nat) (x : Int32) : tp_sm 512 (tp_dg w x) := by
  have hy := tp_y_lt x
  unfold tp_dg
  by_cases hw : w = 0
  · rw [if_pos hw]
    exact ⟨((tp_y x / 4194304 : Nat) : Int) - 512, by omega, by rw [Int32.ofInt_sub]; rfl⟩
  · rw [if_neg hw]
    exact ⟨((tp_y x / 4096 % 1024 : Nat) : Int) - 512, by omega, by rw [Int32.ofInt_sub]; rfl⟩
theorem tp_rs_sm (x : Int32) : tp_sm 2048 (tp_rs x) := by
  unfold tp_rs
  exact ⟨((tp_y x % 4096 : Nat) : Int) - 2048, by omega, by rw [Int32.ofInt_sub]; rfl⟩
/-- where a help row hides: half 1 at the wheel's own half, half 0 behind the key -/
def tp_unit (s : Nat → Int32) (h : Nat) (k : Int) : Int32 := if h = 0 then - tp_sum 32 (fun m => s m * tp_ext tp_one (k - (m : Int))) else tp_ext tp_one k
/-- a pair that hides the key's bit times a weight, within 4 -/
def tp_help (s : Nat → Int32) (v : Int32) (h : Nat) (a b : Nat → Int32) : Prop := ∀ k : Int, tp_sm 4 (tp_ph s a b k - v * tp_unit s h k)
theorem tp_unit_sum0 (s x : Nat → Int32) (j : Int) : tp_sum 32 (fun k => x k * tp_unit s 0 (j - (k : Int))) = - tp_sum 32 (fun m => s m * tp_ext x (j - (m : Int))) := by
  have e : ∀ k, k < 32 → x k * tp_unit s 0 (j - (k : Int)) = - tp_sum 32 (fun m => s m * (x k * tp_ext tp_one (j - (m : Int) - (k : Int)))) := by
    intro k _
    unfold tp_unit
    rw [if_pos rfl]
    have e1 : x k * - tp_sum 32 (fun m => s m * tp_ext tp_one (j - (k : Int) - (m : Int))) = - (x k * tp_sum 32 (fun m => s m * tp_ext tp_one (j - (k : Int) - (m : Int)))) := by grind
    rw [e1, ← tp_sum_mul]
    refine congrArg (fun z => - z) (tp_sum_congr (fun m _ => ?_))
    have e2 : j - (k : Int) - m = j - m - k := by omega
    rw [e2]
    grind
  rw [tp_sum_congr e, tp_sum_neg, tp_sum_swap]
  refine congrArg (fun z => - z) (tp_sum_congr (fun m _ => ?_))
  rw [tp_sum_mul, tp_ext_sum]
theorem tp_unit_sum1 (s x : Nat → Int32) (j : Int) : tp_sum 32 (fun k => x k * tp_unit s 1 (j - (k : Int))) = tp_ext x j := by
  rw [← tp_ext_sum x j]
  exact tp_sum_congr (fun k _ => by unfold tp_unit; rw [if_neg (by decide)])
/-- one help row taken digit by digit: what it adds, up to noise -/
theorem tp_take {s d : Nat → Int32} {v : Int32} {h : Nat} {a b : Nat → Int32} (hh : tp_help s v h a b) (hd : ∀ k, k < 32 → tp_sm 512 (d k)) (j : Int) :
    tp_sm 65536 (tp_sum 32 (fun k => d k * tp_ph s a b (j - (k : Int))) - v * tp_sum 32 (fun k => d k * tp_unit s h (j - (k : Int)))) := by
  have e : tp_sum 32 (fun k => d k * tp_ph s a b (j - (k : Int))) - v * tp_sum 32 (fun k => d k * tp_unit s h (j - (k : Int))) = tp_sum 32 (fun k => d k * (tp_ph s a b (j - (k : Int)) - v * tp_unit s h (j - (k : Int)))) := by
    rw [← tp_sum_mul, ← tp_sum_sub]
    exact tp_sum_congr (fun k _ => by grind)
  rw [e]
  exact tp_sm_mono (tp_sm_sum (n := 32) (c := 2048) (fun k hk => tp_sm_mul (hd k hk) (hh _))) (by decide)
/-- both digits of a half -/
theorem tp_take2 {s c : Nat → Int32} {κ : Int32} {h : Nat} {a0 b0 a1 b1 : Nat → Int32} (h0 : tp_help s (κ * tp_W 0) h a0 b0) (h1 : tp_help s (κ * tp_W 1) h a1 b1) (j : Int) :
    tp_sm 131072 (tp_sum 32 (fun k => tp_dg 0 (c k) * tp_ph s a0 b0 (j - (k : Int))) + tp_sum 32 (fun k => tp_dg 1 (c k) * tp_ph s a1 b1 (j - (k : Int)))
      - κ * tp_sum 32 (fun k => (c k - tp_rs (c k)) * tp_unit s h (j - (k : Int)))) := by
  have q0 := tp_take (d := fun k => tp_dg 0 (c k)) h0 (fun k _ => tp_dg_sm 0 (c k)) j
  have q1 := tp_take (d := fun k => tp_dg 1 (c k)) h1 (fun k _ => tp_dg_sm 1 (c k)) j
  have e : κ * tp_sum 32 (fun k => (c k - tp_rs (c k)) * tp_unit s h (j - (k : Int))) = κ * tp_W 0 * tp_sum 32 (fun k => tp_dg 0 (c k) * tp_unit s h (j - (k : Int))) + κ * tp_W 1 * tp_sum 32 (fun k => tp_dg 1 (c k) * tp_unit s h (j - (k : Int))) := by
    rw [← tp_sum_mul, ← tp_sum_mul, ← tp_sum_mul, ← tp_sum_add]
    refine tp_sum_congr (fun k _ => ?_)
    have e1 := tp_dg_sum (c k)
    generalize tp_unit s h (j - (k : Int)) = u
    generalize tp_rs (c k) = r at e1 ⊢
    generalize tp_dg 0 (c k) = d0 at e1 ⊢
    generalize tp_dg 1 (c k) = d1 at e1 ⊢
    generalize tp_W 0 = w0 at e1 ⊢
    generalize tp_W 1 = w1 at e1 ⊢
    rw [← e1]
    grind
  have q := tp_sm_add q0 q1
  rw [e]
  refine tp_sm_mono (b := 131072) ?_ (Nat.le_refl _)
  have e2 : ∀ A B C D : Int32, A + B - (C + D) = A - C + (B - D) := by intro A B C D; grind
  rw [e2]
  exact q
/-- 33 rests are small -/
theorem tp_rests {s ca cb : Nat → Int32} (hs : ∀ i, i < 32 → tp_bit (s i)) (j : Int) : tp_sm 67584 (tp_ph s (fun i => tp_rs (ca i)) (fun i => tp_rs (cb i)) j) := by
  unfold tp_ph
  exact tp_sm_mono (tp_sm_sub (tp_ext_sm (n := 2048) (fun i _ => tp_rs_sm (cb i)) j) (tp_sm_sum (n := 32) (c := 1 * 2048) (fun i hi => tp_sm_mul (tp_bit_sm (hs i hi)) (tp_ext_sm (n := 2048) (fun i _ => tp_rs_sm (ca i)) _)))) (by decide)
/-- a step: the wheel is turned by t if the key's bit is 1, up to noise -/
theorem tp_step {s wa wb ca cb : Nat → Int32} {κ : Int32} {t : Int} {a00 b00 a01 b01 a10 b10 a11 b11 : Nat → Int32} {g : Int → Int32} (hs : ∀ i, i < 32 → tp_bit (s i)) (hκ : tp_bit κ)
    (h00 : tp_help s (κ * tp_W 0) 0 a00 b00) (h01 : tp_help s (κ * tp_W 1) 0 a01 b01) (h10 : tp_help s (κ * tp_W 0) 1 a10 b10) (h11 : tp_help s (κ * tp_W 1) 1 a11 b11)
    (hca : ∀ i : Nat, i < 32 → ca i = tp_ext wa ((i : Int) - t) - wa i) (hcb : ∀ i : Nat, i < 32 → cb i = tp_ext wb ((i : Int) - t) - wb i)
    (hg : ∀ j : Int, g j = tp_ph s wa wb j + tp_sum 32 (fun k => tp_dg 0 (ca k) * tp_ph s a00 b00 (j - (k : Int))) + tp_sum 32 (fun k => tp_dg 1 (ca k) * tp_ph s a01 b01 (j - (k : Int)))
      + tp_sum 32 (fun k => tp_dg 0 (cb k) * tp_ph s a10 b10 (j - (k : Int))) + tp_sum 32 (fun k => tp_dg 1 (cb k) * tp_ph s a11 b11 (j - (k : Int)))) (j : Int) :
    tp_sm 329728 (g j - tp_ph s wa wb (j - (if κ = 1 then t else 0))) := by
  have q0 := tp_take2 (c := ca) h00 h01 j
  have q1 := tp_take2 (c := cb) h10 h11 j
  rw [tp_unit_sum0] at q0
  rw [tp_unit_sum1] at q1
  have hr := tp_rests (ca := ca) (cb := cb) hs j
  have hc : tp_ph s ca cb j = tp_ph s wa wb (j - t) - tp_ph s wa wb j := by
    have e := tp_ph_add (s := s) (a := fun i => - wa i) (b := fun i => - wb i) (a' := ca) (b' := cb) (sa := wa) (sb := wb) (c := 1) (t := t) (fun i hi => by rw [hca i hi]; grind) (fun i hi => by rw [hcb i hi]; grind) j
    have e2 := tp_ph_add (s := s) (a := fun _ => 0) (b := fun _ => 0) (a' := fun i => - wa i) (b' := fun i => - wb i) (sa := wa) (sb := wb) (c := -1) (t := 0) (fun i hi => by rw [Int.sub_zero, tp_ext_lt hi]; grind) (fun i hi => by rw [Int.sub_zero, tp_ext_lt hi]; grind) j
    have e3 : tp_ph s (fun _ => 0) (fun _ => 0) j = 0 := by
      have z : ∀ k : Int, tp_ext (fun _ => (0 : Int32)) k = 0 := by
        intro k
        unfold tp_ext
        by_cases h1 : k % 64 < 32
        · rw [if_pos h1]
        · rw [if_neg h1]; show -(0 : Int32) = 0; decide
      unfold tp_ph
      rw [z, tp_sum_congr (g := fun _ => 0) (fun i _ => by rw [z]; grind), tp_sum_zero]
      rfl
    rw [e3, Int.sub_zero] at e2
    rw [e2] at e
    rw [e]
    grind
  have hx : tp_ext (fun k => cb k - tp_rs (cb k)) j + - tp_sum 32 (fun m => s m * tp_ext (fun k => ca k - tp_rs (ca k)) (j - (m : Int))) = tp_ph s ca cb j - tp_ph s (fun i => tp_rs (ca i)) (fun i => tp_rs (cb i)) j := by
    have z : ∀ (c : Nat → Int32) (k : Int), tp_ext (fun k => c k - tp_rs (c k)) k = tp_ext c k - tp_ext (fun k => tp_rs (c k)) k := by
      intro c k
      rw [tp_ext_lin (f := c) (g := fun k => tp_rs (c k)) (h := fun k => c k - tp_rs (c k)) (c := 1) (d := -1) (fun i _ => by grind) k]
      grind
    unfold tp_ph
    rw [z, tp_sum_congr (g := fun m => s m * tp_ext ca (j - (m : Int)) - s m * tp_ext (fun k => tp_rs (ca k)) (j - (m : Int))) (fun m _ => by rw [z]; grind), tp_sum_sub]
    grind
  have hsm := tp_sm_sub (tp_sm_add q0 q1) (tp_sm_mul (tp_bit_sm hκ) hr)
  have hE : g j - tp_ph s wa wb (j - (if κ = 1 then t else 0)) = (tp_sum 32 (fun k => tp_dg 0 (ca k) * tp_ph s a00 b00 (j - (k : Int))) + tp_sum 32 (fun k => tp_dg 1 (ca k) * tp_ph s a01 b01 (j - (k : Int))) - κ * - tp_sum 32 (fun m => s m * tp_ext (fun k => ca k - tp_rs (ca k)) (j - (m : Int)))
      + (tp_sum 32 (fun k => tp_dg 0 (cb k) * tp_ph s a10 b10 (j - (k : Int))) + tp_sum 32 (fun k => tp_dg 1 (cb k) * tp_ph s a11 b11 (j - (k : Int))) - κ * tp_ext (fun k => cb k - tp_rs (cb k)) j)) - κ * tp_ph s (fun i => tp_rs (ca i)) (fun i => tp_rs (cb i)) j := by
    have hk : tp_ph s wa wb (j - (if κ = 1 then t else 0)) = tp_ph s wa wb j + κ * tp_ph s ca cb j := by
      rcases hκ with rfl | rfl
      · rw [if_neg (by decide), Int.sub_zero]
        grind
      · rw [if_pos rfl, hc]
        grind
    rw [hg j, hk]
    generalize tp_sum 32 (fun k => tp_dg 0 (ca k) * tp_ph s a00 b00 (j - (k : Int))) = A at *
    generalize tp_sum 32 (fun k => tp_dg 1 (ca k) * tp_ph s a01 b01 (j - (k : Int))) = B at *
    generalize tp_sum 32 (fun k => tp_dg 0 (cb k) * tp_ph s a10 b10 (j - (k : Int))) = C at *
    generalize tp_sum 32 (fun k => tp_dg 1 (cb k) * tp_ph s a11 b11 (j - (k : Int))) = D at *
    generalize tp_ext (fun k => cb k - tp_rs (cb k)) j = F at *
    generalize tp_sum 32 (fun m => s m * tp_ext (fun k => ca k - tp_rs (ca k)) (j - (m : Int))) = G at *
    generalize tp_ph s (fun i => tp_rs (ca i)) (fun i => tp_rs (cb i)) j = I at *
    generalize tp_ph s ca cb j = J at *
    generalize tp_ph s wa wb j = K at *
    have e : J = F + - G + I := by rw [hx]; grind
    rw [e]
    grind
  rw [hE]
  exact tp_sm_mono hsm (by decide)
end
section
/-! pure part 3: rows and places, the way back, the sign of a sum, what gates give. No machine in it. -/
def tp_E : Int32 := 536870912
/-- the place of a row under the key for rows -/
def tp_place (κ row : Nat → Int32) : Int32 := row 8 - tp_sum 8 (fun i => row i * κ i)
theorem tp_place_lin {κ r a b : Nat → Int32} {c d : Int32} (h : ∀ i, i < 9 → r i = c * a i + d * b i) : tp_place κ r = c * tp_place κ a + d * tp_place κ b := by
  unfold tp_place
  rw [h 8 (by decide), tp_sum_congr (g := fun i => c * (a i * κ i) + d * (b i * κ i)) (fun i hi => by rw [h i (by omega)]; grind), tp_sum_add, tp_sum_mul, tp_sum_mul]
  grind
theorem tp_place_congr {κ r a : Nat → Int32} (h : ∀ i, i < 9 → r i = a i) : tp_place κ r = tp_place κ a := by
  unfold tp_place
  rw [h 8 (by decide), tp_sum_congr (g := fun i => a i * κ i) (fun i hi => by rw [h i (by omega)])]
/-- the number behind the mask counts as it is -/
theorem tp_place_8 {κ r a : Nat → Int32} {x : Int32} (h : ∀ i, i < 8 → r i = a i) (h8 : r 8 = a 8 + x) : tp_place κ r = tp_place κ a + x := by
  unfold tp_place
  rw [h8, tp_sum_congr (g := fun i => a i * κ i) (fun i hi => by rw [h i hi])]
  grind
def tp_pl (v : Bool) : Int32 := if v then tp_E else - tp_E
/-- the row lies within 'bd' of the place of v -/
def tp_near (κ row : Nat → Int32) (v : Bool) (bd : Nat) : Prop := tp_sm bd (tp_place κ row - tp_pl v)
theorem tp_near_mono {κ row : Nat → Int32} {v : Bool} {a b : Nat} (h : tp_near κ row v a) (hab : a ≤ b) : tp_near κ row v b := tp_sm_mono h hab
theorem tp_near_congr {κ r a : Nat → Int32} {v : Bool} {bd : Nat} (h : tp_near κ a v bd) (e : ∀ i, i < 9 → r i = a i) : tp_near κ r v bd := by
  unfold tp_near at *
  rw [tp_place_congr e]
  exact h
theorem tp_near_not {κ r a : Nat → Int32} {v : Bool} {bd : Nat} (h : tp_near κ a v bd) (e : ∀ i, i < 9 → r i = a i * (-1)) : tp_near κ r (!v) bd := by
  unfold tp_near at *
  rw [tp_place_lin (a := a) (b := a) (c := -1) (d := 0) (fun i hi => by rw [e i hi]; grind)]
  have e2 : -1 * tp_place κ a + 0 * tp_place κ a - tp_pl (!v) = - (tp_place κ a - tp_pl v) := by
    cases v
    · show -1 * tp_place κ a + 0 * tp_place κ a - tp_E = - (tp_place κ a - - tp_E)
      grind
    · show -1 * tp_place κ a + 0 * tp_place κ a - - tp_E = - (tp_place κ a - tp_E)
      grind
  rw [e2]
  exact tp_sm_neg h
theorem tp_near_add {κ r a z : Nat → Int32} {v : Bool} {bd n : Nat} (h : tp_near κ a v bd) (hz : tp_sm n (tp_place κ z)) (e : ∀ i, i < 9 → r i = a i + z i) : tp_near κ r v (bd + n) := by
  unfold tp_near at *
  rw [tp_place_lin (a := a) (b := z) (c := 1) (d := 1) (fun i hi => by rw [e i hi]; grind)]
  have e2 : 1 * tp_place κ a + 1 * tp_place κ z - tp_pl v = tp_place κ a - tp_pl v + tp_place κ z := by grind
  rw [e2]
  exact tp_sm_add h hz
theorem tp_near_pile {κ r a : Nat → Int32} {v : Bool} {bd k : Nat} (h : tp_near κ a v bd) (e : ∀ i, i < 9 → r i = a i * Int32.ofInt ((8 * k + 1 : Nat) : Int)) : tp_near κ r v (bd * (8 * k + 1)) := by
  unfold tp_near at *
  have hc : Int32.ofInt ((8 * k + 1 : Nat) : Int) = 8 * Int32.ofInt (k : Int) + 1 := by
    have e0 : ((8 * k + 1 : Nat) : Int) = 8 * (k : Int) + 1 := by omega
    rw [e0, Int32.ofInt_add, Int32.ofInt_mul]
    rfl
  rw [tp_place_lin (a := a) (b := a) (c := Int32.ofInt ((8 * k + 1 : Nat) : Int)) (d := 0) (fun i hi => by rw [e i hi]; grind)]
  have e1 : Int32.ofInt ((8 * k + 1 : Nat) : Int) * tp_pl v = tp_pl v := by
    have e8 : (8 : Int32) * tp_E = 0 := by decide
    rw [hc]
    cases v
    · show (8 * Int32.ofInt (k : Int) + 1) * - tp_E = - tp_E
      have : (8 * Int32.ofInt (k : Int) + 1) * - tp_E = - (Int32.ofInt (k : Int) * (8 * tp_E)) + - tp_E := by grind
      rw [this, e8]
      grind
    · show (8 * Int32.ofInt (k : Int) + 1) * tp_E = tp_E
      have : (8 * Int32.ofInt (k : Int) + 1) * tp_E = Int32.ofInt (k : Int) * (8 * tp_E) + tp_E := by grind
      rw [this, e8]
      grind
  have e2 : Int32.ofInt ((8 * k + 1 : Nat) : Int) * tp_place κ a + 0 * tp_place κ a - tp_pl v = (tp_place κ a - tp_pl v) * Int32.ofInt ((8 * k + 1 : Nat) : Int) := by
    have : Int32.ofInt ((8 * k + 1 : Nat) : Int) * tp_place κ a + 0 * tp_place κ a - tp_pl v = Int32.ofInt ((8 * k + 1 : Nat) : Int) * tp_place κ a - Int32.ofInt ((8 * k + 1 : Nat) : Int) * tp_pl v := by rw [e1]; grind
    rw [this]
    grind
  rw [e2]
  exact tp_sm_mul h ⟨_, by omega, rfl⟩
/-- the number of a small distance, read with its sign -/
theorem tp_sm_read {n : Nat} {x : Int32} (h : tp_sm n x) (hn : n < 2147483648) : - (n : Int) ≤ x.toInt ∧ x.toInt ≤ n := by
  obtain ⟨z, h1, rfl⟩ := h
  rw [Int32.toInt_ofInt_of_le (by omega) (by omega)]
  omega
theorem tp_E_of : tp_E = Int32.ofInt 536870912 := rfl
/-- what open reads -/
theorem tp_near_open {κ row : Nat → Int32} {v : Bool} {bd : Nat} (h : tp_near κ row v bd) (hb : bd < 536870912) : 0 < (tp_place κ row).toInt ↔ v = true := by
  obtain ⟨z, h1, h2⟩ := h
  cases v
  · have e : tp_place κ row = Int32.ofInt (z + -536870912) := by
      rw [Int32.ofInt_add, ← h2]
      show _ = tp_place κ row - - tp_E + Int32.ofInt (-536870912)
      rw [show Int32.ofInt (-536870912) = - tp_E from rfl]
      grind
    rw [e, Int32.toInt_ofInt_of_le (by omega) (by omega)]
    constructor
    · intro q; omega
    · intro q; cases q
  · have e : tp_place κ row = Int32.ofInt (z + 536870912) := by
      rw [Int32.ofInt_add, ← h2]
      show _ = tp_place κ row - tp_E + Int32.ofInt 536870912
      rw [show Int32.ofInt 536870912 = tp_E from rfl]
      grind
    rw [e, Int32.toInt_ofInt_of_le (by omega) (by omega)]
    constructor
    · intro _; rfl
    · intro _; omega
/-- a number's place of 64, by its 32 bits read without a sign -/
def tp_rd (x : Int32) : Nat := (x + 33554432).toBitVec.toNat / 67108864
theorem tp_rd_lt (x : Int32) : tp_rd x < 64 := by
  have := (x + 33554432).toBitVec.isLt
  unfold tp_rd
  omega
theorem tp_rd_sm (x : Int32) : tp_sm 33554432 (Int32.ofInt (67108864 * (tp_rd x : Int)) - x) := by
  have hy := (x + 33554432).toBitVec.isLt
  have e : Int32.ofInt ((x + 33554432).toBitVec.toNat : Int) = x + 33554432 := tp_un (x + 33554432)
  unfold tp_rd
  generalize (x + 33554432).toBitVec.toNat = y at hy e ⊢
  refine ⟨67108864 * ((y / 67108864 : Nat) : Int) - (y : Int) + 33554432, by omega, ?_⟩
  rw [Int32.ofInt_add, Int32.ofInt_sub, e]
  rw [show Int32.ofInt 33554432 = 33554432 from rfl]
  grind
def tp_sumZ : Nat → (Nat → Int) → Int
  | 0, _ => 0
  | n + 1, f => tp_sumZ n f + f n
theorem tp_sumZ_of (n : Nat) (f : Nat → Int) : Int32.ofInt (tp_sumZ n f) = tp_sum n (fun i => Int32.ofInt (f i)) := by
  induction n with
  | zero => rfl
  | succ n ih => rw [tp_sumZ, Int32.ofInt_add, ih, tp_sum_s]
/-- the turn that the steps make in all -/
def tp_turn (κ row : Nat → Int32) (n : Nat) : Int := tp_sumZ n (fun i => if κ i = 1 then (tp_rd (row i) : Int) else 0)
theorem tp_round {κ row : Nat → Int32} (hκ : ∀ i, i < 8 → tp_bit (κ i)) : tp_sm 301989888 (Int32.ofInt (67108864 * ((tp_rd (row 8) : Int) - tp_turn κ row 8)) - tp_place κ row) := by
  have h8 := tp_rd_sm (row 8)
  have hs : tp_sm (8 * 33554432) (tp_sum 8 (fun i => κ i * (Int32.ofInt (67108864 * (tp_rd (row i) : Int)) - row i))) := tp_sm_sum (fun i hi => tp_sm_mono (tp_sm_mul (tp_bit_sm (hκ i hi)) (tp_rd_sm (row i))) (by decide))
  have e : Int32.ofInt (67108864 * ((tp_rd (row 8) : Int) - tp_turn κ row 8)) - tp_place κ row = (Int32.ofInt (67108864 * (tp_rd (row 8) : Int)) - row 8) - tp_sum 8 (fun i => κ i * (Int32.ofInt (67108864 * (tp_rd (row i) : Int)) - row i)) := by
    have e1 : Int32.ofInt (67108864 * ((tp_rd (row 8) : Int) - tp_turn κ row 8)) = Int32.ofInt (67108864 * (tp_rd (row 8) : Int)) - tp_sum 8 (fun i => κ i * Int32.ofInt (67108864 * (tp_rd (row i) : Int))) := by
      rw [Int.mul_sub, Int32.ofInt_sub]
      refine congrArg (fun z => Int32.ofInt (67108864 * (tp_rd (row 8) : Int)) - z) ?_
      unfold tp_turn
      rw [Int32.ofInt_mul, tp_sumZ_of, ← tp_sum_mul]
      refine tp_sum_congr (fun i hi => ?_)
      rcases hκ i hi with h | h
      · rw [h, if_neg (by decide), show Int32.ofInt 0 = 0 from rfl]
        grind
      · rw [h, if_pos rfl, Int32.ofInt_mul]
        grind
    rw [e1]
    unfold tp_place
    rw [tp_sum_congr (f := fun i => κ i * (Int32.ofInt (67108864 * (tp_rd (row i) : Int)) - row i)) (g := fun i => κ i * Int32.ofInt (67108864 * (tp_rd (row i) : Int)) - row i * κ i) (fun i _ => by grind), tp_sum_sub]
    grind
  rw [e]
  exact tp_sm_mono (tp_sm_sub h8 hs) (by decide)
/-- the wheel at its start, as a function on all turns -/
def tp_w0 (back : Int) (k : Int) : Int32 := if (k + back) % 64 < 32 then tp_E else - tp_E
theorem tp_start {s wa wb : Nat → Int32} {back : Int} (ha : ∀ i, i < 32 → wa i = 0) (hb : ∀ i : Nat, i < 32 → wb i = tp_w0 back i) (k : Int) : tp_ph s wa wb k = tp_w0 back k := by
  have z : ∀ k : Int, tp_ext wa k = 0 := by
    intro k
    unfold tp_ext
    by_cases h1 : k % 64 < 32
    · rw [if_pos h1, ha _ (by omega)]
    · rw [if_neg h1, ha _ (by omega)]; decide
  have e : tp_ext wb k = tp_w0 back k := by
    refine tp_ext_all ?_ hb ?_ k
    · intro k
      unfold tp_w0
      by_cases h : (k + back) % 64 < 32
      · rw [if_pos h, if_neg (by omega)]
      · rw [if_neg h, if_pos (by omega)]
        grind
    · intro k j h
      unfold tp_w0
      rw [show (k + back) % 64 = (j + back) % 64 by omega]
  unfold tp_ph
  rw [e, tp_sum_congr (g := fun _ => 0) (fun i _ => by rw [z]; grind), tp_sum_zero]
  grind
/-- the sign of what was turned is the sign of the row's place -/
theorem tp_sign {κ row : Nat → Int32} (hκ : ∀ i, i < 8 → tp_bit (κ i)) {p : Int} {v : Bool} (hp : tp_place κ row = Int32.ofInt p)
    (h : if v then 301989888 ≤ p ∧ p < 1845493760 else p < -301989888 ∧ -1845493760 ≤ p) : tp_w0 (tp_rd (row 8)) (0 - tp_turn κ row 8) = tp_pl v := by
  obtain ⟨z, h1, h2⟩ := tp_round (row := row) hκ
  rw [hp, ← Int32.ofInt_sub] at h2
  have h3 := congrArg Int32.toInt h2
  rw [Int32.toInt_ofInt, Int32.toInt_ofInt, show Int32.size = 4294967296 from rfl] at h3
  have h4 : (67108864 * ((tp_rd (row 8) : Int) - tp_turn κ row 8) - p) % 4294967296 = z % 4294967296 := by
    have key : ∀ x : Int, x.bmod 4294967296 % 4294967296 = x % 4294967296 := fun x => Int.bmod_emod (x := x) (m := 4294967296)
    have h5 := congrArg (fun x : Int => x % 4294967296) h3
    simp only [key] at h5
    exact h5
  unfold tp_w0
  generalize (tp_rd (row 8) : Int) = a at h4 ⊢
  generalize tp_turn κ row 8 = b at h4 ⊢
  cases v
  · simp only [Bool.false_eq_true, if_false] at h
    rw [if_neg (by omega)]
    rfl
  · simp only [if_true] at h
    rw [if_pos (by omega)]
    rfl
/-- the way back: a row under the key for rows, of the wheel's first number -/
theorem tp_back {s κ wa wb : Nat → Int32} {r : Nat → Int32} {pb : Nat → Nat → Int32} (hs : ∀ i, i < 32 → tp_bit (s i))
    (hpb : ∀ i w, i < 32 → w < 2 → tp_sm 4 (tp_place κ (pb (2 * i + w)) - s i * tp_W w))
    (hr : tp_place κ r = wb 0 - tp_sum 32 (fun i => tp_dg 0 (tp_ext wa (0 - (i : Int))) * tp_place κ (pb (2 * i)) + tp_dg 1 (tp_ext wa (0 - (i : Int))) * tp_place κ (pb (2 * i + 1)))) :
    tp_sm 196608 (tp_place κ r - tp_ph s wa wb 0) := by
  have e : tp_place κ r - tp_ph s wa wb 0 = tp_sum 32 (fun i => s i * tp_rs (tp_ext wa (0 - (i : Int))) - (tp_dg 0 (tp_ext wa (0 - (i : Int))) * (tp_place κ (pb (2 * i)) - s i * tp_W 0) + tp_dg 1 (tp_ext wa (0 - (i : Int))) * (tp_place κ (pb (2 * i + 1)) - s i * tp_W 1))) := by
    rw [hr]
    unfold tp_ph
    have e0 : tp_ext wb 0 = wb 0 := tp_ext_lt (f := wb) (i := 0) (by decide)
    rw [e0]
    have e1 : ∀ A B C : Int32, A - B - (A - C) = C - B := by intro A B C; grind
    rw [e1, ← tp_sum_sub]
    refine tp_sum_congr (fun i _ => ?_)
    have e2 := tp_dg_sum (tp_ext wa (0 - (i : Int)))
    generalize tp_ext wa (0 - (i : Int)) = x at e2 ⊢
    generalize tp_place κ (pb (2 * i)) = A
    generalize tp_place κ (pb (2 * i + 1)) = B
    generalize tp_dg 0 x = d0 at e2 ⊢
    generalize tp_dg 1 x = d1 at e2 ⊢
    generalize tp_rs x = r0 at e2 ⊢
    generalize tp_W 0 = w0 at e2 ⊢
    generalize tp_W 1 = w1 at e2 ⊢
    rw [← e2]
    grind
  rw [e]
  refine tp_sm_mono (tp_sm_sum (n := 32) (c := 6144) (fun i hi => ?_)) (by decide)
  refine tp_sm_mono (tp_sm_sub (tp_sm_mul (tp_bit_sm (hs i hi)) (tp_rs_sm _)) (tp_sm_add (tp_sm_mul (tp_dg_sm 0 _) (hpb i 0 hi (by decide))) (tp_sm_mul (tp_dg_sm 1 _) (hpb i 1 hi (by decide))))) (by decide)
end
section
/-! pure part 4: the eight steps, the gates' sums, what a gate gives. No machine in it. -/
theorem tp_turn_s (κ row : Nat → Int32) (n : Nat) : tp_turn κ row (n + 1) = tp_turn κ row n + (if κ n = 1 then (tp_rd (row n) : Int) else 0) := rfl
/-- one step more -/
theorem tp_iter {κ row : Nat → Int32} {n : Nat} {back : Int} {g g' : Int → Int32} (h : ∀ j, tp_sm (329728 * n) (g j - tp_w0 back (j - tp_turn κ row n)))
    (h' : ∀ j, tp_sm 329728 (g' j - g (j - (if κ n = 1 then (tp_rd (row n) : Int) else 0)))) (j : Int) : tp_sm (329728 * (n + 1)) (g' j - tp_w0 back (j - tp_turn κ row (n + 1))) := by
  have q1 := h' j
  have q2 := h (j - (if κ n = 1 then (tp_rd (row n) : Int) else 0))
  have e : j - (if κ n = 1 then (tp_rd (row n) : Int) else 0) - tp_turn κ row n = j - tp_turn κ row (n + 1) := by rw [tp_turn_s]; omega
  rw [e] at q2
  have q := tp_sm_add q1 q2
  have e2 : ∀ A B C : Int32, A - B + (B - C) = A - C := by intro A B C; grind
  rw [e2] at q
  exact tp_sm_mono q (by omega)
/-- what comes of a refreshed row whose place is read with its sign -/
theorem tp_refreshed {s κ row r wa wb : Nat → Int32} (hκ : ∀ i, i < 8 → tp_bit (κ i)) {p : Int} {v : Bool} (hp : tp_place κ row = Int32.ofInt p)
    (h : if v then 301989888 ≤ p ∧ p < 1845493760 else p < -301989888 ∧ -1845493760 ≤ p)
    (hw : ∀ j, tp_sm (329728 * 8) (tp_ph s wa wb j - tp_w0 (tp_rd (row 8)) (j - tp_turn κ row 8))) (hb : tp_sm 196608 (tp_place κ r - tp_ph s wa wb 0)) : tp_near κ r v 3186688 := by
  have q := tp_sm_add hb (hw 0)
  rw [tp_sign hκ hp h] at q
  have e2 : ∀ A B C : Int32, A - B + (B - C) = A - C := by intro A B C; grind
  rw [e2] at q
  exact tp_sm_mono q (by decide)
def tp_w1 (g : Nat) : Int := match g with
  | 0 => 1
  | 1 => 1
  | 2 => -1
  | 3 => -1
  | 4 => 2
  | 5 => -2
  | 6 => 1
  | _ => 1
def tp_w2 (g : Nat) : Int := match g with
  | 0 => 1
  | 1 => 1
  | 2 => -1
  | 3 => -1
  | 4 => 2
  | 5 => -2
  | 6 => -1
  | _ => -1
def tp_e8 (g : Nat) : Int := match g with
  | 0 => -1
  | 1 => 1
  | 2 => 1
  | 3 => -1
  | 4 => 2
  | 5 => -2
  | 6 => -1
  | _ => 1
def tp_truth (g : Nat) (a b : Bool) : Bool := match g with
  | 0 => a && b
  | 1 => a || b
  | 2 => !(a && b)
  | 3 => !(a || b)
  | 4 => a != b
  | 5 => a == b
  | 6 => a && !b
  | _ => a || !b
/-- the bounds are too great for the gate -/
def tp_far (g b1 b2 : Nat) : Prop := if g = 4 ∨ g = 5 then 771751936 ≤ 2 * (b1 + b2) else 234881024 ≤ b1 + b2
def tp_c (v : Bool) : Int := if v then 536870912 else -536870912
theorem tp_pl_c (v : Bool) : tp_pl v = Int32.ofInt (tp_c v) := by cases v <;> rfl
def tp_wrap (g : Nat) (a b : Bool) : Int := if g = 4 ∧ a = true ∧ b = true then -4294967296 else if g = 5 ∧ a = true ∧ b = true then 4294967296 else 0
theorem tp_wrap_of (g : Nat) (a b : Bool) : Int32.ofInt (tp_wrap g a b) = 0 := by
  unfold tp_wrap
  split
  · rfl
  · split
    · rfl
    · rfl
theorem tp_gate_num {g b1 b2 : Nat} {v1 v2 : Bool} {z1 z2 : Int} (hg : g < 8) (h1 : z1.natAbs ≤ b1) (h2 : z2.natAbs ≤ b2) (hl : ¬ tp_far g b1 b2) :
    if tp_truth g v1 v2 then 301989888 ≤ tp_w1 g * (tp_c v1 + z1) + tp_w2 g * (tp_c v2 + z2) + tp_e8 g * 536870912 + tp_wrap g v1 v2 ∧ tp_w1 g * (tp_c v1 + z1) + tp_w2 g * (tp_c v2 + z2) + tp_e8 g * 536870912 + tp_wrap g v1 v2 < 1845493760
    else tp_w1 g * (tp_c v1 + z1) + tp_w2 g * (tp_c v2 + z2) + tp_e8 g * 536870912 + tp_wrap g v1 v2 < -301989888 ∧ -1845493760 ≤ tp_w1 g * (tp_c v1 + z1) + tp_w2 g * (tp_c v2 + z2) + tp_e8 g * 536870912 + tp_wrap g v1 v2 := by
  have hc : g = 0 ∨ g = 1 ∨ g = 2 ∨ g = 3 ∨ g = 4 ∨ g = 5 ∨ g = 6 ∨ g = 7 := by omega
  rcases hc with rfl | rfl | rfl | rfl | rfl | rfl | rfl | rfl <;> cases v1 <;> cases v2 <;> simp [tp_truth, tp_w1, tp_w2, tp_e8, tp_c, tp_wrap, tp_far] at hl ⊢ <;> omega
theorem tp_gate_sum {κ a b r : Nat → Int32} {g b1 b2 : Nat} {v1 v2 : Bool} (hg : g < 8) (h1 : tp_near κ a v1 b1) (h2 : tp_near κ b v2 b2) (hl : ¬ tp_far g b1 b2)
    (hr : ∀ i, i < 8 → r i = Int32.ofInt (tp_w1 g) * a i + Int32.ofInt (tp_w2 g) * b i) (h8 : r 8 = Int32.ofInt (tp_w1 g) * a 8 + Int32.ofInt (tp_w2 g) * b 8 + Int32.ofInt (tp_e8 g) * tp_E) :
    ∃ p : Int, tp_place κ r = Int32.ofInt p ∧ (if tp_truth g v1 v2 then 301989888 ≤ p ∧ p < 1845493760 else p < -301989888 ∧ -1845493760 ≤ p) := by
  obtain ⟨z1, q1, e1⟩ := h1
  obtain ⟨z2, q2, e2⟩ := h2
  refine ⟨_, ?_, tp_gate_num (v1 := v1) (v2 := v2) hg q1 q2 hl⟩
  rw [Int32.ofInt_add, tp_wrap_of, Int32.ofInt_add, Int32.ofInt_add, Int32.ofInt_mul, Int32.ofInt_mul, Int32.ofInt_mul, Int32.ofInt_add, Int32.ofInt_add, ← tp_pl_c, ← tp_pl_c, ← e1, ← e2]
  rw [tp_place_8 (a := fun i => Int32.ofInt (tp_w1 g) * a i + Int32.ofInt (tp_w2 g) * b i) hr h8, tp_place_lin (a := a) (b := b) (c := Int32.ofInt (tp_w1 g)) (d := Int32.ofInt (tp_w2 g)) (fun i _ => rfl)]
  rw [show Int32.ofInt 536870912 = tp_E from rfl]
  grind
end
