/-! pure part 2: digits, help rows, a step of the wheel, the way back, the sign. No machine in it. -/
def tp_W (w : Nat) : Int32 := if w = 0 then 4194304 else 4096
/-- a number's digit and rest, by its 32 bits read without a sign after half of each range was added -/
def tp_y (x : Int32) : Nat := (x + (-2145384448)).toBitVec.toNat
def tp_dg (w : Nat) (x : Int32) : Int32 := if w = 0 then Int32.ofInt ((tp_y x / 4194304 : Nat) : Int) - 512 else Int32.ofInt ((tp_y x / 4096 % 1024 : Nat) : Int) - 512
def tp_rs (x : Int32) : Int32 := Int32.ofInt ((tp_y x % 4096 : Nat) : Int) - 2048
theorem tp_y_lt (x : Int32) : tp_y x < 4294967296 := (x + (-2145384448)).toBitVec.isLt
theorem tp_un (x : Int32) : Int32.ofInt (x.toBitVec.toNat : Int) = x := by
  rw [Int32.ofInt_eq_ofNat]
  exact Int32.toBitVec.inj (by simp)
theorem tp_y_of (x : Int32) : Int32.ofInt (tp_y x : Int) = x + (-2145384448) := tp_un (x + (-2145384448))
theorem tp_dg_sum (x : Int32) : tp_dg 0 x * tp_W 0 + tp_dg 1 x * tp_W 1 + tp_rs x = x := by
  have h1 : (tp_y x : Int) = ((tp_y x / 4194304 : Nat) : Int) * 4194304 + ((tp_y x / 4096 % 1024 : Nat) : Int) * 4096 + ((tp_y x % 4096 : Nat) : Int) := by omega
  have h2 := congrArg Int32.ofInt h1
  rw [tp_y_of, Int32.ofInt_add, Int32.ofInt_add, Int32.ofInt_mul, Int32.ofInt_mul] at h2
  have e1 : Int32.ofInt 4194304 = 4194304 := rfl
  have e2 : Int32.ofInt 4096 = 4096 := rfl
  rw [e1, e2] at h2
  show (Int32.ofInt ((tp_y x / 4194304 : Nat) : Int) - 512) * 4194304 + (Int32.ofInt ((tp_y x / 4096 % 1024 : Nat) : Int) - 512) * 4096 + (Int32.ofInt ((tp_y x % 4096 : Nat) : Int) - 2048) = x
  generalize Int32.ofInt ((tp_y x / 4194304 : Nat) : Int) = a at h2 ⊢
  generalize Int32.ofInt ((tp_y x / 4096 % 1024 : Nat) : Int) = b at h2 ⊢
  generalize Int32.ofInt ((tp_y x % 4096 : Nat) : Int) = c at h2 ⊢
  grind
theorem tp_dg_sm (w : Nat) (x : Int32) : tp_sm 512 (tp_dg w x) := by
  have hy := tp_y_lt x
  unfold tp_dg
  by_cases hw : w = 0
  · rw [if_pos hw]
    exact ⟨((tp_y x / 4194304 : Nat) : Int) - 512, by omega, by rw [Int32.ofInt_sub]; rfl⟩
  · rw [if_neg hw]
    exact ⟨((tp_y x / 4096 % 1024 : Nat) : Int) - 512, by omega, by rw [Int32.ofInt_sub]; rfl⟩
theorem tp_rs_sm (x : Int32) : tp_sm 2048 (tp_rs x) := by
  unfold tp_rs
  exact ⟨((tp_y x % 4096 : Nat) : Int) - 2048, by omega, by rw [Int32.ofInt_sub]; rfl⟩
/-- where a help row hides: half 1 at the wheel's own half, half 0 behind the key -/
def tp_unit (s : Nat → Int32) (h : Nat) (k : Int) : Int32 := if h = 0 then - tp_sum 32 (fun m => s m * tp_ext tp_one (k - (m : Int))) else tp_ext tp_one k
/-- a pair that hides the key's bit times a weight, within 4 -/
def tp_help (s : Nat → Int32) (v : Int32) (h : Nat) (a b : Nat → Int32) : Prop := ∀ k : Int, tp_sm 4 (tp_ph s a b k - v * tp_unit s h k)
theorem tp_unit_sum0 (s x : Nat → Int32) (j : Int) : tp_sum 32 (fun k => x k * tp_unit s 0 (j - (k : Int))) = - tp_sum 32 (fun m => s m * tp_ext x (j - (m : Int))) := by
  have e : ∀ k, k < 32 → x k * tp_unit s 0 (j - (k : Int)) = - tp_sum 32 (fun m => s m * (x k * tp_ext tp_one (j - (m : Int) - (k : Int)))) := by
    intro k _
    unfold tp_unit
    rw [if_pos rfl]
    have e1 : x k * - tp_sum 32 (fun m => s m * tp_ext tp_one (j - (k : Int) - (m : Int))) = - (x k * tp_sum 32 (fun m => s m * tp_ext tp_one (j - (k : Int) - (m : Int)))) := by grind
    rw [e1, ← tp_sum_mul]
    refine congrArg (fun z => - z) (tp_sum_congr (fun m _ => ?_))
    have e2 : j - (k : Int) - m = j - m - k := by omega
    rw [e2]
    grind
  rw [tp_sum_congr e, tp_sum_neg, tp_sum_swap]
  refine congrArg (fun z => - z) (tp_sum_congr (fun m _ => ?_))
  rw [tp_sum_mul, tp_ext_sum]
theorem tp_unit_sum1 (s x : Nat → Int32) (j : Int) : tp_sum 32 (fun k => x k * tp_unit s 1 (j - (k : Int))) = tp_ext x j := by
  rw [← tp_ext_sum x j]
  exact tp_sum_congr (fun k _ => by unfold tp_unit; rw [if_neg (by decide)])
/-- one help row taken digit by digit: what it adds, up to noise -/
theorem tp_take {s d : Nat → Int32} {v : Int32} {h : Nat} {a b : Nat → Int32} (hh : tp_help s v h a b) (hd : ∀ k, k < 32 → tp_sm 512 (d k)) (j : Int) :
    tp_sm 65536 (tp_sum 32 (fun k => d k * tp_ph s a b (j - (k : Int))) - v * tp_sum 32 (fun k => d k * tp_unit s h (j - (k : Int)))) := by
  have e : tp_sum 32 (fun k => d k * tp_ph s a b (j - (k : Int))) - v * tp_sum 32 (fun k => d k * tp_unit s h (j - (k : Int))) = tp_sum 32 (fun k => d k * (tp_ph s a b (j - (k : Int)) - v * tp_unit s h (j - (k : Int)))) := by
    rw [← tp_sum_mul, ← tp_sum_sub]
    exact tp_sum_congr (fun k _ => by grind)
  rw [e]
  exact tp_sm_mono (tp_sm_sum (n := 32) (c := 2048) (fun k hk => tp_sm_mul (hd k hk) (hh _))) (by decide)
/-- both digits of a half -/
theorem tp_take2 {s c : Nat → Int32} {κ : Int32} {h : Nat} {a0 b0 a1 b1 : Nat → Int32} (h0 : tp_help s (κ * tp_W 0) h a0 b0) (h1 : tp_help s (κ * tp_W 1) h a1 b1) (j : Int) :
    tp_sm 131072 (tp_sum 32 (fun k => tp_dg 0 (c k) * tp_ph s a0 b0 (j - (k : Int))) + tp_sum 32 (fun k => tp_dg 1 (c k) * tp_ph s a1 b1 (j - (k : Int)))
      - κ * tp_sum 32 (fun k => (c k - tp_rs (c k)) * tp_unit s h (j - (k : Int)))) := by
  have q0 := tp_take (d := fun k => tp_dg 0 (c k)) h0 (fun k _ => tp_dg_sm 0 (c k)) j
  have q1 := tp_take (d := fun k => tp_dg 1 (c k)) h1 (fun k _ => tp_dg_sm 1 (c k)) j
  have e : κ * tp_sum 32 (fun k => (c k - tp_rs (c k)) * tp_unit s h (j - (k : Int))) = κ * tp_W 0 * tp_sum 32 (fun k => tp_dg 0 (c k) * tp_unit s h (j - (k : Int))) + κ * tp_W 1 * tp_sum 32 (fun k => tp_dg 1 (c k) * tp_unit s h (j - (k : Int))) := by
    rw [← tp_sum_mul, ← tp_sum_mul, ← tp_sum_mul, ← tp_sum_add]
    refine tp_sum_congr (fun k _ => ?_)
    have e1 := tp_dg_sum (c k)
    generalize tp_unit s h (j - (k : Int)) = u
    generalize tp_rs (c k) = r at e1 ⊢
    generalize tp_dg 0 (c k) = d0 at e1 ⊢
    generalize tp_dg 1 (c k) = d1 at e1 ⊢
    generalize tp_W 0 = w0 at e1 ⊢
    generalize tp_W 1 = w1 at e1 ⊢
    rw [← e1]
    grind
  have q := tp_sm_add q0 q1
  rw [e]
  refine tp_sm_mono (b := 131072) ?_ (Nat.le_refl _)
  have e2 : ∀ A B C D : Int32, A + B - (C + D) = A - C + (B - D) := by intro A B C D; grind
  rw [e2]
  exact q
/-- 33 rests are small -/
theorem tp_rests {s ca cb : Nat → Int32} (hs : ∀ i, i < 32 → tp_bit (s i)) (j : Int) : tp_sm 67584 (tp_ph s (fun i => tp_rs (ca i)) (fun i => tp_rs (cb i)) j) := by
  unfold tp_ph
  exact tp_sm_mono (tp_sm_sub (tp_ext_sm (n := 2048) (fun i _ => tp_rs_sm (cb i)) j) (tp_sm_sum (n := 32) (c := 1 * 2048) (fun i hi => tp_sm_mul (tp_bit_sm (hs i hi)) (tp_ext_sm (n := 2048) (fun i _ => tp_rs_sm (ca i)) _)))) (by decide)
/-- a step: the wheel is turned by t if the key's bit is 1, up to noise -/
theorem tp_step {s wa wb ca cb : Nat → Int32} {κ : Int32} {t : Int} {a00 b00 a01 b01 a10 b10 a11 b11 : Nat → Int32} {g : Int → Int32} (hs : ∀ i, i < 32 → tp_bit (s i)) (hκ : tp_bit κ)
    (h00 : tp_help s (κ * tp_W 0) 0 a00 b00) (h01 : tp_help s (κ * tp_W 1) 0 a01 b01) (h10 : tp_help s (κ * tp_W 0) 1 a10 b10) (h11 : tp_help s (κ * tp_W 1) 1 a11 b11)
    (hca : ∀ i : Nat, i < 32 → ca i = tp_ext wa ((i : Int) - t) - wa i) (hcb : ∀ i : Nat, i < 32 → cb i = tp_ext wb ((i : Int) - t) - wb i)
    (hg : ∀ j : Int, g j = tp_ph s wa wb j + tp_sum 32 (fun k => tp_dg 0 (ca k) * tp_ph s a00 b00 (j - (k : Int))) + tp_sum 32 (fun k => tp_dg 1 (ca k) * tp_ph s a01 b01 (j - (k : Int)))
      + tp_sum 32 (fun k => tp_dg 0 (cb k) * tp_ph s a10 b10 (j - (k : Int))) + tp_sum 32 (fun k => tp_dg 1 (cb k) * tp_ph s a11 b11 (j - (k : Int)))) (j : Int) :
    tp_sm 329728 (g j - tp_ph s wa wb (j - (if κ = 1 then t else 0))) := by
  have q0 := tp_take2 (c := ca) h00 h01 j
  have q1 := tp_take2 (c := cb) h10 h11 j
  rw [tp_unit_sum0] at q0
  rw [tp_unit_sum1] at q1
  have hr := tp_rests (ca := ca) (cb := cb) hs j
  have hc : tp_ph s ca cb j = tp_ph s wa wb (j - t) - tp_ph s wa wb j := by
    have e := tp_ph_add (s := s) (a := fun i => - wa i) (b := fun i => - wb i) (a' := ca) (b' := cb) (sa := wa) (sb := wb) (c := 1) (t := t) (fun i hi => by rw [hca i hi]; grind) (fun i hi => by rw [hcb i hi]; grind) j
    have e2 := tp_ph_add (s := s) (a := fun _ => 0) (b := fun _ => 0) (a' := fun i => - wa i) (b' := fun i => - wb i) (sa := wa) (sb := wb) (c := -1) (t := 0) (fun i hi => by rw [Int.sub_zero, tp_ext_lt hi]; grind) (fun i hi => by rw [Int.sub_zero, tp_ext_lt hi]; grind) j
    have e3 : tp_ph s (fun _ => 0) (fun _ => 0) j = 0 := by
      have z : ∀ k : Int, tp_ext (fun _ => (0 : Int32)) k = 0 := by
        intro k
        unfold tp_ext
        by_cases h1 : k % 64 < 32
        · rw [if_pos h1]
        · rw [if_neg h1]; show -(0 : Int32) = 0; decide
      unfold tp_ph
      rw [z, tp_sum_congr (g := fun _ => 0) (fun i _ => by rw [z]; grind), tp_sum_zero]
      rfl
    rw [e3, Int.sub_zero] at e2
    rw [e2] at e
    rw [e]
    grind
  have hx : tp_ext (fun k => cb k - tp_rs (cb k)) j + - tp_sum 32 (fun m => s m * tp_ext (fun k => ca k - tp_rs (ca k)) (j - (m : Int))) = tp_ph s ca cb j - tp_ph s (fun i => tp_rs (ca i)) (fun i => tp_rs (cb i)) j := by
    have z : ∀ (c : Nat → Int32) (k : Int), tp_ext (fun k => c k - tp_rs (c k)) k = tp_ext c k - tp_ext (fun k => tp_rs (c k)) k := by
      intro c k
      rw [tp_ext_lin (f := c) (g := fun k => tp_rs (c k)) (h := fun k => c k - tp_rs (c k)) (c := 1) (d := -1) (fun i _ => by grind) k]
      grind
    unfold tp_ph
    rw [z, tp_sum_congr (g := fun m => s m * tp_ext ca (j - (m : Int)) - s m * tp_ext (fun k => tp_rs (ca k)) (j - (m : Int))) (fun m _ => by rw [z]; grind), tp_sum_sub]
    grind
  have hsm := tp_sm_sub (tp_sm_add q0 q1) (tp_sm_mul (tp_bit_sm hκ) hr)
  have hE : g j - tp_ph s wa wb (j - (if κ = 1 then t else 0)) = (tp_sum 32 (fun k => tp_dg 0 (ca k) * tp_ph s a00 b00 (j - (k : Int))) + tp_sum 32 (fun k => tp_dg 1 (ca k) * tp_ph s a01 b01 (j - (k : Int))) - κ * - tp_sum 32 (fun m => s m * tp_ext (fun k => ca k - tp_rs (ca k)) (j - (m : Int)))
      + (tp_sum 32 (fun k => tp_dg 0 (cb k) * tp_ph s a10 b10 (j - (k : Int))) + tp_sum 32 (fun k => tp_dg 1 (cb k) * tp_ph s a11 b11 (j - (k : Int))) - κ * tp_ext (fun k => cb k - tp_rs (cb k)) j)) - κ * tp_ph s (fun i => tp_rs (ca i)) (fun i => tp_rs (cb i)) j := by
    have hk : tp_ph s wa wb (j - (if κ = 1 then t else 0)) = tp_ph s wa wb j + κ * tp_ph s ca cb j := by
      rcases hκ with rfl | rfl
      · rw [if_neg (by decide), Int.sub_zero]
        grind
      · rw [if_pos rfl, hc]
        grind
    rw [hg j, hk]
    generalize tp_sum 32 (fun k => tp_dg 0 (ca k) * tp_ph s a00 b00 (j - (k : Int))) = A at *
    generalize tp_sum 32 (fun k => tp_dg 1 (ca k) * tp_ph s a01 b01 (j - (k : Int))) = B at *
    generalize tp_sum 32 (fun k => tp_dg 0 (cb k) * tp_ph s a10 b10 (j - (k : Int))) = C at *
    generalize tp_sum 32 (fun k => tp_dg 1 (cb k) * tp_ph s a11 b11 (j - (k : Int))) = D at *
    generalize tp_ext (fun k => cb k - tp_rs (cb k)) j = F at *
    generalize tp_sum 32 (fun m => s m * tp_ext (fun k => ca k - tp_rs (ca k)) (j - (m : Int))) = G at *
    generalize tp_ph s (fun i => tp_rs (ca i)) (fun i => tp_rs (cb i)) j = I at *
    generalize tp_ph s ca cb j = J at *
    generalize tp_ph s wa wb j = K at *
    have e : J = F + - G + I := by rw [hx]; grind
    rw [e]
    grind
  rw [hE]
  exact tp_sm_mono hsm (by decide)
