/-! the abstract state that class and reference share: which numbers are there, bound and value of each, the lines, gates done, refusals; and how the class's world stands to it. My own. -/
abbrev tA : Type := (Nat → Bool) × (Nat → Nat) × (Nat → Bool) × Nat × (Nat → Nat × Nat × Nat) × Int32 × Int32
def aT (α : tA) : Nat → Bool := α.1
def aB (α : tA) : Nat → Nat := α.2.1
def aV (α : tA) : Nat → Bool := α.2.2.1
def aZ (α : tA) : Nat := α.2.2.2.1
def aL (α : tA) : Nat → Nat × Nat × Nat := α.2.2.2.2.1
def aG (α : tA) : Int32 := α.2.2.2.2.2.1
def aR (α : tA) : Int32 := α.2.2.2.2.2.2
def aMade (α : tA) (q : Nat) (z : Bool) (b : Nat) : tA := (va_up (aT α) q true, va_up (aB α) q b, va_up (aV α) q z, aZ α, aL α, aG α, aR α)
def aDrop (α : tA) (q : Nat) : tA := (va_up (aT α) q false, aB α, aV α, aZ α, aL α, aG α, aR α)
def aBound (α : tA) (q b : Nat) : tA := (aT α, va_up (aB α) q b, aV α, aZ α, aL α, aG α, aR α)
def aKey (α : tA) : tA := (fun _ => false, aB α, aV α, aZ α, aL α, aG α, aR α)
def aGates (α : tA) (g : Int32) : tA := (aT α, aB α, aV α, aZ α, aL α, g, aR α)
def aRefus (α : tA) : tA := (aT α, aB α, aV α, aZ α, aL α, aG α, aR α + 1)
def aLine (α : tA) (ln : Nat × Nat × Nat) : tA := (aT α, aB α, aV α, aZ α + 1, va_up (aL α) (aZ α) ln, aG α, aR α)
def aClear (α : tA) : tA := (aT α, aB α, aV α, 0, aL α, aG α, aR α)
def aCnt (f : Nat → Bool) : Nat → Nat
  | 0 => 0
  | n + 1 => aCnt f n + (if f n then 1 else 0)
def aFree (α : tA) (q : Nat) : Prop := q < 120 ∧ aT α q = false ∧ ∀ j, j < q → aT α j = true
def aFull (α : tA) : Prop := ∀ j, j < 120 → aT α j = true
def aHas (α : tA) (a : Int32) : Prop := ∃ q, q < 120 ∧ a = nI q ∧ aT α q = true
theorem aCnt_le (f : Nat → Bool) (n : Nat) : aCnt f n ≤ n := by
  induction n with
  | zero => exact Nat.le_refl _
  | succ n ih => unfold aCnt; split <;> omega
theorem aCnt_congr {f g : Nat → Bool} {n : Nat} (h : ∀ j, j < n → f j = g j) : aCnt f n = aCnt g n := by
  induction n with
  | zero => rfl
  | succ n ih => unfold aCnt; rw [ih (fun j hj => h j (by omega)), h n (by omega)]
theorem aCnt_on {f : Nat → Bool} {n q : Nat} (hq : q < n) (hf : f q = false) : aCnt (va_up f q true) n = aCnt f n + 1 := by
  induction n with
  | zero => omega
  | succ n ih =>
    unfold aCnt
    by_cases h : q = n
    · subst h
      rw [va_up_self, hf, aCnt_congr (g := f) (fun j hj => va_up_ne _ _ (by omega))]
      rfl
    · rw [ih (by omega), va_up_ne _ _ (fun z => h z.symm)]
      omega
theorem aCnt_off {f : Nat → Bool} {n q : Nat} (hq : q < n) (hf : f q = true) : aCnt (va_up f q false) n + 1 = aCnt f n := by
  induction n with
  | zero => omega
  | succ n ih =>
    unfold aCnt
    by_cases h : q = n
    · subst h
      rw [va_up_self, hf, aCnt_congr (g := f) (fun j hj => va_up_ne _ _ (by omega))]
      rfl
    · rw [va_up_ne _ _ (fun z => h z.symm), ← ih (by omega)]
      omega
theorem aCnt_none (n : Nat) : aCnt (fun _ => false) n = 0 := by
  induction n with
  | zero => rfl
  | succ n ih => unfold aCnt; rw [ih]; rfl
theorem aCnt_full {f : Nat → Bool} {n : Nat} (h : ∀ j, j < n → f j = true) : aCnt f n = n := by
  induction n with
  | zero => rfl
  | succ n ih => unfold aCnt; rw [ih (fun j hj => h j (by omega)), h n (by omega)]; rfl
theorem aCnt_lt {f : Nat → Bool} {n q : Nat} (hq : q < n) (hf : f q = false) : aCnt f n < n := by
  have h1 := aCnt_on hq hf
  have h2 := aCnt_le (va_up f q true) n
  omega
theorem aFree_or (α : tA) : (∃ q, aFree α q) ∨ aFull α := by
  have h : ∀ n, (∃ q, q < n ∧ aT α q = false ∧ ∀ j, j < q → aT α j = true) ∨ ∀ j, j < n → aT α j = true := by
    intro n
    induction n with
    | zero => exact Or.inr (fun j hj => absurd hj (Nat.not_lt_zero _))
    | succ n ih =>
      rcases ih with ⟨q, h1, h2, h3⟩ | h
      · exact Or.inl ⟨q, by omega, h2, h3⟩
      · cases hn : aT α n with
        | false => exact Or.inl ⟨n, by omega, hn, h⟩
        | true => exact Or.inr (fun j hj => by by_cases q : j = n; rw [q]; exact hn; exact h j (by omega))
  rcases h 120 with ⟨q, h1, h2, h3⟩ | h
  · exact Or.inl ⟨q, h1, h2, h3⟩
  · exact Or.inr h
/-- a cell that is there: its bound, its value, and how near its row lies -/
def tCok (v : Nat → Nat → Int32) (k b : Nat) (z : Bool) : Prop := b < 1073741824 ∧ v k 1 = nI b ∧ v k 2 = tBi z ∧ tp_near (v 3) (v (k + 1)) z b
def tLn (v : Nat → Nat → Int32) (i : Nat) (ln : Nat × Nat × Nat) : Prop := (v 351 i = nI ln.1 ∧ ln.1 < 8) ∧ (v 352 i = nI ln.2.1 ∧ ln.2.1 < 8 + i) ∧ v 353 i = nI ln.2.2 ∧ ln.2.2 < 8 + i
def tR (α : tA) (v : Nat → Nat → Int32) : Prop :=
  tKey v ∧ (∀ q, q < 120 → v (110 + 2 * q) 3 = tBi (aT α q) ∧ (aT α q = true → tCok v (110 + 2 * q) (aB α q) (aV α q))) ∧ v 108 1 = nI (aCnt (aT α) 120) ∧ (aZ α ≤ 24 ∧ v 350 3 = nI (aZ α) ∧ ∀ i, i < aZ α → tLn v i (aL α i)) ∧ v 0 10 = aG α ∧ v 0 11 = aR α
theorem tCok_eq {v v' : Nat → Nat → Int32} {k b : Nat} {z : Bool} (h : tCok v k b z) (e3 : v' 3 = v 3) (e1 : v' k = v k) (e2 : v' (k + 1) = v (k + 1)) : tCok v' k b z := by
  unfold tCok
  rw [e3, e1, e2]
  exact h
theorem tLn_eq {v v' : Nat → Nat → Int32} {i : Nat} {ln : Nat × Nat × Nat} (h : tLn v i ln) (e1 : v' 351 = v 351) (e2 : v' 352 = v 352) (e3 : v' 353 = v 353) : tLn v' i ln := by
  unfold tLn
  rw [e1, e2, e3]
  exact h
theorem tBi_t {z : Bool} : tBi z ≠ 0 ↔ z = true := by cases z <;> simp [tBi]
theorem tR_has {α : tA} {v : Nat → Nat → Int32} (h : tR α v) (a : Int32) : tHas v a ↔ aHas α a := by
  constructor
  · rintro ⟨q, h1, h2, h3⟩
    exact ⟨q, h1, h2, tBi_t.mp (by rw [← (h.2.1 q h1).1]; exact h3)⟩
  · rintro ⟨q, h1, h2, h3⟩
    exact ⟨q, h1, h2, by rw [(h.2.1 q h1).1]; exact tBi_t.mpr h3⟩
theorem tR_th {α : tA} {v : Nat → Nat → Int32} (h : tR α v) {q : Nat} (hq : q < 120) (ht : aT α q = true) : v (110 + 2 * q) 3 ≠ 0 := by
  rw [(h.2.1 q hq).1]
  exact tBi_t.mpr ht
theorem tR_fr {α : tA} {v : Nat → Nat → Int32} (h : tR α v) {q : Nat} (hf : aFree α q) : v (110 + 2 * q) 3 = 0 ∧ ∀ j, j < q → v (110 + 2 * j) 3 ≠ 0 :=
  ⟨by rw [(h.2.1 q hf.1).1, hf.2.1]; rfl, fun j hj => tR_th h (Nat.lt_trans hj hf.1) (hf.2.2 j hj)⟩
theorem tR_fl {α : tA} {v : Nat → Nat → Int32} (h : tR α v) (hf : aFull α) : ∀ j, j < 120 → v (110 + 2 * j) 3 ≠ 0 := fun j hj => tR_th h hj (hf j hj)
/-- a new number -/
theorem tR_made {α : tA} {v v' : Nat → Nat → Int32} {q b : Nat} {z : Bool} {g : Int32} (h : tR α v) (hf : aFree α q) (hs : ∀ k, k ≠ 0 → k ≠ 104 → k ≠ 105 → k ≠ 107 → k ≠ 108 → k ≠ 110 + 2 * q → k ≠ 110 + 2 * q + 1 → ¬ (355 ≤ k ∧ k < 424) → v' k = v k)
    (h8 : v' 108 1 = v 108 1 + 1) (h3 : v' (110 + 2 * q) 3 = 1) (hc : tCok v' (110 + 2 * q) b z) (h10 : v' 0 10 = g) (h11 : v' 0 11 = v 0 11) : tR (aGates (aMade α q z b) g) v' := by
  obtain ⟨k1, k2, k3, ⟨k4, k5, k6⟩, k7, k8⟩ := h
  have hq := hf.1
  have e : ∀ k, k < 104 → k ≠ 0 → v' k = v k := fun k h1 h0 => hs k h0 (by omega) (by omega) (by omega) (by omega) (by omega) (by omega) (by omega)
  refine ⟨?_, fun j hj => ?_, ?_, ⟨k4, ?_, fun i hi => ?_⟩, h10, ?_⟩
  · refine ⟨fun i hi => ?_, fun i hi => ?_, fun i hh w a1 a2 a3 => ?_, fun i w a1 a2 => ?_⟩
    · rw [e 3 (by decide) (by decide)]; exact k1.1 i hi
    · rw [e 4 (by decide) (by decide)]; exact k1.2.1 i hi
    · unfold th_step
      rw [e 4 (by decide) (by decide), e 3 (by decide) (by decide), e (7 + (4 * i + 2 * hh + w)) (by omega) (by omega)]
      exact k1.2.2.1 i hh w a1 a2 a3
    · unfold th_way
      rw [e 4 (by decide) (by decide), e 3 (by decide) (by decide), e (40 + (2 * i + w)) (by omega) (by omega)]
      exact k1.2.2.2 i w a1 a2
  · show v' (110 + 2 * j) 3 = tBi (va_up (aT α) q true j) ∧ (va_up (aT α) q true j = true → tCok v' (110 + 2 * j) (va_up (aB α) q b j) (va_up (aV α) q z j))
    by_cases hjq : j = q
    · subst hjq
      rw [va_up_self, va_up_self, va_up_self]
      exact ⟨h3, fun _ => hc⟩
    · rw [va_up_ne _ _ hjq, va_up_ne _ _ hjq, va_up_ne _ _ hjq]
      have e1 : v' (110 + 2 * j) = v (110 + 2 * j) := hs _ (by omega) (by omega) (by omega) (by omega) (by omega) (by omega) (by omega) (by omega)
      have e2 : v' (110 + 2 * j + 1) = v (110 + 2 * j + 1) := hs _ (by omega) (by omega) (by omega) (by omega) (by omega) (by omega) (by omega) (by omega)
      rw [e1]
      exact ⟨(k2 j hj).1, fun z => tCok_eq ((k2 j hj).2 z) (e 3 (by decide) (by decide)) e1 e2⟩
  · show v' 108 1 = nI (aCnt (va_up (aT α) q true) 120)
    rw [h8, k3, aCnt_on hq hf.2.1, nI_1]
  · rw [hs 350 (by decide) (by decide) (by decide) (by decide) (by decide) (by omega) (by omega) (by decide)]
    exact k5
  · exact tLn_eq (k6 i hi) (hs _ (by decide) (by decide) (by decide) (by decide) (by decide) (by omega) (by omega) (by decide)) (hs _ (by decide) (by decide) (by decide) (by decide) (by decide) (by omega) (by omega) (by decide)) (hs _ (by decide) (by decide) (by decide) (by decide) (by decide) (by omega) (by omega) (by decide))
  · rw [h11]; exact k8
theorem aGates_same (α : tA) : aGates α (aG α) = α := rfl
/-- a cell's row and bound -/
theorem tR_bound {α : tA} {v v' : Nat → Nat → Int32} {q b : Nat} (h : tR α v) (hq : q < 120) (ht : aT α q = true) (hs : ∀ k, k ≠ 110 + 2 * q → k ≠ 110 + 2 * q + 1 → k ≠ 423 → v' k = v k) (h3 : v' (110 + 2 * q) 3 = v (110 + 2 * q) 3) (hc : tCok v' (110 + 2 * q) b (aV α q)) : tR (aBound α q b) v' := by
  obtain ⟨k1, k2, k3, ⟨k4, k5, k6⟩, k7, k8⟩ := h
  refine ⟨tKey_eq k1 (fun k hk => hs k (by omega) (by omega) (by omega)), fun j hj => ?_, ?_, ⟨k4, ?_, fun i hi => ?_⟩, ?_, ?_⟩
  · show v' (110 + 2 * j) 3 = tBi (aT α j) ∧ (aT α j = true → tCok v' (110 + 2 * j) (va_up (aB α) q b j) (aV α j))
    by_cases hjq : j = q
    · subst hjq
      rw [va_up_self, h3]
      exact ⟨(k2 j hj).1, fun _ => hc⟩
    · rw [va_up_ne _ _ hjq]
      have e1 : v' (110 + 2 * j) = v (110 + 2 * j) := hs _ (by omega) (by omega) (by omega)
      have e2 : v' (110 + 2 * j + 1) = v (110 + 2 * j + 1) := hs _ (by omega) (by omega) (by omega)
      rw [e1]
      exact ⟨(k2 j hj).1, fun z => tCok_eq ((k2 j hj).2 z) (hs 3 (by omega) (by omega) (by omega)) e1 e2⟩
  · rw [hs 108 (by omega) (by omega) (by omega)]; exact k3
  · rw [hs 350 (by omega) (by omega) (by omega)]; exact k5
  · exact tLn_eq (k6 i hi) (hs _ (by omega) (by omega) (by omega)) (hs _ (by omega) (by omega) (by omega)) (hs _ (by omega) (by omega) (by omega))
  · rw [hs 0 (by omega) (by omega) (by omega)]; exact k7
  · rw [hs 0 (by omega) (by omega) (by omega)]; exact k8
/-- a number goes -/
theorem tR_drop {α : tA} {v v' : Nat → Nat → Int32} {q : Nat} (h : tR α v) (hq : q < 120) (ht : aT α q = true) (e : v' = va_up (va_up v (110 + 2 * q) (upd (v (110 + 2 * q)) 3 0)) 108 (upd (v 108) 1 (v 108 1 - 1))) : tR (aDrop α q) v' ∧ v' 108 1 = nI (aCnt (aT (aDrop α q)) 120) := by
  obtain ⟨k1, k2, k3, ⟨k4, k5, k6⟩, k7, k8⟩ := h
  have hs : ∀ k, k ≠ 110 + 2 * q → k ≠ 108 → v' k = v k := fun k a b => by rw [e, va_up_ne _ _ b, va_up_ne _ _ a]
  have h8 : v' 108 1 = nI (aCnt (aT (aDrop α q)) 120) := by
    show v' 108 1 = nI (aCnt (va_up (aT α) q false) 120)
    have h1 := aCnt_off hq ht
    rw [e, va_up_self, pk_us, k3, ← h1, ← nI_1, Int32.add_sub_cancel]
  refine ⟨⟨tKey_eq k1 (fun k hk => hs k (by omega) (by omega)), fun j hj => ?_, h8, ⟨k4, ?_, fun i hi => ?_⟩, ?_, ?_⟩, h8⟩
  · show v' (110 + 2 * j) 3 = tBi (va_up (aT α) q false j) ∧ (va_up (aT α) q false j = true → tCok v' (110 + 2 * j) (aB α j) (aV α j))
    by_cases hjq : j = q
    · subst hjq
      rw [va_up_self, e, va_up_ne _ _ (by omega), va_up_self, pk_us]
      exact ⟨rfl, fun z => by cases z⟩
    · rw [va_up_ne _ _ hjq]
      have e1 : v' (110 + 2 * j) = v (110 + 2 * j) := hs _ (by omega) (by omega)
      have e2 : v' (110 + 2 * j + 1) = v (110 + 2 * j + 1) := hs _ (by omega) (by omega)
      rw [e1]
      exact ⟨(k2 j hj).1, fun z => tCok_eq ((k2 j hj).2 z) (hs 3 (by omega) (by omega)) e1 e2⟩
  · rw [hs 350 (by omega) (by omega)]; exact k5
  · exact tLn_eq (k6 i hi) (hs _ (by omega) (by omega)) (hs _ (by omega) (by omega)) (hs _ (by omega) (by omega))
  · rw [hs 0 (by omega) (by omega)]; exact k7
  · rw [hs 0 (by omega) (by omega)]; exact k8
/-- all numbers go, the key is new -/
theorem tR_key {α : tA} {v v' : Nat → Nat → Int32} (h : tR α v) (hk : tKey v') (h1 : ∀ j, j < 120 → v' (110 + 2 * j) 3 = 0) (h2 : v' 108 1 = 0) (hs : ∀ k, k = 0 ∨ 350 ≤ k → v' k = v k) : tR (aKey α) v' := by
  obtain ⟨k1, k2, k3, ⟨k4, k5, k6⟩, k7, k8⟩ := h
  refine ⟨hk, fun j hj => ⟨h1 j hj, fun z => by cases z⟩, ?_, ⟨k4, ?_, fun i hi => ?_⟩, ?_, ?_⟩
  · show v' 108 1 = nI (aCnt (fun _ => false) 120)
    rw [h2, aCnt_none]; rfl
  · rw [hs 350 (by omega)]; exact k5
  · exact tLn_eq (k6 i hi) (hs _ (by omega)) (hs _ (by omega)) (hs _ (by omega))
  · rw [hs 0 (by omega)]; exact k7
  · rw [hs 0 (by omega)]; exact k8
theorem tR_ref {α : tA} {v v' : Nat → Nat → Int32} (h : tR α v) (e : v' = va_up v 0 (upd (v 0) 11 (v 0 11 + 1))) : tR (aRefus α) v' := by
  obtain ⟨k1, k2, k3, ⟨k4, k5, k6⟩, k7, k8⟩ := h
  have hs : ∀ k, k ≠ 0 → v' k = v k := fun k a => by rw [e, va_up_ne _ _ a]
  refine ⟨?_, fun j hj => ?_, ?_, ⟨k4, ?_, fun i hi => ?_⟩, ?_, ?_⟩
  · refine ⟨fun i hi => ?_, fun i hi => ?_, fun i hh w a1 a2 a3 => ?_, fun i w a1 a2 => ?_⟩
    · rw [hs 3 (by decide)]; exact k1.1 i hi
    · rw [hs 4 (by decide)]; exact k1.2.1 i hi
    · unfold th_step
      rw [hs 4 (by decide), hs 3 (by decide), hs (7 + (4 * i + 2 * hh + w)) (by omega)]
      exact k1.2.2.1 i hh w a1 a2 a3
    · unfold th_way
      rw [hs 4 (by decide), hs 3 (by decide), hs (40 + (2 * i + w)) (by omega)]
      exact k1.2.2.2 i w a1 a2
  · rw [hs (110 + 2 * j) (by omega)]
    exact ⟨(k2 j hj).1, fun z => tCok_eq ((k2 j hj).2 z) (hs 3 (by decide)) (hs _ (by omega)) (hs _ (by omega))⟩
  · rw [hs 108 (by decide)]; exact k3
  · rw [hs 350 (by decide)]; exact k5
  · exact tLn_eq (k6 i hi) (hs _ (by decide)) (hs _ (by decide)) (hs _ (by decide))
  · rw [e, va_up_self, pk_un (by decide)]; exact k7
  · show v' 0 11 = aR α + 1
    rw [e, va_up_self, pk_us, k8]
/-- lines -/
theorem tR_line {α : tA} {v v' : Nat → Nat → Int32} {ln : Nat × Nat × Nat} (h : tR α v) (hz : aZ α < 24) (h1 : ln.1 < 8) (h2 : ln.2.1 < 8 + aZ α) (h3 : ln.2.2 < 8 + aZ α)
    (e : v' = va_up (va_up (va_up (va_up v 351 (upd (v 351) (aZ α) (nI ln.1))) 352 (upd (v 352) (aZ α) (nI ln.2.1))) 353 (upd (v 353) (aZ α) (nI ln.2.2))) 350 (upd (v 350) 3 (nI (aZ α + 1)))) : tR (aLine α ln) v' := by
  obtain ⟨k1, k2, k3, ⟨k4, k5, k6⟩, k7, k8⟩ := h
  have hs : ∀ k, k ≠ 350 → k ≠ 351 → k ≠ 352 → k ≠ 353 → v' k = v k := fun k a b c d => by rw [e, va_up_ne _ _ a, va_up_ne _ _ d, va_up_ne _ _ c, va_up_ne _ _ b]
  have e1 : v' 351 = upd (v 351) (aZ α) (nI ln.1) := by rw [e, va_up_ne _ _ (by decide), va_up_ne _ _ (by decide), va_up_ne _ _ (by decide), va_up_self]
  have e2 : v' 352 = upd (v 352) (aZ α) (nI ln.2.1) := by rw [e, va_up_ne _ _ (by decide), va_up_ne _ _ (by decide), va_up_self]
  have e3 : v' 353 = upd (v 353) (aZ α) (nI ln.2.2) := by rw [e, va_up_ne _ _ (by decide), va_up_self]
  refine ⟨tKey_eq k1 (fun k hk => hs k (by omega) (by omega) (by omega) (by omega)), fun j hj => ?_, ?_, ⟨hz, ?_, fun i hi => ?_⟩, ?_, ?_⟩
  · rw [hs (110 + 2 * j) (by omega) (by omega) (by omega) (by omega)]
    exact ⟨(k2 j hj).1, fun z => tCok_eq ((k2 j hj).2 z) (hs 3 (by decide) (by decide) (by decide) (by decide)) (hs _ (by omega) (by omega) (by omega) (by omega)) (hs _ (by omega) (by omega) (by omega) (by omega))⟩
  · rw [hs 108 (by decide) (by decide) (by decide) (by decide)]; exact k3
  · rw [e, va_up_self, pk_us]; rfl
  · show tLn v' i (va_up (aL α) (aZ α) ln i)
    have hi' : i < aZ α + 1 := hi
    unfold tLn
    rw [e1, e2, e3]
    by_cases q : i = aZ α
    · subst q
      rw [va_up_self, pk_us, pk_us, pk_us]
      exact ⟨⟨rfl, h1⟩, ⟨rfl, h2⟩, rfl, h3⟩
    · rw [va_up_ne _ _ q, pk_un q, pk_un q, pk_un q]
      exact k6 i (by omega)
  · rw [hs 0 (by decide) (by decide) (by decide) (by decide)]; exact k7
  · rw [hs 0 (by decide) (by decide) (by decide) (by decide)]; exact k8
theorem tR_clear {α : tA} {v v' : Nat → Nat → Int32} (h : tR α v) (e : v' = va_up v 350 (upd (v 350) 3 0)) : tR (aClear α) v' := by
  obtain ⟨k1, k2, k3, ⟨k4, k5, k6⟩, k7, k8⟩ := h
  have hs : ∀ k, k ≠ 350 → v' k = v k := fun k a => by rw [e, va_up_ne _ _ a]
  refine ⟨tKey_eq k1 (fun k hk => hs k (by omega)), fun j hj => ?_, ?_, ⟨Nat.zero_le _, ?_, fun i hi => absurd hi (Nat.not_lt_zero _)⟩, ?_, ?_⟩
  · rw [hs (110 + 2 * j) (by omega)]
    exact ⟨(k2 j hj).1, fun z => tCok_eq ((k2 j hj).2 z) (hs 3 (by decide)) (hs _ (by omega)) (hs _ (by omega))⟩
  · rw [hs 108 (by decide)]; exact k3
  · rw [e, va_up_self, pk_us]; rfl
  · rw [hs 0 (by decide)]; exact k7
  · rw [hs 0 (by decide)]; exact k8
