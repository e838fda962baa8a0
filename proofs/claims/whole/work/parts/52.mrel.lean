/-! how the reference's world stands to the abstract state. My own. -/
def mLn (y : mS) (i : Nat) (ln : Nat × Nat × Nat) : Prop := (y 4 i = nI ln.1 ∧ ln.1 < 8) ∧ (y 5 i = nI ln.2.1 ∧ ln.2.1 < 8 + i) ∧ y 6 i = nI ln.2.2 ∧ ln.2.2 < 8 + i
def mOk (α : tA) (y : mS) (q : Nat) : Prop := aB α q < 1073741824 ∧ y 2 q = tBi (aV α q) ∧ y 3 q = nI (aB α q)
def mR (α : tA) (t : Int32) (y : mS) : Prop := (∀ q, q < 120 → y 1 q = tBi (aT α q) ∧ (aT α q = true → mOk α y q)) ∧ y 0 4 = aG α ∧ y 0 5 = aR α ∧ (aZ α ≤ 24 ∧ y 0 6 = nI (aZ α)) ∧ (∀ i, i < aZ α → mLn y i (aL α i)) ∧ y 0 0 = t
theorem mR_code {α : tA} {t c : Int32} {y : mS} (h : mR α t y) : mR α c (va_up y 0 (upd (y 0) 0 c)) := by
  obtain ⟨k1, k2, k3, k4, k5, k6⟩ := h
  refine ⟨fun q hq => ?_, ?_, ?_, ⟨k4.1, ?_⟩, fun i hi => ?_, ?_⟩
  · unfold mOk
    rw [va_up_ne _ _ (by decide), va_up_ne _ _ (by decide), va_up_ne _ _ (by decide)]
    exact k1 q hq
  · rw [va_up_self, pk_un (by decide)]; exact k2
  · rw [va_up_self, pk_un (by decide)]; exact k3
  · rw [va_up_self, pk_un (by decide)]; exact k4.2
  · unfold mLn
    rw [va_up_ne _ _ (by decide), va_up_ne _ _ (by decide), va_up_ne _ _ (by decide)]
    exact k5 i hi
  · rw [va_up_self, pk_us]
theorem mR_gates {α : tA} {t g : Int32} {y : mS} (h : mR α t y) : mR (aGates α g) t (va_up y 0 (upd (y 0) 4 g)) := by
  obtain ⟨k1, k2, k3, k4, k5, k6⟩ := h
  refine ⟨fun q hq => ?_, ?_, ?_, ⟨k4.1, ?_⟩, fun i hi => ?_, ?_⟩
  · unfold mOk
    rw [va_up_ne _ _ (by decide), va_up_ne _ _ (by decide), va_up_ne _ _ (by decide)]
    exact k1 q hq
  · rw [va_up_self, pk_us]; rfl
  · rw [va_up_self, pk_un (by decide)]; exact k3
  · rw [va_up_self, pk_un (by decide)]; exact k4.2
  · unfold mLn
    rw [va_up_ne _ _ (by decide), va_up_ne _ _ (by decide), va_up_ne _ _ (by decide)]
    exact k5 i hi
  · rw [va_up_self, pk_un (by decide)]; exact k6
theorem mR_ref {α : tA} {t : Int32} {y : mS} (h : mR α t y) : mR (aRefus α) t (va_up y 0 (upd (y 0) 5 (y 0 5 + nI 1))) := by
  obtain ⟨k1, k2, k3, k4, k5, k6⟩ := h
  refine ⟨fun q hq => ?_, ?_, ?_, ⟨k4.1, ?_⟩, fun i hi => ?_, ?_⟩
  · unfold mOk
    rw [va_up_ne _ _ (by decide), va_up_ne _ _ (by decide), va_up_ne _ _ (by decide)]
    exact k1 q hq
  · rw [va_up_self, pk_un (by decide)]; exact k2
  · rw [va_up_self, pk_us, k3]; rfl
  · rw [va_up_self, pk_un (by decide)]; exact k4.2
  · unfold mLn
    rw [va_up_ne _ _ (by decide), va_up_ne _ _ (by decide), va_up_ne _ _ (by decide)]
    exact k5 i hi
  · rw [va_up_self, pk_un (by decide)]; exact k6
theorem upd_same (f : Nat → Int32) (k : Nat) : upd f k (f k) = f := by
  funext j
  by_cases h : j = k
  · rw [h, pk_us]
  · rw [pk_un h]
theorem mR_ref0 {α : tA} {t : Int32} {y : mS} (h : mR α t y) : mR α t (va_up y 0 (upd (y 0) 5 (y 0 5))) := by
  rw [upd_same, va_up_same]
  exact h
theorem mR_clear {α : tA} {t : Int32} {y : mS} (h : mR α t y) : mR (aClear α) t (va_up y 0 (upd (y 0) 6 (nI 0))) := by
  obtain ⟨k1, k2, k3, k4, k5, k6⟩ := h
  refine ⟨fun q hq => ?_, ?_, ?_, ⟨Nat.zero_le _, ?_⟩, fun i hi => absurd hi (Nat.not_lt_zero _), ?_⟩
  · unfold mOk
    rw [va_up_ne _ _ (by decide), va_up_ne _ _ (by decide), va_up_ne _ _ (by decide)]
    exact k1 q hq
  · rw [va_up_self, pk_un (by decide)]; exact k2
  · rw [va_up_self, pk_un (by decide)]; exact k3
  · rw [va_up_self, pk_us]; rfl
  · rw [va_up_self, pk_un (by decide)]; exact k6
theorem mR_fr {α : tA} {t : Int32} {y : mS} (h : mR α t y) {q : Nat} (hf : aFree α q) : y 1 q = 0 ∧ ∀ j, j < q → y 1 j ≠ 0 :=
  ⟨by rw [(h.1 q hf.1).1, hf.2.1]; rfl, fun j hj => by rw [(h.1 j (Nat.lt_trans hj hf.1)).1, hf.2.2 j hj]; decide⟩
theorem mR_th {α : tA} {t : Int32} {y : mS} (h : mR α t y) {q : Nat} (hq : q < 120) (ht : aT α q = true) : y 1 q ≠ 0 := by
  rw [(h.1 q hq).1, ht]
  decide
theorem mR_no {α : tA} {t : Int32} {y : mS} (h : mR α t y) {a : Int32} (hh : ¬ aHas α a) : ¬ ∃ q, q < 120 ∧ a = nI q ∧ y 1 q ≠ 0 := by
  rintro ⟨q, h1, h2, h3⟩
  refine hh ⟨q, h1, h2, ?_⟩
  rw [(h.1 q h1).1] at h3
  exact tBi_t.mp h3
theorem mR_made {α : tA} {t : Int32} {y y' : mS} {q b : Nat} {z : Bool} (h : mR α t y) (hb : b < 1073741824) (e : y' = va_up (va_up (va_up y 1 (upd (y 1) q 1)) 2 (upd (y 2) q (tBi z))) 3 (upd (y 3) q (nI b))) : mR (aMade α q z b) t y' := by
  obtain ⟨k1, k2, k3, k4, k5, k6⟩ := h
  have e0 : y' 0 = y 0 := by rw [e, va_up_ne _ _ (by decide), va_up_ne _ _ (by decide), va_up_ne _ _ (by decide)]
  have e1 : y' 1 = upd (y 1) q 1 := by rw [e, va_up_ne _ _ (by decide), va_up_ne _ _ (by decide), va_up_self]
  have e2 : y' 2 = upd (y 2) q (tBi z) := by rw [e, va_up_ne _ _ (by decide), va_up_self]
  have e3 : y' 3 = upd (y 3) q (nI b) := by rw [e, va_up_self]
  have e4 : y' 4 = y 4 := by rw [e, va_up_ne _ _ (by decide), va_up_ne _ _ (by decide), va_up_ne _ _ (by decide)]
  have e5 : y' 5 = y 5 := by rw [e, va_up_ne _ _ (by decide), va_up_ne _ _ (by decide), va_up_ne _ _ (by decide)]
  have e6 : y' 6 = y 6 := by rw [e, va_up_ne _ _ (by decide), va_up_ne _ _ (by decide), va_up_ne _ _ (by decide)]
  refine ⟨fun j hj => ?_, by rw [e0]; exact k2, by rw [e0]; exact k3, ⟨k4.1, by rw [e0]; exact k4.2⟩, fun i hi => ?_, by rw [e0]; exact k6⟩
  · show y' 1 j = tBi (va_up (aT α) q true j) ∧ (va_up (aT α) q true j = true → (va_up (aB α) q b j < 1073741824 ∧ y' 2 j = tBi (va_up (aV α) q z j) ∧ y' 3 j = nI (va_up (aB α) q b j)))
    rw [e1, e2, e3]
    by_cases hjq : j = q
    · subst hjq
      rw [va_up_self, va_up_self, va_up_self, pk_us, pk_us, pk_us]
      exact ⟨rfl, fun _ => ⟨hb, rfl, rfl⟩⟩
    · rw [va_up_ne _ _ hjq, va_up_ne _ _ hjq, va_up_ne _ _ hjq, pk_un hjq, pk_un hjq, pk_un hjq]
      exact k1 j hj
  · show mLn y' i (aL α i)
    unfold mLn
    rw [e4, e5, e6]
    exact k5 i hi
theorem mR_drop {α : tA} {t : Int32} {y : mS} {q : Nat} (h : mR α t y) : mR (aDrop α q) t (va_up y 1 (upd (y 1) q (nI 0))) := by
  obtain ⟨k1, k2, k3, k4, k5, k6⟩ := h
  refine ⟨fun j hj => ?_, ?_, ?_, ⟨k4.1, ?_⟩, fun i hi => ?_, ?_⟩
  · show va_up y 1 (upd (y 1) q (nI 0)) 1 j = tBi (va_up (aT α) q false j) ∧ (va_up (aT α) q false j = true → mOk α (va_up y 1 (upd (y 1) q (nI 0))) j)
    unfold mOk
    rw [va_up_self, va_up_ne _ _ (show (2 : Nat) ≠ 1 by decide), va_up_ne _ _ (show (3 : Nat) ≠ 1 by decide)]
    by_cases hjq : j = q
    · subst hjq
      rw [va_up_self, pk_us]
      exact ⟨rfl, fun z => by cases z⟩
    · rw [va_up_ne _ _ hjq, pk_un hjq]
      exact k1 j hj
  · rw [va_up_ne _ _ (by decide)]; exact k2
  · rw [va_up_ne _ _ (by decide)]; exact k3
  · rw [va_up_ne _ _ (by decide)]; exact k4.2
  · show mLn _ i (aL α i)
    unfold mLn
    rw [va_up_ne _ _ (by decide), va_up_ne _ _ (by decide), va_up_ne _ _ (by decide)]
    exact k5 i hi
  · rw [va_up_ne _ _ (by decide)]; exact k6
theorem mR_key {α : tA} {t : Int32} {y y' : mS} (h : mR α t y) (h1 : ∀ j, j < 120 → y' 1 j = 0) (hs : ∀ k, k ≠ 1 → y' k = y k) : mR (aKey α) t y' := by
  obtain ⟨k1, k2, k3, k4, k5, k6⟩ := h
  refine ⟨fun j hj => ⟨h1 j hj, fun z => by cases z⟩, ?_, ?_, ⟨k4.1, ?_⟩, fun i hi => ?_, ?_⟩
  · rw [hs 0 (by decide)]; exact k2
  · rw [hs 0 (by decide)]; exact k3
  · rw [hs 0 (by decide)]; exact k4.2
  · show mLn _ i (aL α i)
    unfold mLn
    rw [hs 4 (by decide), hs 5 (by decide), hs 6 (by decide)]
    exact k5 i hi
  · rw [hs 0 (by decide)]; exact k6
theorem mR_bound {α : tA} {t : Int32} {y : mS} {q b : Nat} (h : mR α t y) (hb : b < 1073741824) : mR (aBound α q b) t (va_up y 3 (upd (y 3) q (nI b))) := by
  obtain ⟨k1, k2, k3, k4, k5, k6⟩ := h
  refine ⟨fun j hj => ?_, ?_, ?_, ⟨k4.1, ?_⟩, fun i hi => ?_, ?_⟩
  · show va_up y 3 (upd (y 3) q (nI b)) 1 j = tBi (aT α j) ∧ (aT α j = true → (va_up (aB α) q b j < 1073741824 ∧ va_up y 3 (upd (y 3) q (nI b)) 2 j = tBi (aV α j) ∧ va_up y 3 (upd (y 3) q (nI b)) 3 j = nI (va_up (aB α) q b j)))
    rw [va_up_self, va_up_ne _ _ (show (1 : Nat) ≠ 3 by decide), va_up_ne _ _ (show (2 : Nat) ≠ 3 by decide)]
    by_cases hjq : j = q
    · subst hjq
      rw [va_up_self, pk_us]
      exact ⟨(k1 j hj).1, fun z => ⟨hb, ((k1 j hj).2 z).2.1, rfl⟩⟩
    · rw [va_up_ne _ _ hjq, pk_un hjq]
      exact k1 j hj
  · rw [va_up_ne _ _ (by decide)]; exact k2
  · rw [va_up_ne _ _ (by decide)]; exact k3
  · rw [va_up_ne _ _ (by decide)]; exact k4.2
  · show mLn _ i (aL α i)
    unfold mLn
    rw [va_up_ne _ _ (by decide), va_up_ne _ _ (by decide), va_up_ne _ _ (by decide)]
    exact k5 i hi
  · rw [va_up_ne _ _ (by decide)]; exact k6
theorem mR_line {α : tA} {t : Int32} {y y' : mS} {ln : Nat × Nat × Nat} (h : mR α t y) (hz : aZ α < 24) (h1 : ln.1 < 8) (h2 : ln.2.1 < 8 + aZ α) (h3 : ln.2.2 < 8 + aZ α) (e4 : y' 4 = upd (y 4) (aZ α) (nI ln.1)) (e5 : y' 5 = upd (y 5) (aZ α) (nI ln.2.1)) (e6 : y' 6 = upd (y 6) (aZ α) (nI ln.2.2)) (e0 : y' 0 = upd (y 0) 6 (nI (aZ α + 1))) (e1 : y' 1 = y 1) (e2 : y' 2 = y 2) (e3 : y' 3 = y 3) : mR (aLine α ln) t y' := by
  obtain ⟨k1, k2, k3, k4, k5, k6⟩ := h
  refine ⟨fun j hj => ?_, ?_, ?_, ⟨hz, ?_⟩, fun i hi => ?_, ?_⟩
  · show y' 1 j = tBi (aT α j) ∧ (aT α j = true → (aB α j < 1073741824 ∧ y' 2 j = tBi (aV α j) ∧ y' 3 j = nI (aB α j)))
    rw [e1, e2, e3]
    exact k1 j hj
  · rw [e0, pk_un (by decide)]; exact k2
  · rw [e0, pk_un (by decide)]; exact k3
  · rw [e0, pk_us]; rfl
  · show mLn y' i (va_up (aL α) (aZ α) ln i)
    have hi' : i < aZ α + 1 := hi
    unfold mLn
    rw [e4, e5, e6]
    by_cases q : i = aZ α
    · subst q
      rw [va_up_self, pk_us, pk_us, pk_us]
      exact ⟨⟨rfl, h1⟩, ⟨rfl, h2⟩, rfl, h3⟩
    · rw [va_up_ne _ _ q, pk_un q, pk_un q, pk_un q]
      exact k5 i (by omega)
  · rw [e0, pk_un (by decide)]; exact k6
theorem mR_pl {α : tA} {t : Int32} {y : mS} {f : Nat → Int32} (h : mR α t y) : mR α t (va_up y 7 f) := by
  obtain ⟨k1, k2, k3, k4, k5, k6⟩ := h
  refine ⟨fun q hq => ?_, ?_, ?_, ⟨k4.1, ?_⟩, fun i hi => ?_, ?_⟩
  · unfold mOk
    rw [va_up_ne _ _ (by decide), va_up_ne _ _ (by decide), va_up_ne _ _ (by decide)]
    exact k1 q hq
  · rw [va_up_ne _ _ (by decide)]; exact k2
  · rw [va_up_ne _ _ (by decide)]; exact k3
  · rw [va_up_ne _ _ (by decide)]; exact k4.2
  · unfold mLn
    rw [va_up_ne _ _ (by decide), va_up_ne _ _ (by decide), va_up_ne _ _ (by decide)]
    exact k5 i hi
  · rw [va_up_ne _ _ (by decide)]; exact k6
