/-! constructors, second part: fields and elements, with the heap's size. My own rows. -/
theorem c_inj {N n : Nat} {ad : Nat → Nat} (h : gw_inj N ad) (hn : n ≤ N) : gw_inj n ad := fun i j hi hj e => h i j (by omega) (by omega) e
theorem c_A {N sz : Nat} {ad : Nat → Nat} (had : ∀ j, 1 ≤ j → j < N → ad j = sz + (j - 1)) : ∀ k, k < N → gA 1 ad sz (ad k) := fun k hk => by
  by_cases h : k = 0
  · subst h
    exact gA_in (by decide)
  · exact Or.inr (by rw [had k (by omega) hk]; omega)
theorem c_St {A : Nat → Prop} {H0 H H1 : Heap} {locs locs1 : List Loc} (h : va_S A H0 H locs) (h1 : va_S A H H1 locs1) : va_S A H0 H1 locs1 :=
  ⟨Nat.le_trans h.1 h1.1, fun q a b => (h1.2.1 q (Nat.lt_of_lt_of_le a h.1) b).trans (h.2.1 q a b), h1.2.2⟩
section CR2
variable {p : Program} {l : Launch} {e : Env} {R : Room} {s : State} {m : MethodId} {args : Array Value} {below : List Frame} {meth : Method} {c : Code} {H : Heap} {locs : List Loc} {cells slots : Nat} {Q : State → Prop} {g : JFrame}
variable {cc : ByteArray} {pc nL : Nat} {ls : Array Slot} {rest : List Value} {D : va_G} {tys : List (ClassId × FieldType)} {n : Nat} {ad : Nat → Nat} {E : Nat → va_E} {A : Nat → Prop} {own : String}
theorem c_sz (k : H.size ≤ s.heap.size + cells → W p l e R s m args below meth c H locs cells slots Q g) : W p l e R s m args below meth c H locs cells slots Q g := fun T hT X => k (by rw [← hT]; exact X.heapSize) T hT X
/-- a final field in its constructor -/
theorem c_putF (hx : p.tables.exec = Jvm.exec) (hb : c.code = cc) (htw : ∀ w ∈ wW, w.before args s = true) {C : String} {T : u_T} {N ci index : Nat} (hin : ∀ w ∈ u_ws C T N, w ∈ wW) (ty0 : Nat → FieldType) (hty : ∀ k, k < N → parseFieldDescriptor (T k).2.2.1 = some (ty0 k)) (hnm : ∀ a, a < N → ∀ b, b < N → a ≠ b → (T a).2.1 ≠ (T b).2.1) (hown : s.vm.findClass own = some m.cls) (hK : va_K D cL tys s) (hI : gw_inj n ad) (hA : ∀ k, k < n → A (ad k)) (hP : va_P D cL (gw n ad E) H) (hS : va_S A s.heap H locs) (hz : H.size = s.heap.size + cells) (k0 : Nat) (h0 : k0 < n) {fs : List Value} (he : E k0 = .inr (ci, fs)) (hc : cL[ci]? = some (C, T, N)) (k : Nat) (hk : k < N) (hT : (T k).1 = own) (hlink : Cond.fieldLink own index own (T k).2.1 (T k).2.2.1 ∈ wW) (hfin : (T k).2.2.2 = true) (hin2 : meth.name = "<init>") {v : Value} (hn : narrow (ty0 k) v = v) (hfit : fits (ty0 k) v = true) (hl : k < fs.length) (hdg : decode cc pc = .ok (.putfield index, 3))
    (kk : ∀ (H1 : Heap) (locs1 : List Loc), va_P D cL (gw n ad (va_up E k0 (.inr (ci, fs.set k v)))) H1 → va_S A s.heap H1 locs1 → H1.size = s.heap.size + cells → W p l e R s m args below meth c H1 locs1 cells slots Q (F0 m (pc + 3) ls rest)) : W p l e R s m args below meth c H locs cells slots Q (F0 m pc ls (v :: .ref (ad k0) :: rest)) :=
  va_putF hx hb htw hin ty0 hty hnm hown hK hP (gw_D hI hA) (⟨Nat.le_refl _, fun _ _ _ => rfl, hS.2.2⟩ : va_S A H H locs) k0 (gw_at' h0 he) hc k hk (htw _ hlink) (fun _ h => by rw [hT] at h; exact h) hfin hin2 hT (hty k hk) hn hfit hl hdg
    (fun H1 locs1 h1 _ h3 => c_sz (fun hle => kk H1 locs1 (by rw [gw_set h0] at h1; exact h1) (c_St hS h3) (by have := h3.1; omega)))
/-- an element of a Cell[] -/
theorem c_ast (hx : p.tables.exec = Jvm.exec) (hb : c.code = cc) (hK : va_K D cL tys s) (hI : gw_inj n ad) (hA : ∀ k, k < n → A (ad k)) (hP : va_P D cL (gw n ad E) H) (hS : va_S A s.heap H locs) (hz : H.size = s.heap.size + cells) (k0 t0 qk ci : Nat) (h0 : k0 < n) (hqk : qk < n) {cA : ClassId} {r : vw_C} {N : Nat} {vs : List Value} {f : Nat → Option Nat} (ha : E k0 = .inl (cA, N, .inr (.inr (.inr (.inr f))))) (ht : tys[t0]? = some (cA, .object r.1)) (hv : E qk = .inr (ci, vs)) (hc : cL[ci]? = some r) {i : Nat} (hi : i < N) (hN : N < 2 ^ 31) (hdg : decode cc pc = .ok (.aastore, 1))
    (kk : ∀ (H1 : Heap) (locs1 : List Loc), va_P D cL (gw n ad (va_up E k0 (.inl (cA, N, .inr (.inr (.inr (.inr (va_up f i (some (ad qk)))))))))) H1 → va_S A s.heap H1 locs1 → H1.size = s.heap.size + cells → W p l e R s m args below meth c H1 locs1 cells slots Q (F0 m (pc + 1) ls rest)) : W p l e R s m args below meth c H locs cells slots Q (F0 m pc ls (.ref (ad qk) :: .int (nI i) :: .ref (ad k0) :: rest)) :=
  va_astq hx hb hK hP (gw_D hI hA) (⟨Nat.le_refl _, fun _ _ _ => rfl, hS.2.2⟩ : va_S A H H locs) k0 t0 qk ci (gw_at' h0 ha) ht (gw_at' hqk hv) hc (vp_in_nI hi hN) hdg
    (fun H1 locs1 h1 _ h3 => c_sz (fun hle => kk H1 locs1 (by rw [gw_set h0, nI_clamp (by omega)] at h1; exact h1) (c_St hS h3) (by have := h3.1; omega)))
end CR2
