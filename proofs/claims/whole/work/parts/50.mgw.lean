/-! the world of a TorusGatesModel: 8 places (0 the object, 1 there, 2 bits, 3 bounds, 4 kinds, 5 firsts, 6 seconds, 7 played). My own. -/
abbrev mS : Type := Nat → Nat → Int32
abbrev mZ (ct : Nat → ClassId) (n : Nat) (f : Nat → Int32) : va_E := .inl (ct 3, n, .inl f)
def mE (ct : Nat → ClassId) (ad : Nat → Nat) (f : Nat → Int32) (k : Nat) : va_E :=
  if k = 0 then .inr (8, [.int (f 0), .ref (ad 1), .ref (ad 2), .ref (ad 3), .int (f 4), .int (f 5), .int (f 6), .ref (ad 4), .ref (ad 5), .ref (ad 6), .ref (ad 7)])
  else if k = 1 then mZ ct 120 f
  else if k = 2 then mZ ct 120 f
  else if k = 3 then tI ct 120 f
  else if k = 4 then tI ct 24 f
  else if k = 5 then tI ct 24 f
  else if k = 6 then tI ct 24 f
  else mZ ct 32 f
def mD (ct : Nat → ClassId) (ad : Nat → Nat) (x : mS) (k : Nat) : va_E := mE ct ad (x k) k
theorem mD_up {ct : Nat → ClassId} {ad : Nat → Nat} {x : mS} {k : Nat} {f : Nat → Int32} : va_up (mD ct ad x) k (mE ct ad f k) = mD ct ad (va_up x k f) := by
  funext j
  by_cases h : j = k
  · subst h
    rw [va_up_self]
    unfold mD
    rw [va_up_self]
  · rw [va_up_ne _ _ h]
    unfold mD
    rw [va_up_ne _ _ h]
theorem tb_vn {v : Int32} (h : tp_bit v) : vp_nar .boolean v = v := by
  rcases h with rfl | rfl <;> rfl
section MGR
variable {p : Program} {l : Launch} {e : Env} {R : Room} {s : State} {m : MethodId} {args : Array Value} {below : List Frame} {meth : Method} {c : Code} {H : Heap} {locs : List Loc} {cells slots : Nat} {Q : State → Prop}
variable {cc : ByteArray} {pc : Nat} {ls : Array Slot} {rest : List Value} {D : va_G} {ct : Nat → ClassId} {ad : Nat → Nat} {x : mS} {A : Nat → Prop} {H0 : Heap}
theorem m_get (hx : p.tables.exec = Jvm.exec) (hb : c.code = cc) {own C : String} {T : u_T} {N ci index : Nat} (htw : ∀ w ∈ wW, w.before args s = true) (hin : ∀ w ∈ u_ws C T N, w ∈ wW) (hown : s.vm.findClass own = some m.cls) (hK : va_K D cL (tT ct) s) (hP : va_P D cL (gw 8 ad (mD ct ad x)) H) (k0 : Nat) (h0 : k0 < 8) {fs : List Value} (he : mE ct ad (x k0) k0 = .inr (ci, fs)) (hc : cL[ci]? = some (C, T, N)) (k : Nat) (hk : k < N) (hT : (T k).1 = C) (hlink : Cond.fieldLink own index C (T k).2.1 (T k).2.2.1 ∈ wW) {v : Value} (hv : fs[k]? = some v) (hdg : decode cc pc = .ok (.getfield index, 3))
    (kk : W p l e R s m args below meth c H locs cells slots Q (F0 m (pc + 3) ls (v :: rest))) : W p l e R s m args below meth c H locs cells slots Q (F0 m pc ls (.ref (ad k0) :: rest)) :=
  gw_get hx hb htw hin hown hK hP k0 h0 he hc k hk (htw _ hlink) (fun _ h => by rw [hT] at h; exact h) hv hdg kk
theorem m_put (hx : p.tables.exec = Jvm.exec) (hb : c.code = cc) {own C : String} {T : u_T} {N ci index : Nat} (htw : ∀ w ∈ wW, w.before args s = true) (hin : ∀ w ∈ u_ws C T N, w ∈ wW) (ty0 : Nat → FieldType) (hty : ∀ k, k < N → parseFieldDescriptor (T k).2.2.1 = some (ty0 k)) (hnm : ∀ a, a < N → ∀ b, b < N → a ≠ b → (T a).2.1 ≠ (T b).2.1) (hown : s.vm.findClass own = some m.cls) (hK : va_K D cL (tT ct) s) (hI : gw_inj 8 ad) (hA : ∀ k, k < 8 → A (ad k)) (hP : va_P D cL (gw 8 ad (mD ct ad x)) H) (hS : va_S A H0 H locs) (k0 : Nat) (h0 : k0 < 8) {fs : List Value} (he : mE ct ad (x k0) k0 = .inr (ci, fs)) (hc : cL[ci]? = some (C, T, N)) (k : Nat) (hk : k < N) (hT : (T k).1 = C) (hlink : Cond.fieldLink own index C (T k).2.1 (T k).2.2.1 ∈ wW) (hfin : (T k).2.2.2 = false) {v : Int32} (hn : narrow (ty0 k) (.int v) = .int v) (hfit : fits (ty0 k) (.int v) = true) (hl : k < fs.length) (he' : .inr (ci, fs.set k (.int v)) = mE ct ad (upd (x k0) k v) k0)
    (hdg : decode cc pc = .ok (.putfield index, 3)) (kk : ∀ (H1 : Heap) (locs1 : List Loc), va_P D cL (gw 8 ad (mD ct ad (va_up x k0 (upd (x k0) k v)))) H1 → va_S A H0 H1 locs1 → W p l e R s m args below meth c H1 locs1 cells slots Q (F0 m (pc + 3) ls rest)) : W p l e R s m args below meth c H locs cells slots Q (F0 m pc ls (.int v :: .ref (ad k0) :: rest)) :=
  gw_put hx hb htw hin ty0 hty hnm hown hK hI hA hP hS k0 h0 he hc k hk (htw _ hlink) (fun _ h => by rw [hT] at h; exact h) hfin (hty k hk) hn hfit hl hdg (fun H1 locs1 h1 h2 => kk H1 locs1 (by rw [he', mD_up] at h1; exact h1) h2)
theorem m_iald (hx : p.tables.exec = Jvm.exec) (hb : c.code = cc) (hK : va_K D cL (tT ct) s) (hP : va_P D cL (gw 8 ad (mD ct ad x)) H) (k0 N : Nat) (h0 : k0 < 8) (he : mE ct ad (x k0) k0 = tI ct N (x k0)) {i : Int32} (j : Nat) (hi : i = nI j) (hj : j < N) (hN : N < 2 ^ 31) (hdg : decode cc pc = .ok (.iaload, 1))
    (kk : W p l e R s m args below meth c H locs cells slots Q (F0 m (pc + 1) ls (.int (x k0 j) :: rest))) : W p l e R s m args below meth c H locs cells slots Q (F0 m pc ls (.int i :: .ref (ad k0) :: rest)) :=
  gw_iald hx hb hK hP k0 0 h0 he rfl j hi hj hN hdg kk
theorem m_iast (hx : p.tables.exec = Jvm.exec) (hb : c.code = cc) (hK : va_K D cL (tT ct) s) (hI : gw_inj 8 ad) (hA : ∀ k, k < 8 → A (ad k)) (hP : va_P D cL (gw 8 ad (mD ct ad x)) H) (hS : va_S A H0 H locs) (k0 N : Nat) (h0 : k0 < 8) (he : ∀ f, mE ct ad f k0 = tI ct N f) {i v : Int32} (j : Nat) (hi : i = nI j) (hj : j < N) (hN : N < 2 ^ 31) (hdg : decode cc pc = .ok (.iastore, 1))
    (kk : ∀ (H1 : Heap) (locs1 : List Loc), va_P D cL (gw 8 ad (mD ct ad (va_up x k0 (upd (x k0) j v)))) H1 → va_S A H0 H1 locs1 → W p l e R s m args below meth c H1 locs1 cells slots Q (F0 m (pc + 1) ls rest)) : W p l e R s m args below meth c H locs cells slots Q (F0 m pc ls (.int v :: .int i :: .ref (ad k0) :: rest)) :=
  gw_iast hx hb hK hI hA hP hS k0 0 h0 (he _) rfl j hi hj hN hdg (fun H1 locs1 h1 h2 => kk H1 locs1 (by rw [← mD_up, he]; exact h1) h2)
theorem m_zald (hx : p.tables.exec = Jvm.exec) (hb : c.code = cc) (hK : va_K D cL (tT ct) s) (hP : va_P D cL (gw 8 ad (mD ct ad x)) H) (k0 N : Nat) (h0 : k0 < 8) (he : mE ct ad (x k0) k0 = mZ ct N (x k0)) {i : Int32} (j : Nat) (hi : i = nI j) (hj : j < N) (hN : N < 2 ^ 31) (hdg : decode cc pc = .ok (.baload, 1))
    (kk : W p l e R s m args below meth c H locs cells slots Q (F0 m (pc + 1) ls (.int (x k0 j) :: rest))) : W p l e R s m args below meth c H locs cells slots Q (F0 m pc ls (.int i :: .ref (ad k0) :: rest)) :=
  gw_zald hx hb hK hP k0 3 h0 he rfl j hi hj hN hdg kk
theorem m_zast (hx : p.tables.exec = Jvm.exec) (hb : c.code = cc) (hK : va_K D cL (tT ct) s) (hI : gw_inj 8 ad) (hA : ∀ k, k < 8 → A (ad k)) (hP : va_P D cL (gw 8 ad (mD ct ad x)) H) (hS : va_S A H0 H locs) (k0 N : Nat) (h0 : k0 < 8) (he : ∀ f, mE ct ad f k0 = mZ ct N f) {i v : Int32} (j : Nat) (hi : i = nI j) (hj : j < N) (hN : N < 2 ^ 31) (hv : tp_bit v) (hdg : decode cc pc = .ok (.bastore, 1))
    (kk : ∀ (H1 : Heap) (locs1 : List Loc), va_P D cL (gw 8 ad (mD ct ad (va_up x k0 (upd (x k0) j v)))) H1 → va_S A H0 H1 locs1 → W p l e R s m args below meth c H1 locs1 cells slots Q (F0 m (pc + 1) ls rest)) : W p l e R s m args below meth c H locs cells slots Q (F0 m pc ls (.int v :: .int i :: .ref (ad k0) :: rest)) :=
  gw_zast hx hb hK hI hA hP hS k0 3 h0 (he _) rfl j hi hj hN hdg (fun H1 locs1 h1 h2 => kk H1 locs1 (by rw [← mD_up, he]; rw [tb_vn hv] at h1; exact h1) h2)
end MGR
