/-! worlds by places: n cells, place k at the address ad k, holding e k. My own rows over the kit's. -/
def gw (n : Nat) (ad : Nat → Nat) (e : Nat → va_E) : va_W := (List.range n).map (fun k => (ad k, e k))
theorem gw_len {n : Nat} {ad : Nat → Nat} {e : Nat → va_E} : (gw n ad e).length = n := by
  unfold gw
  rw [List.length_map, List.length_range]
theorem gw_at {n k : Nat} {ad : Nat → Nat} {e : Nat → va_E} (h : k < n) : (gw n ad e)[k]? = some (ad k, e k) := by
  unfold gw
  rw [List.getElem?_map, List.getElem?_range h]
  rfl
theorem gw_at' {n k : Nat} {ad : Nat → Nat} {e : Nat → va_E} {x : va_E} (h : k < n) (he : e k = x) : (gw n ad e)[k]? = some (ad k, x) := by
  rw [gw_at h, he]
theorem gw_inv {n k : Nat} {ad : Nat → Nat} {e : Nat → va_E} {q : Nat × va_E} (h : (gw n ad e)[k]? = some q) : k < n ∧ q = (ad k, e k) := by
  have hk : k < n := by
    have h1 := (List.getElem?_eq_some_iff.mp h).1
    rwa [gw_len] at h1
  rw [gw_at hk] at h
  exact ⟨hk, (Option.some.inj h).symm⟩
theorem gw_set {n k : Nat} {ad : Nat → Nat} {e : Nat → va_E} {x : va_E} (h : k < n) : (gw n ad e).set k (ad k, x) = gw n ad (va_up e k x) := by
  refine List.ext_getElem? (fun j => ?_)
  by_cases hj : j < n
  · rw [gw_at hj]
    by_cases hjk : j = k
    · subst hjk
      rw [List.getElem?_set_self (by rw [gw_len]; exact h), va_up_self]
    · rw [List.getElem?_set_ne (fun z => hjk z.symm), gw_at hj, va_up_ne _ _ hjk]
  · rw [List.getElem?_eq_none (by rw [List.length_set, gw_len]; omega), List.getElem?_eq_none (by rw [gw_len]; omega)]
theorem gw_push {n q : Nat} {ad : Nat → Nat} {e : Nat → va_E} {x : va_E} : gw n ad e ++ [(q, x)] = gw (n + 1) (va_up ad n q) (va_up e n x) := by
  refine List.ext_getElem? (fun j => ?_)
  by_cases hj : j < n
  · rw [List.getElem?_append_left (by rw [gw_len]; exact hj), gw_at hj, gw_at (by omega), va_up_ne _ _ (by omega), va_up_ne _ _ (by omega)]
  · by_cases hjn : j = n
    · subst hjn
      rw [List.getElem?_append_right (by rw [gw_len]; omega), gw_len, Nat.sub_self, gw_at (by omega), va_up_self, va_up_self]
      rfl
    · rw [List.getElem?_eq_none (by rw [List.length_append, gw_len]; show n + 1 ≤ j; omega), List.getElem?_eq_none (by rw [gw_len]; omega)]
theorem gw_congr {n : Nat} {ad ad' : Nat → Nat} {e e' : Nat → va_E} (h : ∀ k, k < n → ad k = ad' k ∧ e k = e' k) : gw n ad e = gw n ad' e' := by
  refine List.ext_getElem? (fun j => ?_)
  by_cases hj : j < n
  · rw [gw_at hj, gw_at hj, (h j hj).1, (h j hj).2]
  · rw [List.getElem?_eq_none (by rw [gw_len]; omega), List.getElem?_eq_none (by rw [gw_len]; omega)]
def gw_inj (n : Nat) (ad : Nat → Nat) : Prop := ∀ i j, i < n → j < n → ad i = ad j → i = j
/-- what a method over such a world may change: its cells, and those that it makes -/
def gA (n : Nat) (ad : Nat → Nat) (sz : Nat) : Nat → Prop := fun q => (∃ k, k < n ∧ q = ad k) ∨ sz ≤ q
theorem gA_in {n k sz : Nat} {ad : Nat → Nat} (h : k < n) : gA n ad sz (ad k) := Or.inl ⟨k, h, rfl⟩
theorem gA_new {n sz : Nat} {ad : Nat → Nat} : ∀ q, sz ≤ q → gA n ad sz q := fun _ h => Or.inr h
theorem gA_mono {n sz sz' : Nat} {ad : Nat → Nat} (h : sz ≤ sz') : ∀ q, gA n ad sz' q → gA n ad sz q := fun q hq => by
  rcases hq with h1 | h1
  · exact Or.inl h1
  · exact Or.inr (by omega)
theorem gw_D {n : Nat} {ad : Nat → Nat} {e : Nat → va_E} {A : Nat → Prop} (h : gw_inj n ad) (hA : ∀ k, k < n → A (ad k)) : va_D A (gw n ad e) := by
  refine ⟨fun i j x y hi hj hxy => ?_, fun k q hk => ?_⟩
  · obtain ⟨h1, rfl⟩ := gw_inv hi
    obtain ⟨h2, rfl⟩ := gw_inv hj
    exact h i j h1 h2 hxy
  · obtain ⟨h1, rfl⟩ := gw_inv hk
    exact hA k h1
theorem gw_DA {n sz : Nat} {ad : Nat → Nat} {e : Nat → va_E} (h : gw_inj n ad) : va_D (gA n ad sz) (gw n ad e) := gw_D h (fun _ hk => gA_in hk)
theorem gw_injD {n : Nat} {ad : Nat → Nat} {e : Nat → va_E} {A : Nat → Prop} (h : va_D A (gw n ad e)) : gw_inj n ad := fun i j hi hj hij => h.1 i j _ _ (gw_at hi) (gw_at hj) hij
theorem gw_sub {n m : Nat} {ad : Nat → Nat} {e : Nat → va_E} {D : va_G} {cl : List vw_C} {H : Heap} (h : va_P D cl (gw n ad e) H) (hm : m ≤ n) : va_P D cl (gw m ad e) H := by
  intro k q hk
  obtain ⟨h1, rfl⟩ := gw_inv hk
  exact h k _ (gw_at (by omega))
theorem gw_lt {n k : Nat} {ad : Nat → Nat} {e : Nat → va_E} {D : va_G} {cl : List vw_C} {H : Heap} (h : va_P D cl (gw n ad e) H) (hk : k < n) : ad k < H.size := (h k _ (gw_at hk)).lt
/-- a part of the world has moved on, the rest lies as it was -/
theorem gw_join {n : Nat} {ad : Nat → Nat} {e e' : Nat → va_E} {D : va_G} {cl : List vw_C} {H H1 : Heap} {A : Nat → Prop} (P : Nat → Prop) (h : va_P D cl (gw n ad e) H) (hk : ∀ q : Nat, q < H.size → ¬ A q → H1[q]? = H[q]?)
    (hin : ∀ k, k < n → P k → va_at D cl (ad k, e' k) H1) (hout : ∀ k, k < n → ¬ P k → e' k = e k ∧ ¬ A (ad k)) : va_P D cl (gw n ad e') H1 := by
  intro k q hq
  obtain ⟨h1, rfl⟩ := gw_inv hq
  rcases Classical.em (P k) with hp | hp
  · exact hin k h1 hp
  · obtain ⟨h2, h3⟩ := hout k h1 hp
    rw [h2]
    exact (h k _ (gw_at h1)).kept (hk _ (gw_lt h h1) h3)
section GWR
variable {p : Program} {l : Launch} {e : Env} {R : Room} {s : State} {m : MethodId} {args : Array Value} {below : List Frame} {meth : Method} {c : Code} {H : Heap} {locs : List Loc} {cells slots : Nat} {Q : State → Prop}
variable {cc : ByteArray} {pc : Nat} {ls : Array Slot} {rest : List Value} {D : va_G} {cl : List vw_C} {tys : List (ClassId × FieldType)} {n : Nat} {ad : Nat → Nat} {E : Nat → va_E} {A : Nat → Prop} {H0 : Heap}
theorem gw_get (hexec : p.tables.exec = Jvm.exec) (hb : c.code = cc) {own ref C : String} {T : u_T} {N ci index : Nat} {Ts : List Cond} (hts : ∀ w ∈ Ts, w.before args s = true) (hin : ∀ w ∈ u_ws C T N, w ∈ Ts) (hown : s.vm.findClass own = some m.cls) (hK : va_K D cl tys s) (hP : va_P D cl (gw n ad E) H) (k0 : Nat) (h0 : k0 < n) {fs : List Value} (he : E k0 = .inr (ci, fs)) (hc : cl[ci]? = some (C, T, N)) (k : Nat) (hk : k < N) (hlink : (Cond.fieldLink own index ref (T k).2.1 (T k).2.2.1).before args s = true) (hsame : ∀ x, s.fieldFound? (T k).1 (T k).2.1 (T k).2.2.1 = some x → s.fieldFound? ref (T k).2.1 (T k).2.2.1 = some x) {v : Value} (hv : fs[k]? = some v) (hdg : decode cc pc = .ok (.getfield index, 3))
    (kk : W p l e R s m args below meth c H locs cells slots Q (F0 m (pc + 3) ls (v :: rest))) : W p l e R s m args below meth c H locs cells slots Q (F0 m pc ls (.ref (ad k0) :: rest)) :=
  va_get hexec hb hts hin hown hK hP k0 (gw_at' h0 he) hc k hk hlink hsame hv hdg kk
theorem gw_put (hexec : p.tables.exec = Jvm.exec) (hb : c.code = cc) {own ref C : String} {T : u_T} {N ci index : Nat} {Ts : List Cond} (hts : ∀ w ∈ Ts, w.before args s = true) (hin : ∀ w ∈ u_ws C T N, w ∈ Ts) (ty0 : Nat → FieldType) (hty : ∀ k, k < N → parseFieldDescriptor (T k).2.2.1 = some (ty0 k)) (hnm : ∀ a, a < N → ∀ b, b < N → a ≠ b → (T a).2.1 ≠ (T b).2.1) (hown : s.vm.findClass own = some m.cls) (hK : va_K D cl tys s) (hI : gw_inj n ad) (hA : ∀ k, k < n → A (ad k)) (hP : va_P D cl (gw n ad E) H) (hS0 : va_S A H0 H locs) (k0 : Nat) (h0 : k0 < n) {fs : List Value} (he : E k0 = .inr (ci, fs)) (hc : cl[ci]? = some (C, T, N)) (k : Nat) (hk : k < N) (hlink : (Cond.fieldLink own index ref (T k).2.1 (T k).2.2.1).before args s = true) (hsame : ∀ x, s.fieldFound? (T k).1 (T k).2.1 (T k).2.2.1 = some x → s.fieldFound? ref (T k).2.1 (T k).2.2.1 = some x) (hfin : (T k).2.2.2 = false) {ty : FieldType} {v : Value} (hd : parseFieldDescriptor (T k).2.2.1 = some ty) (hn : narrow ty v = v) (hfit : fits ty v = true) (hl : k < fs.length)
    (hdg : decode cc pc = .ok (.putfield index, 3)) (kk : ∀ (H1 : Heap) (locs1 : List Loc), va_P D cl (gw n ad (va_up E k0 (.inr (ci, fs.set k v)))) H1 → va_S A H0 H1 locs1 → W p l e R s m args below meth c H1 locs1 cells slots Q (F0 m (pc + 3) ls rest)) : W p l e R s m args below meth c H locs cells slots Q (F0 m pc ls (v :: .ref (ad k0) :: rest)) :=
  va_put hexec hb hts hin ty0 hty hnm hown hK hP (gw_D hI hA) hS0 k0 (gw_at' h0 he) hc k hk hlink hsame hfin hd hn hfit hl hdg (fun H1 locs1 h1 _ h3 => kk H1 locs1 (by rw [gw_set h0] at h1; exact h1) h3)
theorem gw_iald (hexec : p.tables.exec = Jvm.exec) (hb : c.code = cc) (hK : va_K D cl tys s) (hP : va_P D cl (gw n ad E) H) (k0 t0 : Nat) (h0 : k0 < n) {cA : ClassId} {N : Nat} {f : Nat → Int32} (he : E k0 = .inl (cA, N, .inl f)) (ht : tys[t0]? = some (cA, .int)) {i : Int32} (j : Nat) (hi : i = nI j) (hj : j < N) (hN : N < 2 ^ 31) (hdg : decode cc pc = .ok (.iaload, 1))
    (kk : W p l e R s m args below meth c H locs cells slots Q (F0 m (pc + 1) ls (.int (f j) :: rest))) : W p l e R s m args below meth c H locs cells slots Q (F0 m pc ls (.int i :: .ref (ad k0) :: rest)) := by
  subst hi
  refine va_iald hexec hb hK hP k0 t0 (gw_at' h0 he) ht (vp_in_nI hj hN) hdg ?_
  rw [nI_clamp (by omega)]
  exact kk
theorem gw_iast (hexec : p.tables.exec = Jvm.exec) (hb : c.code = cc) (hK : va_K D cl tys s) (hI : gw_inj n ad) (hA : ∀ k, k < n → A (ad k)) (hP : va_P D cl (gw n ad E) H) (hS : va_S A H0 H locs) (k0 t0 : Nat) (h0 : k0 < n) {cA : ClassId} {N : Nat} {f : Nat → Int32} (he : E k0 = .inl (cA, N, .inl f)) (ht : tys[t0]? = some (cA, .int)) {i x : Int32} (j : Nat) (hi : i = nI j) (hj : j < N) (hN : N < 2 ^ 31) (hdg : decode cc pc = .ok (.iastore, 1))
    (kk : ∀ (H1 : Heap) (locs1 : List Loc), va_P D cl (gw n ad (va_up E k0 (.inl (cA, N, .inl (upd f j x))))) H1 → va_S A H0 H1 locs1 → W p l e R s m args below meth c H1 locs1 cells slots Q (F0 m (pc + 1) ls rest)) : W p l e R s m args below meth c H locs cells slots Q (F0 m pc ls (.int x :: .int i :: .ref (ad k0) :: rest)) := by
  subst hi
  refine va_iast hexec hb hK hP (gw_D hI hA) hS k0 t0 (gw_at' h0 he) ht (vp_in_nI hj hN) hdg (fun H1 locs1 h1 _ h3 => ?_)
  rw [nI_clamp (by omega), gw_set h0] at h1
  exact kk H1 locs1 h1 h3
theorem gw_zald (hexec : p.tables.exec = Jvm.exec) (hb : c.code = cc) (hK : va_K D cl tys s) (hP : va_P D cl (gw n ad E) H) (k0 t0 : Nat) (h0 : k0 < n) {cA : ClassId} {N : Nat} {f : Nat → Int32} (he : E k0 = .inl (cA, N, .inl f)) (ht : tys[t0]? = some (cA, .boolean)) {i : Int32} (j : Nat) (hi : i = nI j) (hj : j < N) (hN : N < 2 ^ 31) (hdg : decode cc pc = .ok (.baload, 1))
    (kk : W p l e R s m args below meth c H locs cells slots Q (F0 m (pc + 1) ls (.int (f j) :: rest))) : W p l e R s m args below meth c H locs cells slots Q (F0 m pc ls (.int i :: .ref (ad k0) :: rest)) := by
  subst hi
  refine va_zald hexec hb hK hP k0 t0 (gw_at' h0 he) ht (vp_in_nI hj hN) hdg ?_
  rw [nI_clamp (by omega)]
  exact kk
theorem gw_zast (hexec : p.tables.exec = Jvm.exec) (hb : c.code = cc) (hK : va_K D cl tys s) (hI : gw_inj n ad) (hA : ∀ k, k < n → A (ad k)) (hP : va_P D cl (gw n ad E) H) (hS : va_S A H0 H locs) (k0 t0 : Nat) (h0 : k0 < n) {cA : ClassId} {N : Nat} {f : Nat → Int32} (he : E k0 = .inl (cA, N, .inl f)) (ht : tys[t0]? = some (cA, .boolean)) {i x : Int32} (j : Nat) (hi : i = nI j) (hj : j < N) (hN : N < 2 ^ 31) (hdg : decode cc pc = .ok (.bastore, 1))
    (kk : ∀ (H1 : Heap) (locs1 : List Loc), va_P D cl (gw n ad (va_up E k0 (.inl (cA, N, .inl (upd f j (vp_nar .boolean x)))))) H1 → va_S A H0 H1 locs1 → W p l e R s m args below meth c H1 locs1 cells slots Q (F0 m (pc + 1) ls rest)) : W p l e R s m args below meth c H locs cells slots Q (F0 m pc ls (.int x :: .int i :: .ref (ad k0) :: rest)) := by
  subst hi
  refine va_zast hexec hb hK hP (gw_D hI hA) hS k0 t0 (gw_at' h0 he) ht (vp_in_nI hj hN) hdg (fun H1 locs1 h1 _ h3 => ?_)
  rw [nI_clamp (by omega), gw_set h0] at h1
  exact kk H1 locs1 h1 h3
theorem gw_last (hexec : p.tables.exec = Jvm.exec) (hb : c.code = cc) (hK : va_K D cl tys s) (hI : gw_inj n ad) (hA : ∀ k, k < n → A (ad k)) (hP : va_P D cl (gw n ad E) H) (hS : va_S A H0 H locs) (k0 t0 : Nat) (h0 : k0 < n) {cA : ClassId} {N : Nat} {f : Nat → Int64} (he : E k0 = .inl (cA, N, .inr (.inl f))) (ht : tys[t0]? = some (cA, .long)) {i : Int32} {x : Int64} (j : Nat) (hi : i = nI j) (hj : j < N) (hN : N < 2 ^ 31) (hdg : decode cc pc = .ok (.lastore, 1))
    (kk : ∀ (H1 : Heap) (locs1 : List Loc), va_P D cl (gw n ad (va_up E k0 (.inl (cA, N, .inr (.inl (vp_updL f j x)))))) H1 → va_S A H0 H1 locs1 → W p l e R s m args below meth c H1 locs1 cells slots Q (F0 m (pc + 1) ls rest)) : W p l e R s m args below meth c H locs cells slots Q (F0 m pc ls (.long x :: .int i :: .ref (ad k0) :: rest)) := by
  subst hi
  refine va_last hexec hb hK hP (gw_D hI hA) hS k0 t0 (gw_at' h0 he) ht (vp_in_nI hj hN) hdg (fun H1 locs1 h1 _ h3 => ?_)
  rw [nI_clamp (by omega), gw_set h0] at h1
  exact kk H1 locs1 h1 h3
theorem gw_lald (hexec : p.tables.exec = Jvm.exec) (hb : c.code = cc) (hK : va_K D cl tys s) (hP : va_P D cl (gw n ad E) H) (k0 t0 : Nat) (h0 : k0 < n) {cA : ClassId} {N : Nat} {f : Nat → Int64} (he : E k0 = .inl (cA, N, .inr (.inl f))) (ht : tys[t0]? = some (cA, .long)) {i : Int32} (j : Nat) (hi : i = nI j) (hj : j < N) (hN : N < 2 ^ 31) (hdg : decode cc pc = .ok (.laload, 1))
    (kk : W p l e R s m args below meth c H locs cells slots Q (F0 m (pc + 1) ls (.long (f j) :: rest))) : W p l e R s m args below meth c H locs cells slots Q (F0 m pc ls (.int i :: .ref (ad k0) :: rest)) := by
  subst hi
  refine va_lald hexec hb hK hP k0 t0 (gw_at' h0 he) ht (vp_in_nI hj hN) hdg ?_
  rw [nI_clamp (by omega)]
  exact kk
theorem gw_aldq (hexec : p.tables.exec = Jvm.exec) (hb : c.code = cc) (hK : va_K D cl tys s) (hP : va_P D cl (gw n ad E) H) (k0 t0 : Nat) (h0 : k0 < n) {cA : ClassId} {C : String} {N : Nat} {f : Nat → Option Nat} (he : E k0 = .inl (cA, N, .inr (.inr (.inr (.inr f))))) (ht : tys[t0]? = some (cA, .object C)) {i : Int32} (j : Nat) {q : Nat} (hi : i = nI j) (hj : j < N) (hN : N < 2 ^ 31) (hq : f j = some q) (hdg : decode cc pc = .ok (.aaload, 1))
    (kk : W p l e R s m args below meth c H locs cells slots Q (F0 m (pc + 1) ls (.ref q :: rest))) : W p l e R s m args below meth c H locs cells slots Q (F0 m pc ls (.int i :: .ref (ad k0) :: rest)) := by
  subst hi
  refine va_aldq hexec hb hK hP k0 t0 (gw_at' h0 he) ht (vp_in_nI hj hN) hdg ?_
  rw [nI_clamp (by omega), hq]
  exact kk
end GWR
/-- the entry of a method, all that its rows need at hand -/
theorem gw_enter {l : Launch} {y : MethodName} {ws ws' : List Cond} {rm : Room} {av : List Value} {B : State → Prop} {Qc : Array Value → State → Outcome → State → Prop} {mc ms : Nat} {free : Addr → Prop} {cc : ByteArray} {maxL : Nat} {ret : Option FieldType}
    (hy : plainName y.cls = true) (hw : ws = Cond.code y cc maxL ret :: ws') (hlen : (lg_sl av).length ≤ maxL)
    (body : ∀ (p : Program) (e : Env) (s : State) (m : MethodId) (below : List Frame) (meth : Method) (c : Code) (ls : Array Slot), p.tables.exec = Jvm.exec → c.code = cc → meth.sig.returnType = ret → (∀ w ∈ ws, w.before av.toArray s = true) → s.vm.findClass y.cls = some m.cls → meth.locks = false → c.maxLocals = maxL → meth.name = y.name → lv_has ls maxL (lv_args 0 av) → B s →
      W p l e rm s m av.toArray below meth c s.heap [] 0 0 (MQ below Qc av.toArray s mc ms free) (F0 m 0 ls [])) : Met l y ws rm (va_Pc av B) Qc mc ms free := by
  refine Met.ofW (cc := cc) (maxL := maxL) (ret := ret) hy hw ?_
  intro p e s m args below meth c s₁ X hml hv
  obtain ⟨rfl, hB⟩ := hv
  rw [lg_entry_eq]
  exact body p e s m below meth c _ X.exec X.bytes X.returns (atoms_spec (ws := ws) X.pre) (findClass_of_methodNamed X.named) X.notSynchronized hml (name_of_methodNamed X.named X.method).1 (lv_entry av hlen) hB
/-- names for the room and for what is owed at the end -/
theorem gw_nm {p : Program} {l : Launch} {e : Env} {R : Room} {s : State} {m : MethodId} {args : Array Value} {below : List Frame} {meth : Method} {c : Code} {H : Heap} {locs : List Loc} {cells slots : Nat} {Q : State → Prop} {g : JFrame}
    (k : ∀ (R' : Room) (Q' : State → Prop), R' = R → Q' = Q → W p l e R' s m args below meth c H locs cells slots Q' g) : W p l e R s m args below meth c H locs cells slots Q g := k R Q rfl rfl
