/-! constructors: worlds that grow, at addresses that are known. My own rows over the kit's; vr_outer is the kit's (NAMES.whole). -/
theorem vr_outer (c : ClassId) (N h0 : Nat) : ∀ i : Nat, Jvm.Free.Multi.outerC c N h0 i = arrV c N (fun j => va_rf (if j < i then some (h0 + 1 + j) else none))
  | 0 => by
    show ({ cls := c, slots := Array.replicate N .null, vm := .none } : Cell) = _
    rw [arrV_new]
    refine congrArg (arrV c N) (funext fun j => ?_)
    simp [va_rf]
  | i + 1 => by
    show (Jvm.Free.Multi.outerC c N h0 i).setSlot i (.ref (h0 + 1 + i)) = _
    rw [vr_outer c N h0 i, arrV_store]
    refine congrArg (arrV c N) (funext fun j => ?_)
    by_cases e : j = i
    · subst e
      simp [updV, va_rf]
    · by_cases h : j < i
      · simp [updV, e, h, Nat.lt_succ_of_lt h]
      · simp [updV, e, h, show ¬ j < i + 1 by omega]
theorem c_grow {D : va_G} {n : Nat} {ad : Nat → Nat} {E : Nat → va_E} {H H1 : Heap} (hP : va_P D cL (gw n ad E) H) (hk : ∀ q : Nat, q < H.size → H1[q]? = H[q]?) (h : va_at D cL (ad n, E n) H1) : va_P D cL (gw (n + 1) ad E) H1 := by
  intro k q hq
  obtain ⟨h1, rfl⟩ := gw_inv hq
  by_cases hkn : k = n
  · subst hkn
    exact h
  · exact (hP k _ (gw_at (by omega))).kept (hk _ (gw_lt hP (by omega)))
theorem c_eq {D : va_G} {n : Nat} {ad : Nat → Nat} {E E' : Nat → va_E} {H : Heap} (hP : va_P D cL (gw n ad E) H) (h : ∀ k, k < n → E k = E' k) : va_P D cL (gw n ad E') H := by
  rw [← gw_congr (ad := ad) (ad' := ad) (e := E) (e' := E') (fun k hk => ⟨rfl, h k hk⟩)]
  exact hP
section CRW
variable {p : Program} {l : Launch} {e : Env} {R : Room} {s : State} {m : MethodId} {args : Array Value} {below : List Frame} {meth : Method} {c : Code} {H : Heap} {locs : List Loc} {cells slots : Nat} {Q : State → Prop}
variable {cc : ByteArray} {pc nL : Nat} {ls : Array Slot} {rest : List Value} {D : va_G} {tys : List (ClassId × FieldType)} {n : Nat} {ad : Nat → Nat} {E : Nat → va_E} {A : Nat → Prop} {H0 : Heap} {own : String}
theorem c_pushS {H1 : Heap} (hS : va_S A H0 H locs) (hz : H.size ≤ H1.size) (hk : ∀ q : Nat, q < H.size → H1[q]? = H[q]?) : va_S A H0 H1 locs :=
  ⟨Nat.le_trans hS.1 hz, fun q h1 h2 => (hk q (Nat.lt_of_lt_of_le h1 hS.1)).trans (hS.2.1 q h1 h2), hS.2.2⟩
/-- new C -/
theorem c_new (hx : p.tables.exec = Jvm.exec) (hb : c.code = cc) (htw : ∀ w ∈ wW, w.before args s = true) {C : String} {T : u_T} {N ci index : Nat} (hin : ∀ w ∈ u_ws C T N, w ∈ wW) (ty : Nat → FieldType) (hty : ∀ k, k < N → parseFieldDescriptor (T k).2.2.1 = some (ty k)) (hown : s.vm.findClass own = some m.cls) (hcl : Cond.classLink own index C ∈ wW) (hinst : Cond.instantiable C N ∈ wW) (hini : Cond.initialized C ∈ wW)
    (hK : va_K D cL tys s) (hP : va_P D cL (gw n ad E) H) (hS : va_S A H0 H locs) (hc : cL[ci]? = some (C, T, N)) {fs : List Value} (hfs : ∀ j, j < N → defaultValue (ty j) = vp_V fs j) (hsz : H.size = ad n) (hE : E n = .inr (ci, fs)) (hcells : cells + 1 ≤ R.cells) (hslots : slots + N ≤ R.slots) (hdg : decode cc pc = .ok (.new index, 3))
    (kk : ∀ H1 : Heap, va_P D cL (gw (n + 1) ad E) H1 → H1.size = H.size + 1 → va_S A H0 H1 locs → W p l e R s m args below meth c H1 locs (cells + 1) (slots + N) Q (F0 m (pc + 3) ls (.ref (ad n) :: rest))) : W p l e R s m args below meth c H locs cells slots Q (F0 m pc ls rest) := by
  have hKn := hK.1 ci _ hc
  refine W.newcK hx hb hown (htw _ hcl) (htw _ hinst) (htw _ hini) rfl hdg hcells hslots hKn.2.1 hsz fun H1 kC hkC e1 z1 o1 => ?_
  have o1' : ∀ q : Nat, q < H.size → H1[q]? = H[q]? := fun q hq => o1 q (by rw [← hsz]; exact hq)
  refine kk H1 (c_grow hP o1' ?_) (by rw [z1, hsz]) (c_pushS hS (by rw [z1, hsz]; omega) o1')
  rw [hE]
  exact ⟨_, hc, (u_born ty htw hin hKn hkC e1 hty).to hfs⟩
/-- new T[n] -/
theorem c_newa (hx : p.tables.exec = Jvm.exec) (hb : c.code = cc) (htw : ∀ w ∈ wW, w.before args s = true) {atype : ArrayType} {cA' : ClassId} (harr : Cond.arrayClass (newarray.typeOf atype) ∈ wW) (hnm : s.vm.findClass ("[" ++ (newarray.typeOf atype).toString) = some cA') (hP : va_P D cL (gw n ad E) H) (hS : va_S A H0 H locs) (hsz : H.size = ad n) {N : Nat} {a0 : vp_A} (ha : ∀ cA : ClassId, vp_cell cA a0 = arrV cA N (fun _ => defaultValue (newarray.typeOf atype))) (hE : E n = .inl (cA', a0)) (hN : N < 2 ^ 20) (hbytes : N * componentBytes (newarray.typeOf atype) ≤ 536870912) (hcells : cells + 1 ≤ R.cells) (hslots : slots + N ≤ R.slots) (hdg : decode cc pc = .ok (.newarray atype, 2))
    (kk : ∀ H1 : Heap, va_P D cL (gw (n + 1) ad E) H1 → H1.size = H.size + 1 → va_S A H0 H1 locs → W p l e R s m args below meth c H1 locs (cells + 1) (slots + N) Q (F0 m (pc + 2) ls (.ref (ad n) :: rest))) : W p l e R s m args below meth c H locs cells slots Q (F0 m pc ls (.int (nI N) :: rest)) := by
  refine va_newaK hx hb (htw _ harr) rfl hdg rfl (nI_pos (by omega)) (nI_clamp (by omega)) hbytes hcells hslots hsz fun H1 cA e1 z1 o1 _ hNm => ?_
  cases hnm.symm.trans hNm
  have o1' : ∀ q : Nat, q < H.size → H1[q]? = H[q]? := fun q hq => o1 q (by rw [← hsz]; exact hq)
  refine kk H1 (c_grow hP o1' ?_) (by rw [z1, hsz]) (c_pushS hS (by rw [z1, hsz]; omega) o1')
  rw [hE]
  show H1[ad n]? = some (vp_cell _ _)
  rw [ha]
  exact e1
/-- new C[n] -/
theorem c_anew (hx : p.tables.exec = Jvm.exec) (hb : c.code = cc) (htw : ∀ w ∈ wW, w.before args s = true) {C : String} {index : Nat} {cA' : ClassId} (hown : s.vm.findClass own = some m.cls) (hcl : Cond.classLink own index C ∈ wW) (hover : (Cond.arrayOver (.object C)).before args s = true) (hnm : s.vm.findClass ("[" ++ (FieldType.object C).toString) = some cA') (hP : va_P D cL (gw n ad E) H) (hS : va_S A H0 H locs) (hsz : H.size = ad n) {N : Nat} (hE : E n = .inl (cA', N, .inr (.inr (.inr (.inr (fun _ => none)))))) (hN : N < 2 ^ 20) (hcells : cells + 1 ≤ R.cells) (hslots : slots + N ≤ R.slots) (hdg : decode cc pc = .ok (.anewarray index, 3))
    (kk : ∀ H1 : Heap, va_P D cL (gw (n + 1) ad E) H1 → H1.size = H.size + 1 → va_S A H0 H1 locs → W p l e R s m args below meth c H1 locs (cells + 1) (slots + N) Q (F0 m (pc + 3) ls (.ref (ad n) :: rest))) : W p l e R s m args below meth c H locs cells slots Q (F0 m pc ls (.int (nI N) :: rest)) := by
  have hcl2 : (nI N).toNatClampNeg = N := nI_clamp (by omega)
  refine W.anew hx hb hown (htw _ hcl) hover rfl hdg rfl (nI_pos (by omega)) (by rw [hcl2]; omega) hcells (by rw [hcl2]; exact hslots) fun cA kA comp f1 f2 f3 f4 => ?_
  cases hnm.symm.trans f1
  rw [hcl2]
  generalize hH1 : H.push ({ cls := cA', slots := Array.replicate N .null, vm := .none } : Cell) = H1
  have z1 : H1.size = H.size + 1 := by rw [← hH1, Array.size_push]
  have e1 : H1[H.size]? = some (arrV cA' N (fun _ => .null)) := by rw [← hH1, Array.getElem?_push_size, ← arrV_new]
  have o1 : ∀ q : Nat, q < H.size → H1[q]? = H[q]? := fun q hq => by rw [← hH1, Array.getElem?_push, if_neg (Nat.ne_of_lt hq)]
  have k1 := kk H1 (c_grow hP o1 (by
    rw [hE, ← hsz]
    show H1[H.size]? = some (vp_cell _ _)
    rw [e1, vp_cell_q]
    rfl)) z1 (c_pushS hS (by omega) o1)
  rw [← hsz] at k1
  exact k1
/-- new int[n][k] -/
theorem c_mna (hx : p.tables.exec = Jvm.exec) (hb : c.code = cc) (htw : ∀ w ∈ wW, w.before args s = true) {index : Nat} {cA' cI : ClassId} (hown : s.vm.findClass own = some m.cls) (hcl : Cond.classLink own index ("[" ++ (FieldType.array .int).toString) ∈ wW) (hover : (Cond.arrayOver (.array .int)).before args s = true) (harr : Cond.arrayClass .int ∈ wW) (hnm : s.vm.findClass ("[" ++ (FieldType.array .int).toString) = some cA') (hni : s.vm.findClass ("[" ++ FieldType.int.toString) = some cI)
    (hP : va_P D cL (gw n ad E) H) (hS : va_S A H0 H locs) {N K : Nat} (had : ∀ j, j ≤ N → ad (n + j) = H.size + j) (hE : E n = .inl (cA', N, .inr (.inr (.inr (.inr (fun i => some (ad (n + 1 + i)))))))) (hE2 : ∀ i, i < N → E (n + 1 + i) = .inl (cI, K, .inl (fun _ => 0))) (hN : N < 2 ^ 20) (hK2 : K < 2 ^ 20) (hcells : cells + (1 + N) ≤ R.cells) (hslots : slots + (N + N * K) ≤ R.slots) (hdg : decode cc pc = .ok (.multianewarray index 2, 4))
    (kk : ∀ H1 : Heap, va_P D cL (gw (n + 1 + N) ad E) H1 → H1.size = H.size + 1 + N → va_S A H0 H1 locs → W p l e R s m args below meth c H1 locs (cells + 1 + N) (slots + N + N * K) Q (F0 m (pc + 4) ls (.ref (ad n) :: rest))) : W p l e R s m args below meth c H locs cells slots Q (F0 m pc ls (.int (nI K) :: .int (nI N) :: rest)) := by
  have cN : (nI N).toNatClampNeg = N := nI_clamp (by omega)
  have cK : (nI K).toNatClampNeg = K := nI_clamp (by omega)
  intro T hT Xs
  obtain ⟨vm₁, cA, comp, -, fA, fC, -, -, X', step⟩ := Xs.multianewarray2F hx hown (htw _ hcl) hover (htw _ harr) (g := F0 m pc ls (.int (nI K) :: .int (nI N) :: rest)) rfl (by rw [hb]; exact hdg) (n := nI N) (k := nI K) rfl (nI_pos (by omega)) (nI_pos (by omega)) (by rw [cN]; omega) (by rw [cK]; show K * 4 ≤ _; omega) (by rw [cK]; omega) rfl rfl (by rw [cN]; exact hcells) (by rw [cN, cK]; exact hslots)
  rw [cN, cK] at X' step
  cases hnm.symm.trans fA
  have fC' : s.vm.findClass ("[" ++ FieldType.int.toString) = some comp := fC
  cases hni.symm.trans fC'
  generalize hF : Jvm.Free.Multi.fill (T.setVm vm₁) cA' cI N K (defaultValue .int) N = F at X' step
  have hTh : (T.setVm vm₁).heap = H := hT
  obtain ⟨f1, f2, -, -⟩ := Jvm.Free.Multi.fill_facts (T.setVm vm₁) cA' cI N K (defaultValue .int) N
  rw [hF, hTh] at f1 f2
  have hold : ∀ q : Nat, q < H.size → F.heap[q]? = H[q]? := fun q hq => by
    have := Jvm.Free.Multi.fill_old (T.setVm vm₁) cA' cI N K (defaultValue .int) (a := q) (by rw [hTh]; exact hq) N
    rw [hF, hTh] at this
    exact this
  have hrow : ∀ j : Nat, j < N → F.heap[H.size + 1 + j]? = some (vp_cell cI (K, .inl (fun _ => 0))) := fun j hj => by
    have := Jvm.Free.Multi.fill_inner (T.setVm vm₁) cA' cI N K (defaultValue .int) N j hj
    rw [hF, hTh] at this
    rw [this, vp_cell_i]
    show some ({ cls := cI, slots := Array.replicate K (defaultValue .int), vm := .none } : Cell) = _
    rw [arrV_new]
    rfl
  have h0 : ad n = H.size := by have := had 0 (Nat.zero_le _); simpa using this
  have hPF : va_P D cL (gw (n + 1 + N) ad E) F.heap := by
    intro k q hq
    obtain ⟨h1, rfl⟩ := gw_inv hq
    by_cases hk1 : k < n
    · exact (hP k _ (gw_at hk1)).kept (hold _ (gw_lt hP hk1))
    · by_cases hk2 : k = n
      · subst hk2
        rw [hE, h0]
        show F.heap[H.size]? = some (vp_cell _ _)
        rw [f2, vr_outer, vp_cell_q]
        unfold arrV
        congr 2
        congr 1
        funext j
        have hj := j.isLt
        show va_rf (if j.val < N then some (H.size + 1 + j.val) else none) = va_rf (some (ad (k + 1 + j.val)))
        rw [if_pos hj, show k + 1 + j.val = k + (1 + j.val) by omega, had (1 + j.val) (by omega), Nat.add_assoc]
      · obtain ⟨i, rfl⟩ : ∃ i, k = n + 1 + i := ⟨k - (n + 1), by omega⟩
        rw [hE2 i (by omega), show n + 1 + i = n + (1 + i) by omega, had (1 + i) (by omega), show H.size + (1 + i) = H.size + 1 + i by omega]
        exact hrow i (by omega)
  have hzF : F.heap.size = H.size + 1 + N := f1
  obtain ⟨t, a1, b1⟩ := kk F.heap hPF hzF (c_pushS hS (by omega) hold) F rfl X'
  rw [h0] at a1
  have step' := step t
  rw [hT] at step'
  exact ⟨t, step' a1, b1⟩
end CRW
/-- a constructor: the world grows from n to N places -/
def gC (l : Launch) (y : MethodName) (b : ByteArray) (ml : Nat) (rm : Room) (D : va_G) (tys : List (ClassId × FieldType)) (Z : (Nat → Prop) → State → Prop) (n N : Nat) (ad : Nat → Nat) (E0 E1 : Nat → va_E) (av : List Value) : Prop :=
  ∀ sz : Nat, (∀ j, n ≤ j → j < N → ad j = sz + (j - n)) → Met l y (Cond.code y b ml none :: wW) rm (va_Pc av (gPre D tys Z n ad E0 sz)) (va_Qv (fun _ : Nat => True) (fun _ t => va_P D cL (gw N ad E1) t.heap ∧ t.heap.size = sz + (N - n)) (gA n ad sz)) rm.cells rm.slots (gA n ad sz)
theorem gC_enter {l : Launch} {y : MethodName} {b : ByteArray} {ml : Nat} {rm : Room} {D : va_G} {tys : List (ClassId × FieldType)} {Z : (Nat → Prop) → State → Prop} {n N : Nat} {ad : Nat → Nat} {E0 E1 : Nat → va_E} {av : List Value} (hy : plainName y.cls = true) (hlen : (lg_sl av).length ≤ ml)
    (body : ∀ (p : Program) (e : Env) (s : State) (m : MethodId) (below : List Frame) (meth : Method) (c : Code) (ls : Array Slot), p.tables.exec = Jvm.exec → c.code = b → meth.sig.returnType = none → (∀ w ∈ wW, w.before av.toArray s = true) → s.vm.findClass y.cls = some m.cls → meth.locks = false → c.maxLocals = ml → lv_has ls ml (lv_args 0 av) → va_P D cL (gw n ad E0) s.heap → va_K D cL tys s → Z (gA n ad s.heap.size) s → va_S (gA n ad s.heap.size) s.heap s.heap [] → (∀ j, n ≤ j → j < N → ad j = s.heap.size + (j - n)) → meth.name = y.name →
      W p l e rm s m av.toArray below meth c s.heap [] 0 0 (MQ below (va_Qv (fun _ : Nat => True) (fun _ t => va_P D cL (gw N ad E1) t.heap ∧ t.heap.size = s.heap.size + (N - n)) (gA n ad s.heap.size)) av.toArray s rm.cells rm.slots (gA n ad s.heap.size)) (F0 m 0 ls [])) : gC l y b ml rm D tys Z n N ad E0 E1 av := by
  intro sz had
  refine gw_enter hy rfl hlen ?_
  intro p e s m below meth c ls hx hb hr hts hown hlocks hml hna hl hB
  obtain ⟨rfl, hP, hK, hZ⟩ := hB
  exact body p e s m below meth c ls hx hb hr (fun w hw => hts w (List.mem_cons_of_mem _ hw)) hown hlocks hml hl hP hK hZ va_S.rf had hna
section CCL
variable {p : Program} {l : Launch} {e : Env} {R : Room} {s : State} {m : MethodId} {args : Array Value} {below : List Frame} {meth : Method} {c : Code} {H : Heap} {locs : List Loc} {cells slots : Nat} {Q : State → Prop}
variable {cc : ByteArray} {pc nL : Nat} {ls : Array Slot} {rest st0 : List Value} {D : va_G} {tys : List (ClassId × FieldType)} {Z : (Nat → Prop) → State → Prop} {n : Nat} {ad : Nat → Nat} {E : Nat → va_E} {A : Nat → Prop} {H0 : Heap} {own : String}
theorem c_ret {E1 : Nat → va_E} {N mc ms : Nat} (hx : p.tables.exec = Jvm.exec) (hb : c.code = cc) (hr : meth.sig.returnType = none) (hlocks : meth.locks = false) (hP : va_P D cL (gw N ad E1) H) (hsz : H.size = s.heap.size + (N - n)) (hS : va_S (gA n ad s.heap.size) s.heap H locs) (hdg : decode cc pc = .ok (.return_, 1)) (hc : cells ≤ mc) (hs : slots ≤ ms) :
    W p l e R s m args below meth c H locs cells slots (MQ below (va_Qv (fun _ : Nat => True) (fun _ t => va_P D cL (gw N ad E1) t.heap ∧ t.heap.size = s.heap.size + (N - n)) (gA n ad s.heap.size)) args s mc ms (gA n ad s.heap.size)) (F0 m pc ls []) :=
  W.widen hc hs (W.vret hx hb hr (fun t ht _ => ⟨⟨0, rfl, trivial, by show va_P D cL (gw N ad E1) t.heap ∧ t.heap.size = s.heap.size + (N - n); rw [ht]; exact ⟨hP, hsz⟩⟩, hS.F ht⟩) hS.2.2 hdg)
/-- the end of a constructor's call, whatever its link: the object at the place b is made, and the places behind it -/
theorem c_after {N : Nat} {H1 : Heap} {d0 : va_E} (hI : gw_inj (n + 1) ad) (hP : va_P D cL (gw (n + 1) ad (va_up E n d0)) H) (hQ : va_P D cL (gw N (fun j => ad (n + j)) (fun j => E (n + j))) H1) (hk : ∀ q : Nat, q < H.size → ¬ gA 1 (fun j => ad (n + j)) H.size q → H1[q]? = H[q]?) : va_P D cL (gw (n + N) ad E) H1 := by
  intro k q hq
  obtain ⟨h1, rfl⟩ := gw_inv hq
  by_cases hkn : k < n
  · have h2 := hP k _ (gw_at (by omega))
    rw [va_up_ne _ _ (by omega)] at h2
    have h3 := gw_lt hP (k := k) (by omega)
    refine h2.kept (hk _ h3 (fun z => ?_))
    rcases z with ⟨j, hj, ej⟩ | z
    · have e0 : j = 0 := by omega
      subst e0
      have := hI k n (by omega) (by omega) ej
      omega
    · have h5 : H.size ≤ ad k := z
      omega
  · obtain ⟨j, rfl⟩ : ∃ j, k = n + j := ⟨k - n, by omega⟩
    exact hQ j _ (gw_at (by omega))
/-- new C(..): invokespecial -/
theorem gcc_I {y : MethodName} {b : ByteArray} {ml np index N : Nat} {rm : Room} {As : List Value} {d0 : va_E} (hx : p.tables.exec = Jvm.exec) (hb : c.code = cc) (hml : c.maxLocals = nL) (hown : s.vm.findClass own = some m.cls) (htw : ∀ w ∈ wW, w.before args s = true) (hK : va_K D cL tys s) (hI : gw_inj (n + 1) ad) (hP : va_P D cL (gw (n + 1) ad (va_up E n d0)) H) (hS : va_S A H0 H locs) (hsz : ∀ j, 1 ≤ j → j < N → ad (n + j) = H.size + (j - 1))
    (hM : gC l y b ml rm D tys Z 1 N (fun j => ad (n + j)) (fun _ => d0) (fun j => E (n + j)) (.ref (ad n) :: As)) (hz : gZ Z) (hZ : ∀ U : State, U.heap = H → s.WarmedH U.vm → Z (gA 1 (fun j => ad (n + j)) H.size) U) (hA : ∀ q, gA 1 (fun j => ad (n + j)) H.size q → A q)
    (hlk : Cond.methodLink own index y ∈ wW) (hin : Cond.instanceMethod y ∈ wW) (hini : Cond.initialized y.cls ∈ wW) (hcd : Cond.code y b ml none ∈ wW) (hnm : y.name = "<init>") (hmp : mP y np) (hR : rm.frames + 1 ≤ R.frames ∧ 8 + (ml + 11) + rm.locals ≤ R.locals) (hn : As.length = np) (hls : ls.size = nL) (hst : st0 = As.reverse ++ .ref (ad n) :: rest) (hW : (rest.map fun v => v.category).sum ≤ 8) (hdg : decode cc pc = .ok (.invokespecial index, 3)) (hf : cells + rm.cells ≤ R.cells ∧ slots + rm.slots ≤ R.slots)
    (kk : ∀ (H1 : Heap) (locs1 : List Loc), va_P D cL (gw (n + N) ad E) H1 → H1.size = H.size + (N - 1) → va_S A H0 H1 locs1 → W p l e R s m args below meth c H1 locs1 (cells + rm.cells) (slots + rm.slots) Q (F0 m (pc + 3) ls rest)) : W p l e R s m args below meth c H locs cells slots Q (F0 m pc ls st0) := by
  have hP1 : va_P D cL (gw 1 (fun j => ad (n + j)) (fun _ => d0)) H := by
    intro k q hq
    obtain ⟨h1, rfl⟩ := gw_inv hq
    have e0 : k = 0 := by omega
    subst e0
    have h2 := hP n _ (gw_at (by omega))
    rw [va_up_self] at h2
    exact h2
  exact va_callv (va_runI (n := np) ⟨hx, hb, hml, hown, htw⟩ (hM H.size (fun j h1 h2 => hsz j h1 h2)) ⟨callB_of np htw (wW_G hcd) rfl rfl rfl (htw _ hini) (htw _ hlk) hmp hR, hnm, htw _ hin⟩ ⟨gc_blind hz, gc_at hP1 hK hZ⟩ rfl hn hls hst (lv_room hW) hdg hf) hS (fun q _ h => hA q h) hA
    (fun _ t H1 locs1 ht _ _ hB _ hk1 hS1 => kk H1 locs1 (c_after hI hP (by rw [← ht]; exact hB.1) hk1) (by rw [← ht]; exact hB.2) hS1)
/-- the same, of a private constructor of a nest mate -/
theorem gcc_IN {y : MethodName} {b : ByteArray} {ml np index N : Nat} {host : String} {rm : Room} {As : List Value} {d0 : va_E} (hx : p.tables.exec = Jvm.exec) (hb : c.code = cc) (hml : c.maxLocals = nL) (hown : s.vm.findClass own = some m.cls) (htw : ∀ w ∈ wW, w.before args s = true) (hK : va_K D cL tys s) (hI : gw_inj (n + 1) ad) (hP : va_P D cL (gw (n + 1) ad (va_up E n d0)) H) (hS : va_S A H0 H locs) (hsz : ∀ j, 1 ≤ j → j < N → ad (n + j) = H.size + (j - 1))
    (hM : gC l y b ml rm D tys Z 1 N (fun j => ad (n + j)) (fun _ => d0) (fun j => E (n + j)) (.ref (ad n) :: As)) (hz : gZ Z) (hZ : ∀ U : State, U.heap = H → s.WarmedH U.vm → Z (gA 1 (fun j => ad (n + j)) H.size) U) (hA : ∀ q, gA 1 (fun j => ad (n + j)) H.size q → A q)
    (hlk : va_Nw (.methodLinkNest own index y host) s) (hin : Cond.instanceMethod y ∈ wW) (hini : Cond.initialized y.cls ∈ wW) (hcd : Cond.code y b ml none ∈ wW) (hnm : y.name = "<init>") (hmp : mP y np) (hR : rm.frames + 1 ≤ R.frames ∧ 8 + (ml + 11) + rm.locals ≤ R.locals) (hn : As.length = np) (hls : ls.size = nL) (hst : st0 = As.reverse ++ .ref (ad n) :: rest) (hW : (rest.map fun v => v.category).sum ≤ 8) (hdg : decode cc pc = .ok (.invokespecial index, 3)) (hf : cells + rm.cells ≤ R.cells ∧ slots + rm.slots ≤ R.slots)
    (kk : ∀ (H1 : Heap) (locs1 : List Loc), va_P D cL (gw (n + N) ad E) H1 → H1.size = H.size + (N - 1) → va_S A H0 H1 locs1 → W p l e R s m args below meth c H1 locs1 (cells + rm.cells) (slots + rm.slots) Q (F0 m (pc + 3) ls rest)) : W p l e R s m args below meth c H locs cells slots Q (F0 m pc ls st0) := by
  have hP1 : va_P D cL (gw 1 (fun j => ad (n + j)) (fun _ => d0)) H := by
    intro k q hq
    obtain ⟨h1, rfl⟩ := gw_inv hq
    have e0 : k = 0 := by omega
    subst e0
    have h2 := hP n _ (gw_at (by omega))
    rw [va_up_self] at h2
    exact h2
  exact va_callv (va_runIN (n := np) ⟨hx, hb, hml, hown, htw⟩ (hM H.size (fun j h1 h2 => hsz j h1 h2)) ⟨va_cnB np htw (wW_G hcd) rfl rfl rfl hlk (htw _ hini) hmp hR, hnm, htw _ hin⟩ ⟨gc_blind hz, gc_at hP1 hK hZ⟩ rfl hn hls hst (lv_room hW) hdg hf) hS (fun q _ h => hA q h) hA
    (fun _ t H1 locs1 ht _ _ hB _ hk1 hS1 => kk H1 locs1 (c_after hI hP (by rw [← ht]; exact hB.1) hk1) (by rw [← ht]; exact hB.2) hS1)
/-- Object's own constructor -/
theorem c_obj {a : Nat} {idx : Nat} (hx : p.tables.exec = Jvm.exec) (hb : c.code = cc) (hml : c.maxLocals = nL) (hown : s.vm.findClass own = some m.cls) (htw : ∀ w ∈ wW, w.before args s = true) (hlk : Cond.methodLink own idx ⟨"java/lang/Object", "<init>", "()V"⟩ ∈ wW) (hin : Cond.instanceMethod ⟨"java/lang/Object", "<init>", "()V"⟩ ∈ wW) (hcd : Cond.code ⟨"java/lang/Object", "<init>", "()V"⟩ ⟨#[0xb1]⟩ 1 none ∈ wW) (hls : ls.size = nL) (hframes : 1 ≤ R.frames) (hlocals : (rest.map fun v => v.category).sum + 12 ≤ R.locals) (hdg : decode cc pc = .ok (.invokespecial idx, 3))
    (kk : W p l e R s m args below meth c H locs cells slots Q (F0 m (pc + 3) ls rest)) : W p l e R s m args below meth c H locs cells slots Q (F0 m pc ls (.ref a :: rest)) :=
  W.objInit hx hb hown (htw _ hlk) (htw _ hin) (htw _ hcd) (g := F0 m pc ls (.ref a :: rest)) rfl (hls.trans hml.symm) rfl hdg hframes (by show 2 * 0 + _ + 12 ≤ _; omega) kk
end CCL
