/-! contracts over worlds by places, and their calls. My own rows over the kit's. -/
theorem wW_G {y : MethodName} {b : ByteArray} {ml : Nat} {r : Option FieldType} (hc : Cond.code y b ml r ∈ wW) : GoodIn wW (Cond.code y b ml r :: wW) := fun w hw => by
  rcases List.mem_cons.mp hw with rfl | h
  · exact ⟨hc, good_of_word (wW_good hc)⟩
  · exact ⟨h, good_of_word (wW_good h)⟩
abbrev mP (y : MethodName) (n : Nat) : Prop := y.cls ≠ "java/lang/invoke/MethodHandle" ∧ y.cls ≠ "java/lang/invoke/VarHandle" ∧ (parseMethodDescriptor y.desc).map (fun d => d.parameters.length) = some n
/-- a word on the tables and on cells outside A: it lasts -/
def gZ (Z : (Nat → Prop) → State → Prop) : Prop := ∀ (A A' : Nat → Prop) (U U' : State), Z A U → U.WarmedH U'.vm → (∀ q : Nat, q < U.heap.size → ¬ A q → U'.heap[q]? = U.heap[q]?) → (∀ q, A' q → A q) → Z A' U'
def gZ0 : (Nat → Prop) → State → Prop := fun _ _ => True
theorem gZ0_ok : gZ gZ0 := fun _ _ _ _ _ _ _ _ => trivial
/-- what holds where a method over the world begins -/
def gPre (D : va_G) (tys : List (ClassId × FieldType)) (Z : (Nat → Prop) → State → Prop) (n : Nat) (ad : Nat → Nat) (E : Nat → va_E) (sz : Nat) (U : State) : Prop :=
  U.heap.size = sz ∧ va_P D cL (gw n ad E) U.heap ∧ va_K D cL tys U ∧ Z (gA n ad sz) U
def gB {S : Type} (D : va_G) (n : Nat) (ad : Nat → Nat) (wd : S → Nat → va_E) : S → State → Prop := fun x t => va_P D cL (gw n ad (wd x)) t.heap
def gBr {S : Type} (D : va_G) (n : Nat) (ad : Nat → Nat) (wd : S → Nat → va_E) (post : Nat → S → Prop) : S → Nat → State → Prop := fun x a t => va_P D cL (gw n ad (wd x)) t.heap ∧ post a x
/-- a method that answers a number -/
def gMi (l : Launch) (y : MethodName) (b : ByteArray) (ml : Nat) (r : Option FieldType) (rm : Room) (D : va_G) (tys : List (ClassId × FieldType)) (Z : (Nat → Prop) → State → Prop) {S : Type} (n : Nat) (ad : Nat → Nat) (wd : S → Nat → va_E) (av : List Value) (x : S) (post : Int32 → S → Prop) : Prop :=
  ∀ sz : Nat, Met l y (Cond.code y b ml r :: wW) rm (va_Pc av (gPre D tys Z n ad (wd x) sz)) (va_Qi post (gB D n ad wd) (gA n ad sz)) rm.cells rm.slots (gA n ad sz)
/-- a method that answers nothing -/
def gMv (l : Launch) (y : MethodName) (b : ByteArray) (ml : Nat) (r : Option FieldType) (rm : Room) (D : va_G) (tys : List (ClassId × FieldType)) (Z : (Nat → Prop) → State → Prop) {S : Type} (n : Nat) (ad : Nat → Nat) (wd : S → Nat → va_E) (av : List Value) (x : S) (post : S → Prop) : Prop :=
  ∀ sz : Nat, Met l y (Cond.code y b ml r :: wW) rm (va_Pc av (gPre D tys Z n ad (wd x) sz)) (va_Qv post (gB D n ad wd) (gA n ad sz)) rm.cells rm.slots (gA n ad sz)
/-- a method that answers a cell -/
def gMr (l : Launch) (y : MethodName) (b : ByteArray) (ml : Nat) (r : Option FieldType) (rm : Room) (D : va_G) (tys : List (ClassId × FieldType)) (Z : (Nat → Prop) → State → Prop) {S : Type} (n : Nat) (ad : Nat → Nat) (wd : S → Nat → va_E) (av : List Value) (x : S) (post : Nat → S → Prop) : Prop :=
  ∀ sz : Nat, Met l y (Cond.code y b ml r :: wW) rm (va_Pc av (gPre D tys Z n ad (wd x) sz)) (va_Qr (fun _ => True) (gBr D n ad wd post) (gA n ad sz)) rm.cells rm.slots (gA n ad sz)
theorem gc_blind {D : va_G} {tys : List (ClassId × FieldType)} {Z : (Nat → Prop) → State → Prop} {n : Nat} {ad : Nat → Nat} {E : Nat → va_E} {sz : Nat} {av : List Value} (hz : gZ Z) : FrameBlind (va_Pc av (gPre D tys Z n ad E sz)) := fun a U g mk q => by
  obtain ⟨q0, q1, qP, qK, qZ⟩ := q
  exact ⟨q0, q1, qP, va_K.moved (u := U) (U := U.calling g mk a) (Vm.Alike.refl U.vm) qK, hz _ _ _ _ qZ (State.WarmedH.refl U) (fun _ _ _ => rfl) (fun _ h => h)⟩
theorem gc_at {D : va_G} {tys : List (ClassId × FieldType)} {Z : (Nat → Prop) → State → Prop} {n : Nat} {ad : Nat → Nat} {E : Nat → va_E} {av : List Value} {s : State} {H : Heap} (hP : va_P D cL (gw n ad E) H) (hK : va_K D cL tys s) (hZ : ∀ U : State, U.heap = H → s.WarmedH U.vm → Z (gA n ad H.size) U) :
    ∀ U : State, U.heap = H → s.WarmedH U.vm → va_Pc av (gPre D tys Z n ad E H.size) av.toArray U := fun U hU hW => ⟨rfl, by rw [hU], by rw [hU]; exact hP, va_K.moved hW.alike hK, hZ U hU hW⟩
section GC
variable {p : Program} {l : Launch} {e : Env} {R : Room} {s : State} {m : MethodId} {args : Array Value} {below : List Frame} {meth : Method} {c : Code} {H : Heap} {locs : List Loc} {cells slots : Nat} {Q : State → Prop}
variable {cc : ByteArray} {pc nL : Nat} {ls : Array Slot} {rest st0 : List Value} {D : va_G} {tys : List (ClassId × FieldType)} {Z : (Nat → Prop) → State → Prop} {n : Nat} {ad : Nat → Nat} {A : Nat → Prop} {H0 : Heap}
variable {S : Type} {wd : S → Nat → va_E} {x : S} {y : MethodName} {b : ByteArray} {ml np index : Nat} {r0 : Option FieldType} {rm : Room} {own : String} {As : List Value}
/-- invokevirtual, a number comes back -/
theorem gc_Vi {post : Int32 → S → Prop} (hx : p.tables.exec = Jvm.exec) (hb : c.code = cc) (hml : c.maxLocals = nL) (hown : s.vm.findClass own = some m.cls) (htw : ∀ w ∈ wW, w.before args s = true) (hK : va_K D cL tys s) (hP : va_P D cL (gw n ad (wd x)) H) (hS : va_S A H0 H locs) (k0 : Nat) (hM : gMi l y b ml r0 rm D tys Z n ad wd (.ref (ad k0) :: As) x post)
    (hz : gZ Z) (hZ : ∀ U : State, U.heap = H → s.WarmedH U.vm → Z (gA n ad H.size) U) (hA : ∀ q, gA n ad H.size q → A q) (h0 : k0 < n) {ci : Nat} {fs : List Value} {T : u_T} {N : Nat} (he : wd x k0 = .inr (ci, fs)) (hc : cL[ci]? = some (y.cls, T, N))
    (hlk : Cond.methodLink own index y ∈ wW) (hin : Cond.instanceMethod y ∈ wW) (hse : Cond.selects y.cls y y ∈ wW) (hini : Cond.initialized y.cls ∈ wW) (hcd : Cond.code y b ml r0 ∈ wW) (hmp : mP y np) (hR : rm.frames + 1 ≤ R.frames ∧ 8 + (ml + 11) + rm.locals ≤ R.locals) (hn : As.length = np) (hsz : ls.size = nL) (hst : st0 = As.reverse ++ .ref (ad k0) :: rest) (hW : (rest.map fun v => v.category).sum ≤ 8) (hdg : decode cc pc = .ok (.invokevirtual index, 3)) (hf : cells + rm.cells ≤ R.cells ∧ slots + rm.slots ≤ R.slots)
    (kk : ∀ (r : Int32) (x1 : S) (H1 : Heap) (locs1 : List Loc), post r x1 → va_P D cL (gw n ad (wd x1)) H1 → H.size ≤ H1.size → (∀ q : Nat, q < H.size → ¬ gA n ad H.size q → H1[q]? = H[q]?) → va_S A H0 H1 locs1 → W p l e R s m args below meth c H1 locs1 (cells + rm.cells) (slots + rm.slots) Q (F0 m (pc + 3) ls (.int r :: rest))) :
    W p l e R s m args below meth c H locs cells slots Q (F0 m pc ls st0) :=
  va_calli (va_runV (C := y.cls) (n := np) ⟨hx, hb, hml, hown, htw⟩ (hM H.size) ⟨callB_of np htw (wW_G hcd) rfl rfl rfl (htw _ hini) (htw _ hlk) hmp hR, htw _ hin, htw _ hse⟩ ⟨gc_blind hz, va_recv hK hP hc (gw_at' h0 he), gc_at hP hK hZ⟩ rfl hn hsz hst (lv_room hW) hdg hf) hS (fun q _ h => hA q h) hA
    (fun r x1 t H1 locs1 ht _ hp hB hz1 hk1 hS1 => kk r x1 H1 locs1 hp (by rw [← ht]; exact hB) hz1 hk1 hS1)
theorem gc_Vv {post : S → Prop} (hx : p.tables.exec = Jvm.exec) (hb : c.code = cc) (hml : c.maxLocals = nL) (hown : s.vm.findClass own = some m.cls) (htw : ∀ w ∈ wW, w.before args s = true) (hK : va_K D cL tys s) (hP : va_P D cL (gw n ad (wd x)) H) (hS : va_S A H0 H locs) (k0 : Nat) (hM : gMv l y b ml r0 rm D tys Z n ad wd (.ref (ad k0) :: As) x post)
    (hz : gZ Z) (hZ : ∀ U : State, U.heap = H → s.WarmedH U.vm → Z (gA n ad H.size) U) (hA : ∀ q, gA n ad H.size q → A q) (h0 : k0 < n) {ci : Nat} {fs : List Value} {T : u_T} {N : Nat} (he : wd x k0 = .inr (ci, fs)) (hc : cL[ci]? = some (y.cls, T, N))
    (hlk : Cond.methodLink own index y ∈ wW) (hin : Cond.instanceMethod y ∈ wW) (hse : Cond.selects y.cls y y ∈ wW) (hini : Cond.initialized y.cls ∈ wW) (hcd : Cond.code y b ml r0 ∈ wW) (hmp : mP y np) (hR : rm.frames + 1 ≤ R.frames ∧ 8 + (ml + 11) + rm.locals ≤ R.locals) (hn : As.length = np) (hsz : ls.size = nL) (hst : st0 = As.reverse ++ .ref (ad k0) :: rest) (hW : (rest.map fun v => v.category).sum ≤ 8) (hdg : decode cc pc = .ok (.invokevirtual index, 3)) (hf : cells + rm.cells ≤ R.cells ∧ slots + rm.slots ≤ R.slots)
    (kk : ∀ (x1 : S) (H1 : Heap) (locs1 : List Loc), post x1 → va_P D cL (gw n ad (wd x1)) H1 → H.size ≤ H1.size → (∀ q : Nat, q < H.size → ¬ gA n ad H.size q → H1[q]? = H[q]?) → va_S A H0 H1 locs1 → W p l e R s m args below meth c H1 locs1 (cells + rm.cells) (slots + rm.slots) Q (F0 m (pc + 3) ls rest)) :
    W p l e R s m args below meth c H locs cells slots Q (F0 m pc ls st0) :=
  va_callv (va_runV (C := y.cls) (n := np) ⟨hx, hb, hml, hown, htw⟩ (hM H.size) ⟨callB_of np htw (wW_G hcd) rfl rfl rfl (htw _ hini) (htw _ hlk) hmp hR, htw _ hin, htw _ hse⟩ ⟨gc_blind hz, va_recv hK hP hc (gw_at' h0 he), gc_at hP hK hZ⟩ rfl hn hsz hst (lv_room hW) hdg hf) hS (fun q _ h => hA q h) hA
    (fun x1 t H1 locs1 ht _ hp hB hz1 hk1 hS1 => kk x1 H1 locs1 hp (by rw [← ht]; exact hB) hz1 hk1 hS1)
theorem gc_Vr {post : Nat → S → Prop} (hx : p.tables.exec = Jvm.exec) (hb : c.code = cc) (hml : c.maxLocals = nL) (hown : s.vm.findClass own = some m.cls) (htw : ∀ w ∈ wW, w.before args s = true) (hK : va_K D cL tys s) (hP : va_P D cL (gw n ad (wd x)) H) (hS : va_S A H0 H locs) (k0 : Nat) (hM : gMr l y b ml r0 rm D tys Z n ad wd (.ref (ad k0) :: As) x post)
    (hz : gZ Z) (hZ : ∀ U : State, U.heap = H → s.WarmedH U.vm → Z (gA n ad H.size) U) (hA : ∀ q, gA n ad H.size q → A q) (h0 : k0 < n) {ci : Nat} {fs : List Value} {T : u_T} {N : Nat} (he : wd x k0 = .inr (ci, fs)) (hc : cL[ci]? = some (y.cls, T, N))
    (hlk : Cond.methodLink own index y ∈ wW) (hin : Cond.instanceMethod y ∈ wW) (hse : Cond.selects y.cls y y ∈ wW) (hini : Cond.initialized y.cls ∈ wW) (hcd : Cond.code y b ml r0 ∈ wW) (hmp : mP y np) (hR : rm.frames + 1 ≤ R.frames ∧ 8 + (ml + 11) + rm.locals ≤ R.locals) (hn : As.length = np) (hsz : ls.size = nL) (hst : st0 = As.reverse ++ .ref (ad k0) :: rest) (hW : (rest.map fun v => v.category).sum ≤ 8) (hdg : decode cc pc = .ok (.invokevirtual index, 3)) (hf : cells + rm.cells ≤ R.cells ∧ slots + rm.slots ≤ R.slots)
    (kk : ∀ (a : Nat) (x1 : S) (H1 : Heap) (locs1 : List Loc), post a x1 → va_P D cL (gw n ad (wd x1)) H1 → H.size ≤ H1.size → (∀ q : Nat, q < H.size → ¬ gA n ad H.size q → H1[q]? = H[q]?) → va_S A H0 H1 locs1 → W p l e R s m args below meth c H1 locs1 (cells + rm.cells) (slots + rm.slots) Q (F0 m (pc + 3) ls (.ref a :: rest))) :
    W p l e R s m args below meth c H locs cells slots Q (F0 m pc ls st0) :=
  va_callr (va_runV (C := y.cls) (n := np) ⟨hx, hb, hml, hown, htw⟩ (hM H.size) ⟨callB_of np htw (wW_G hcd) rfl rfl rfl (htw _ hini) (htw _ hlk) hmp hR, htw _ hin, htw _ hse⟩ ⟨gc_blind hz, va_recv hK hP hc (gw_at' h0 he), gc_at hP hK hZ⟩ rfl hn hsz hst (lv_room hW) hdg hf) hS (fun q _ h => hA q h) hA
    (fun x1 a t H1 locs1 ht _ _ hB hz1 hk1 hS1 => kk a x1 H1 locs1 hB.2 (by rw [← ht]; exact hB.1) hz1 hk1 hS1)
/-- invokestatic -/
theorem gc_Si {post : Int32 → S → Prop} (hx : p.tables.exec = Jvm.exec) (hb : c.code = cc) (hml : c.maxLocals = nL) (hown : s.vm.findClass own = some m.cls) (htw : ∀ w ∈ wW, w.before args s = true) (hK : va_K D cL tys s) (hP : va_P D cL (gw n ad (wd x)) H) (hS : va_S A H0 H locs) (hM : gMi l y b ml r0 rm D tys Z n ad wd As x post)
    (hz : gZ Z) (hZ : ∀ U : State, U.heap = H → s.WarmedH U.vm → Z (gA n ad H.size) U) (hA : ∀ q, gA n ad H.size q → A q)
    (hlk : Cond.methodLink own index y ∈ wW) (hin : Cond.static y ∈ wW) (hini : Cond.initialized y.cls ∈ wW) (hcd : Cond.code y b ml r0 ∈ wW) (hmp : mP y np) (hR : rm.frames + 1 ≤ R.frames ∧ 8 + (ml + 11) + rm.locals ≤ R.locals) (hn : As.length = np) (hsz : ls.size = nL) (hst : st0 = As.reverse ++ rest) (hW : (rest.map fun v => v.category).sum ≤ 8) (hdg : decode cc pc = .ok (.invokestatic index, 3)) (hf : cells + rm.cells ≤ R.cells ∧ slots + rm.slots ≤ R.slots)
    (kk : ∀ (r : Int32) (x1 : S) (H1 : Heap) (locs1 : List Loc), post r x1 → va_P D cL (gw n ad (wd x1)) H1 → H.size ≤ H1.size → (∀ q : Nat, q < H.size → ¬ gA n ad H.size q → H1[q]? = H[q]?) → va_S A H0 H1 locs1 → W p l e R s m args below meth c H1 locs1 (cells + rm.cells) (slots + rm.slots) Q (F0 m (pc + 3) ls (.int r :: rest))) :
    W p l e R s m args below meth c H locs cells slots Q (F0 m pc ls st0) :=
  va_calli (va_runS (n := np) ⟨hx, hb, hml, hown, htw⟩ (hM H.size) ⟨callB_of np htw (wW_G hcd) rfl rfl rfl (htw _ hini) (htw _ hlk) hmp hR, htw _ hin⟩ ⟨gc_blind hz, gc_at hP hK hZ⟩ rfl hn hsz hst (lv_room hW) hdg hf) hS (fun q _ h => hA q h) hA
    (fun r x1 t H1 locs1 ht _ hp hB hz1 hk1 hS1 => kk r x1 H1 locs1 hp (by rw [← ht]; exact hB) hz1 hk1 hS1)
theorem gc_Sv {post : S → Prop} (hx : p.tables.exec = Jvm.exec) (hb : c.code = cc) (hml : c.maxLocals = nL) (hown : s.vm.findClass own = some m.cls) (htw : ∀ w ∈ wW, w.before args s = true) (hK : va_K D cL tys s) (hP : va_P D cL (gw n ad (wd x)) H) (hS : va_S A H0 H locs) (hM : gMv l y b ml r0 rm D tys Z n ad wd As x post)
    (hz : gZ Z) (hZ : ∀ U : State, U.heap = H → s.WarmedH U.vm → Z (gA n ad H.size) U) (hA : ∀ q, gA n ad H.size q → A q)
    (hlk : Cond.methodLink own index y ∈ wW) (hin : Cond.static y ∈ wW) (hini : Cond.initialized y.cls ∈ wW) (hcd : Cond.code y b ml r0 ∈ wW) (hmp : mP y np) (hR : rm.frames + 1 ≤ R.frames ∧ 8 + (ml + 11) + rm.locals ≤ R.locals) (hn : As.length = np) (hsz : ls.size = nL) (hst : st0 = As.reverse ++ rest) (hW : (rest.map fun v => v.category).sum ≤ 8) (hdg : decode cc pc = .ok (.invokestatic index, 3)) (hf : cells + rm.cells ≤ R.cells ∧ slots + rm.slots ≤ R.slots)
    (kk : ∀ (x1 : S) (H1 : Heap) (locs1 : List Loc), post x1 → va_P D cL (gw n ad (wd x1)) H1 → H.size ≤ H1.size → (∀ q : Nat, q < H.size → ¬ gA n ad H.size q → H1[q]? = H[q]?) → va_S A H0 H1 locs1 → W p l e R s m args below meth c H1 locs1 (cells + rm.cells) (slots + rm.slots) Q (F0 m (pc + 3) ls rest)) :
    W p l e R s m args below meth c H locs cells slots Q (F0 m pc ls st0) :=
  va_callv (va_runS (n := np) ⟨hx, hb, hml, hown, htw⟩ (hM H.size) ⟨callB_of np htw (wW_G hcd) rfl rfl rfl (htw _ hini) (htw _ hlk) hmp hR, htw _ hin⟩ ⟨gc_blind hz, gc_at hP hK hZ⟩ rfl hn hsz hst (lv_room hW) hdg hf) hS (fun q _ h => hA q h) hA
    (fun x1 t H1 locs1 ht _ hp hB hz1 hk1 hS1 => kk x1 H1 locs1 hp (by rw [← ht]; exact hB) hz1 hk1 hS1)
/-- the ends -/
theorem gw_iret {post : Int32 → S → Prop} {mc ms : Nat} {r : Int32} (hx : p.tables.exec = Jvm.exec) (hb : c.code = cc) (hr : meth.sig.returnType = some .int) (hlocks : meth.locks = false) (hP : va_P D cL (gw n ad (wd x)) H) (hS : va_S (gA n ad s.heap.size) s.heap H locs) (hp : post r x) (hdg : decode cc pc = .ok (.ireturn, 1)) (hc : cells ≤ mc) (hs : slots ≤ ms) :
    W p l e R s m args below meth c H locs cells slots (MQ below (va_Qi post (gB D n ad wd) (gA n ad s.heap.size)) args s mc ms (gA n ad s.heap.size)) (F0 m pc ls [.int r]) :=
  W.widen hc hs (W.iret hx hb hr (fun t ht _ => ⟨⟨r, x, rfl, hp, by show va_P D cL (gw n ad (wd x)) t.heap; rw [ht]; exact hP⟩, hS.F ht⟩) hS.2.2 hdg)
theorem gw_zret {post : Int32 → S → Prop} {mc ms : Nat} {r : Int32} (hx : p.tables.exec = Jvm.exec) (hb : c.code = cc) (hr : meth.sig.returnType = some .boolean) (hlocks : meth.locks = false) (hP : va_P D cL (gw n ad (wd x)) H) (hS : va_S (gA n ad s.heap.size) s.heap H locs) (hn : narrow .boolean (.int r) = .int r) (hp : post r x) (hdg : decode cc pc = .ok (.ireturn, 1)) (hc : cells ≤ mc) (hs : slots ≤ ms) :
    W p l e R s m args below meth c H locs cells slots (MQ below (va_Qi post (gB D n ad wd) (gA n ad s.heap.size)) args s mc ms (gA n ad s.heap.size)) (F0 m pc ls [.int r]) :=
  W.widen hc hs (W.zret hx hb hr hn (fun t ht _ => ⟨⟨r, x, rfl, hp, by show va_P D cL (gw n ad (wd x)) t.heap; rw [ht]; exact hP⟩, hS.F ht⟩) hS.2.2 hdg)
theorem gw_vret {post : S → Prop} {mc ms : Nat} (hx : p.tables.exec = Jvm.exec) (hb : c.code = cc) (hr : meth.sig.returnType = none) (hlocks : meth.locks = false) (hP : va_P D cL (gw n ad (wd x)) H) (hS : va_S (gA n ad s.heap.size) s.heap H locs) (hp : post x) (hdg : decode cc pc = .ok (.return_, 1)) (hc : cells ≤ mc) (hs : slots ≤ ms) :
    W p l e R s m args below meth c H locs cells slots (MQ below (va_Qv post (gB D n ad wd) (gA n ad s.heap.size)) args s mc ms (gA n ad s.heap.size)) (F0 m pc ls []) :=
  W.widen hc hs (W.vret hx hb hr (fun t ht _ => ⟨⟨x, rfl, hp, by show va_P D cL (gw n ad (wd x)) t.heap; rw [ht]; exact hP⟩, hS.F ht⟩) hS.2.2 hdg)
theorem gw_aret {post : Nat → S → Prop} {mc ms : Nat} {a : Nat} {nm : String} (hx : p.tables.exec = Jvm.exec) (hb : c.code = cc) (hr : meth.sig.returnType = some (.object nm)) (hlocks : meth.locks = false) (hP : va_P D cL (gw n ad (wd x)) H) (hS : va_S (gA n ad s.heap.size) s.heap H locs) (hp : post a x) (hdg : decode cc pc = .ok (.areturn, 1)) (hc : cells ≤ mc) (hs : slots ≤ ms) :
    W p l e R s m args below meth c H locs cells slots (MQ below (va_Qr (fun _ => True) (gBr D n ad wd post) (gA n ad s.heap.size)) args s mc ms (gA n ad s.heap.size)) (F0 m pc ls [.ref a]) :=
  W.widen hc hs (W.aret hx hb hr (Or.inl ⟨nm, rfl⟩) (Or.inr ⟨a, rfl⟩) (fun t ht _ => ⟨⟨x, a, rfl, trivial, by show va_P D cL (gw n ad (wd x)) t.heap; rw [ht]; exact hP, hp⟩, hS.F ht⟩) hS.2.2 hdg)
end GC
/-- entries -/
theorem gMi_enter {l : Launch} {y : MethodName} {b : ByteArray} {ml : Nat} {r : Option FieldType} {rm : Room} {D : va_G} {tys : List (ClassId × FieldType)} {Z : (Nat → Prop) → State → Prop} {S : Type} {n : Nat} {ad : Nat → Nat} {wd : S → Nat → va_E} {av : List Value} {x : S} {post : Int32 → S → Prop} (hy : plainName y.cls = true) (hlen : (lg_sl av).length ≤ ml)
    (body : ∀ (p : Program) (e : Env) (s : State) (m : MethodId) (below : List Frame) (meth : Method) (c : Code) (ls : Array Slot), p.tables.exec = Jvm.exec → c.code = b → meth.sig.returnType = r → (∀ w ∈ wW, w.before av.toArray s = true) → s.vm.findClass y.cls = some m.cls → meth.locks = false → c.maxLocals = ml → lv_has ls ml (lv_args 0 av) → va_P D cL (gw n ad (wd x)) s.heap → va_K D cL tys s → Z (gA n ad s.heap.size) s → va_S (gA n ad s.heap.size) s.heap s.heap [] →
      W p l e rm s m av.toArray below meth c s.heap [] 0 0 (MQ below (va_Qi post (gB D n ad wd) (gA n ad s.heap.size)) av.toArray s rm.cells rm.slots (gA n ad s.heap.size)) (F0 m 0 ls [])) : gMi l y b ml r rm D tys Z n ad wd av x post := by
  intro sz
  refine gw_enter hy rfl hlen ?_
  intro p e s m below meth c ls hx hb hr hts hown hlocks hml _ hl hB
  obtain ⟨rfl, hP, hK, hZ⟩ := hB
  exact body p e s m below meth c ls hx hb hr (fun w hw => hts w (List.mem_cons_of_mem _ hw)) hown hlocks hml hl hP hK hZ va_S.rf
theorem gMv_enter {l : Launch} {y : MethodName} {b : ByteArray} {ml : Nat} {r : Option FieldType} {rm : Room} {D : va_G} {tys : List (ClassId × FieldType)} {Z : (Nat → Prop) → State → Prop} {S : Type} {n : Nat} {ad : Nat → Nat} {wd : S → Nat → va_E} {av : List Value} {x : S} {post : S → Prop} (hy : plainName y.cls = true) (hlen : (lg_sl av).length ≤ ml)
    (body : ∀ (p : Program) (e : Env) (s : State) (m : MethodId) (below : List Frame) (meth : Method) (c : Code) (ls : Array Slot), p.tables.exec = Jvm.exec → c.code = b → meth.sig.returnType = r → (∀ w ∈ wW, w.before av.toArray s = true) → s.vm.findClass y.cls = some m.cls → meth.locks = false → c.maxLocals = ml → lv_has ls ml (lv_args 0 av) → va_P D cL (gw n ad (wd x)) s.heap → va_K D cL tys s → Z (gA n ad s.heap.size) s → va_S (gA n ad s.heap.size) s.heap s.heap [] →
      W p l e rm s m av.toArray below meth c s.heap [] 0 0 (MQ below (va_Qv post (gB D n ad wd) (gA n ad s.heap.size)) av.toArray s rm.cells rm.slots (gA n ad s.heap.size)) (F0 m 0 ls [])) : gMv l y b ml r rm D tys Z n ad wd av x post := by
  intro sz
  refine gw_enter hy rfl hlen ?_
  intro p e s m below meth c ls hx hb hr hts hown hlocks hml _ hl hB
  obtain ⟨rfl, hP, hK, hZ⟩ := hB
  exact body p e s m below meth c ls hx hb hr (fun w hw => hts w (List.mem_cons_of_mem _ hw)) hown hlocks hml hl hP hK hZ va_S.rf
theorem gMr_enter {l : Launch} {y : MethodName} {b : ByteArray} {ml : Nat} {r : Option FieldType} {rm : Room} {D : va_G} {tys : List (ClassId × FieldType)} {Z : (Nat → Prop) → State → Prop} {S : Type} {n : Nat} {ad : Nat → Nat} {wd : S → Nat → va_E} {av : List Value} {x : S} {post : Nat → S → Prop} (hy : plainName y.cls = true) (hlen : (lg_sl av).length ≤ ml)
    (body : ∀ (p : Program) (e : Env) (s : State) (m : MethodId) (below : List Frame) (meth : Method) (c : Code) (ls : Array Slot), p.tables.exec = Jvm.exec → c.code = b → meth.sig.returnType = r → (∀ w ∈ wW, w.before av.toArray s = true) → s.vm.findClass y.cls = some m.cls → meth.locks = false → c.maxLocals = ml → lv_has ls ml (lv_args 0 av) → va_P D cL (gw n ad (wd x)) s.heap → va_K D cL tys s → Z (gA n ad s.heap.size) s → va_S (gA n ad s.heap.size) s.heap s.heap [] →
      W p l e rm s m av.toArray below meth c s.heap [] 0 0 (MQ below (va_Qr (fun _ => True) (gBr D n ad wd post) (gA n ad s.heap.size)) av.toArray s rm.cells rm.slots (gA n ad s.heap.size)) (F0 m 0 ls [])) : gMr l y b ml r rm D tys Z n ad wd av x post := by
  intro sz
  refine gw_enter hy rfl hlen ?_
  intro p e s m below meth c ls hx hb hr hts hown hlocks hml _ hl hB
  obtain ⟨rfl, hP, hK, hZ⟩ := hB
  exact body p e s m below meth c ls hx hb hr (fun w hw => hts w (List.mem_cons_of_mem _ hw)) hown hlocks hml hl hP hK hZ va_S.rf
