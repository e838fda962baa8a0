/-! methods that throw always: the contract, the throw itself, the call. My own rows; the walk of the constructors is the library's (ctorMessageOffV), put together as the library's own ctorThrowS does it, for a constructor of any index. -/
set_option maxHeartbeats 1000000 in
theorem tx_ctor {p : Program} {l : Launch} {e : Env} {R : Room} {s : State} {m₀ : MethodId} {args : Array Value} {below : List Frame} {meth : Method} {c : Code} {W : State} {locs : List Loc} {cells slots : Nat}
    (X : Stand p l e R s m₀ args below meth c W locs cells slots) (hexec : p.tables.exec = Jvm.exec) (htr : e.platform.stackTraces = false) {own cls : String} {names : List String} {ic ix : Nat} {rx : ByteArray}
    (x0 : decode rx 0 = .ok (.aload_n 0, 1)) (x1 : decode rx 1 = .ok (.aload_n 1, 1)) (x2 : decode rx 2 = .ok (.invokespecial ix, 3)) (x5 : decode rx 5 = .ok (.return_, 1))
    (hown : s.vm.findClass own = some m₀.cls) (hcls : Bundle.fit cls = true) (hnames : ∀ n ∈ names, Bundle.fit n = true)
    (h : ∀ a ∈ Bundle.ownAtomsX own ic cls ix rx names, a.before args s = true)
    (hlocs : ∀ x ∈ locs, ∀ cell, s.heap[x.base]? = some cell → cell.vm.isStatics = false)
    {a : Addr} {cX : ClassId} {kX : Class} (hfoundX : s.vm.findClass cls = some cX) (hkX : s.vm.classes[cX]? = some kX) (hcell : W.heap[a]? = some (freshCell cX kX)) (hnew : s.heap.size ≤ a)
    {msg : Value} (hmsg : msg.isRef = true)
    {g : JFrame} (hg : g.method = m₀) (hsize : g.locals.size = c.maxLocals) (hlocked : g.locked = none) (hentered : g.entered = []) {rest : List Value} (hstack : g.stack = msg :: .ref a :: .ref a :: rest)
    (hd6 : decode c.code g.pc = .ok (.invokespecial ic, 3)) (hd9 : decode c.code (g.pc + 3) = .ok (.athrow, 1)) (hout : ∀ x ∈ c.exceptionTable.toList, covers x (g.pc + 3) = false)
    (hRframes : names.length + 3 < R.frames) (hRlocals : 2 * g.monitorRoom + ((Value.ref a :: rest).map fun v => v.category).sum + (13 * (names.length + 1) + 42) ≤ R.locals) (hlocks : meth.locks = false) :
    ∃ U : State, Steps p.tables e below (W.setTop g) U ∧ U.status = .running ∧ Ended U below (.threw a) ∧ s.WarmedH U.vm ∧ s.sameButNew ({ U with vm := s.vm } : State) locs cells slots ∧
      ∃ ce, U.heap[a]? = some ce ∧ ce.cls = cX ∧ ce.vm = .none ∧ U.heap = W.heap.setIfInBounds a ce := by
  have howns : e.platform.frameOwnsMonitors = true := by rw [X.admits.platform]
  have hfin : e.platform.finalization = false := by rw [X.admits.platform]
  have hpl : e.platform.magicAccessors = ({} : Platform).magicAccessors := by rw [X.admits.platform]
  have a' : ∀ x, x ∈ Bundle.ownAtomsX own ic cls ix rx names → x.holds args s none s [] = true := fun x hx => h x hx
  obtain ⟨T, Z0, L, -, Y⟩ := ThrowableC.of_atoms (args := args) howns hfin hpl (fun x hx => h x (by simp [Bundle.ownAtomsX, hx]))
  obtain ⟨Z, M, LZ, LM, hnZ⟩ := Init0T.ofS_atoms (args := args) hpl L Y (fun x hx => h x (by simp [Bundle.ownAtomsX, hx]))
  obtain ⟨P1, Ps, hlen, L1, hL, hP1m, hlink1, hlink⟩ := Bundle.chainSX (args := args) hpl hnZ x0 x1 x2 x5 names cls hcls hnames (fun x hx => h x (by simp [Bundle.ownAtomsX, hx]))
  have hfound : s.vm.findClass cls = some P1.m.cls := findClass_of_methodNamed hP1m
  cases Option.some.inj (hfoundX.symm.trans hfound)
  obtain ⟨c1, kX', hc1, hk, hord, -, -, hn6⟩ := Cond.instantiable_spec (a' (.instantiable cls 6) (by simp [Bundle.ownAtomsX]))
  cases Option.some.inj (hc1.symm.trans hfound)
  cases Option.some.inj (hkX.symm.trans hk)
  have hsel0 : selectMethod e.platform s.vm P1.m.cls T.fill0 = .method T.fill0 := by
    obtain ⟨c2, r2, m2, q1, q2, q3, q4, -⟩ := Cond.selects_spec (a' (.selects cls Bundle.tFill0 Bundle.tFill0) (by simp [Bundle.ownAtomsX]))
    cases Option.some.inj (q1.symm.trans hfound)
    cases Option.some.inj (q2.symm.trans (State.methodFound?_of_named Y.fill0 (by decide)))
    cases Option.some.inj (q3.symm.trans Y.fill0)
    rw [Launch.admits_selectMethod X.admits]; exact q4
  have hselF : selectMethod e.platform s.vm P1.m.cls T.fill = .method T.fill := by
    obtain ⟨c2, r2, m2, q1, q2, q3, q4, -⟩ := Cond.selects_spec (a' (.selects cls Bundle.tFill Bundle.tFill) (by simp [Bundle.ownAtomsX]))
    cases Option.some.inj (q1.symm.trans hfound)
    cases Option.some.inj (q2.symm.trans (State.methodFound?_of_named Y.fill (by decide)))
    cases Option.some.inj (q3.symm.trans Y.fill)
    rw [Launch.admits_selectMethod X.admits]; exact q4
  obtain ⟨cellS0, hcS0, hiss⟩ := Y.statics
  obtain ⟨u0, hu0⟩ := Cond.staticRefV Y.unassigned L.unassignedStatic L.statics hcS0 hiss (a' (.isRef (.static Bundle.tN "UNASSIGNED_STACK" Bundle.steD)) (by simp [Bundle.ownAtomsX]))
  obtain ⟨sen, hsen⟩ := Cond.staticRefV Y.sentinel L.sentinelStatic L.statics hcS0 hiss (a' (.isRef (.static Bundle.tN "SUPPRESSED_SENTINEL" Bundle.listD)) (by simp [Bundle.ownAtomsX]))
  obtain ⟨ci198, i198, fB, hk198, hg198, ha198, hsB, -, hnB, htB, hffB⟩ := Cond.ownField (t := .object "java/lang/Object") Y.found L.cls (by decide +kernel) (a' (.fieldLink Bundle.tN 198 Bundle.tN "backtrace" "Ljava/lang/Object;") (by simp [Bundle.ownAtomsX])) (a' (.lays Bundle.tN Bundle.tN "backtrace" "Ljava/lang/Object;") (by simp [Bundle.ownAtomsX])) e.platform hpl
  obtain ⟨cellS, hcS', heS, -, hkeep⟩ := X.same.2.2.2.2.2 T.aS cellS0 hcS0
  have hcellS : W.heap[T.aS]? = some cellS := hcS'
  have hout' : ∀ i, (⟨T.aS, i⟩ : Loc) ∉ locs := fun i hmem => by
    have := hlocs _ hmem cellS0 hcS0
    rw [hiss] at this; cases this
  have hknownS : cellS.vm ≠ .unknown := by
    rw [heS]; intro hu
    rw [show cellS0.vm = .unknown from hu] at hiss
    cases hiss
  have hneS : T.aS ≠ a := Nat.ne_of_lt (Nat.lt_of_lt_of_le (Array.getElem?_eq_some_iff.mp hcS0).1 hnew)
  obtain ⟨iM, hffM⟩ := Y.msg
  obtain ⟨tyC, dC, hdC, hdnC⟩ := Cond.laysAt hfound hk Y.cause (a' (.lays cls Bundle.tN "cause" "Ljava/lang/Throwable;") (by simp [Bundle.ownAtomsX]))
  obtain ⟨tyS, dS, hdS, hdnS⟩ := Cond.laysAt hfound hk Y.stack (a' (.lays cls Bundle.tN "stackTrace" Bundle.steD) (by simp [Bundle.ownAtomsX]))
  obtain ⟨tyP, dP, hdP, hdnP⟩ := Cond.laysAt hfound hk Y.supp (a' (.lays cls Bundle.tN "suppressedExceptions" Bundle.listD) (by simp [Bundle.ownAtomsX]))
  obtain ⟨tyM, dM, hdM, hdnM⟩ := Cond.laysAt hfound hk hffM (a' (.lays cls Bundle.tN "detailMessage" "Ljava/lang/String;") (by simp [Bundle.ownAtomsX]))
  obtain ⟨tyB, dB, hdB, hdnB⟩ := Cond.laysAt hfound hk hffB (a' (.lays cls Bundle.tN "backtrace" "Ljava/lang/Object;") (by simp [Bundle.ownAtomsX]))
  have bC := Cond.laysApart hdB hdC hdnB hdnC (by rw [hnB, Y.causeName]; decide)
  have bS := Cond.laysApart hdB hdS hdnB hdnS (by rw [hnB, Y.stackName]; decide)
  have bP := Cond.laysApart hdB hdP hdnB hdnP (by rw [hnB, Y.suppName]; decide)
  have hskip : SkipFacts T e.platform s (fun u => u) u0 ((preparedCellV T.toThrowableT (freshCell P1.m.cls kX) a u0 sen).withEntry W.cur) :=
    ⟨{ ci198 := ci198, i198 := i198, fBack := fB }, ⟨hk198, hg198, ha198, hsB⟩, by
      have := fresh_default (c := P1.m.cls) tyB
      rw [htB] at this
      simpa [preparedCellV, Cell.setSlot, Cell.withEntry, Array.getElem?_setIfInBounds, bC, bS, bP, bC.symm, bS.symm, bP.symm, defaultValue] using this, fun _ _ => rfl⟩
  obtain ⟨tm, methC, cdC, kC, vm₁, hnC, -, -, -, -, -, -, -, hW₁, st1⟩ := Steps.initColdS (tb := p.tables) (e := e) (below := below) (s := s) (U := W) X.here hexec X.warmed hpl hown (t := Bundle.initS cls) rfl rfl (Bundle.fit_spec hcls).2
    (a' (.methodLink own ic (Bundle.initS cls)) (by simp [Bundle.ownAtomsX])) (h (.instanceMethod (Bundle.initS cls)) (by cases names <;> simp [Bundle.ownAtomsX, Bundle.chainSAtomsX, Bundle.passSAtoms])) (bytes := rx) (maxL := 2) (h (.code (Bundle.initS cls) rx 2 none) (by cases names <;> simp [Bundle.ownAtomsX, Bundle.chainSAtomsX, Bundle.passSAtoms]))
    (f := g) hg (a := a) (msg := msg) (rest := .ref a :: rest) hstack hd6
  cases Option.some.inj (hnC.symm.trans hP1m)
  have X₁ := X.noted hW₁
  obtain ⟨vm₂, X₂, st2⟩ := X₁.ctorMessageOffV hexec (g := { g with stack := .ref a :: rest }) hg hsize T L Z LZ M LM (P1 :: Ps)
    (fun P hP => by rcases List.mem_cons.mp hP with rfl | hP; exact L1; exact hL P hP) ⟨hlink1, hlink⟩ (u0 := u0) (sen := sen) (self := a) hmsg (cell := freshCell P1.m.cls kX) (cellS := cellS)
    hcell (fun _ => by simp) (by simp) rfl rfl hsel0 hselF hcellS hneS hknownS (by rw [hkeep _ (hout' _)]; exact hu0) (by rw [hkeep _ (hout' _)]; exact hsen)
    (Takes.of_laid hk hord tyC (by rw [Y.causeType]; rfl)) (Takes.of_laid hk hord tyS (by rw [Y.stackType]; exact fits_refV_array _ u0)) (Takes.of_laid hk hord tyP (by rw [Y.suppType]; exact fits_refV_object _ sen))
    (Takes.of_laid hk hord tyM (by rw [Y.msgType]; exact fits_refV_object _ ⟨msg, hmsg⟩)) Y.objLocals hskip htr [] hd6
    (by simp only [List.length_cons, hlen]; omega) (by simp only [List.length_cons, hlen]; exact hRlocals)
  obtain ⟨hwalk, hrun, hended, hWU, hsame⟩ := X₂.athrowLeaves hexec (g := { g with stack := .ref a :: rest, pc := g.pc + 3 }) hg hlocked hentered hout (a := a) (rest := rest) rfl hd9 hlocks
  have hlt : a < ((W.setVm vm₁).setVm vm₂).heap.size := (Array.getElem?_eq_some_iff.mp hcell).1
  have hU := heapAt_setCell_self (s := (W.setVm vm₁).setVm vm₂) (plainBareV T.toThrowableT (freshCell P1.m.cls kX) a u0 sen msg) hlt
  refine ⟨_, st1 _ (fun acts => ?_), hrun, hended, hWU, hsame.weaken (fun y hy hlt' => ?_) (Nat.le_refl _) (Nat.le_refl _), _, hU, rfl, rfl, rfl⟩
  · rw [doInvoke_state]
    exact st2 _ hwalk
  · rcases List.mem_append.mp hy with h1 | h1
    · exact h1
    · exfalso
      have hb : y.base = a := by
        simp only [List.mem_cons, List.not_mem_nil, or_false] at h1
        rcases h1 with rfl | rfl | rfl | rfl | rfl <;> rfl
      rw [hb] at hlt'
      exact Nat.not_lt.mpr hnew hlt'
/-- thrown: which object, of which class; what else has changed -/
def tx_T (E : String) (PX : State → State → Prop) (mc ms : Nat) (free : Addr → Prop) : Array Value → State → Outcome → State → Prop := fun _ st o t =>
  ∃ (q : Addr) (ce : Cell) (L : List Loc), o = .threw q ∧ t.heap[q]? = some ce ∧ ce.vm = .none ∧ st.vm.findClass E = some ce.cls ∧ PX st t ∧ st.WarmedH t.vm ∧ st.sameButNew ({ t with vm := st.vm } : State) L mc ms ∧ ∀ z ∈ L, free z.base
def tx_PX {S : Type} (D : va_G) (n : Nat) (ad : Nat → Nat) (wd : S → Nat → va_E) (sz : Nat) (post : S → Prop) : State → State → Prop := fun st t => (∃ x, post x ∧ va_P D cL (gw n ad (wd x)) t.heap) ∧ va_F (gA n ad sz) st t
/-- a method that throws an E, always -/
def gX (l : Launch) (y : MethodName) (b : ByteArray) (ml : Nat) (r : Option FieldType) (rm : Room) (D : va_G) (tys : List (ClassId × FieldType)) (Z : (Nat → Prop) → State → Prop) {S : Type} (n : Nat) (ad : Nat → Nat) (wd : S → Nat → va_E) (av : List Value) (x : S) (E : String) (post : S → Prop) : Prop :=
  ∀ sz : Nat, MetFree l y (headSpec (Cond.code y b ml r :: wW) rm) (va_Pc av (gPre D tys Z n ad (wd x) sz)) (fun _ _ _ _ _ => True) (tx_T E (tx_PX D n ad wd sz post) rm.cells rm.slots (gA n ad sz))
def tx_MQ (below : List Frame) (Qx : Array Value → State → Outcome → State → Prop) (a : Array Value) (s : State) : State → Prop := fun t => ∃ o, t.status = .running ∧ Ended t below o ∧ Qx a s o t
theorem gX_enter {l : Launch} {y : MethodName} {b : ByteArray} {ml : Nat} {r : Option FieldType} {rm : Room} {D : va_G} {tys : List (ClassId × FieldType)} {Z : (Nat → Prop) → State → Prop} {S : Type} {n : Nat} {ad : Nat → Nat} {wd : S → Nat → va_E} {av : List Value} {x : S} {E : String} {post : S → Prop} (hy : plainName y.cls = true) (hlen : (lg_sl av).length ≤ ml)
    (body : ∀ (p : Program) (e : Env) (s : State) (m : MethodId) (below : List Frame) (meth : Method) (c : Code) (ls : Array Slot), p.tables.exec = Jvm.exec → c.code = b → meth.sig.returnType = r → (∀ w ∈ wW, w.before av.toArray s = true) → s.vm.findClass y.cls = some m.cls → meth.locks = false → c.maxLocals = ml → lv_has ls ml (lv_args 0 av) → va_P D cL (gw n ad (wd x)) s.heap → va_K D cL tys s → Z (gA n ad s.heap.size) s → va_S (gA n ad s.heap.size) s.heap s.heap [] → (∀ z ∈ c.exceptionTable.toList, False) →
      W p l e rm s m av.toArray below meth c s.heap [] 0 0 (tx_MQ below (tx_T E (tx_PX D n ad wd s.heap.size post) rm.cells rm.slots (gA n ad s.heap.size)) av.toArray s) (F0 m 0 ls [])) : gX l y b ml r rm D tys Z n ad wd av x E post := by
  intro sz
  refine MetFree.of_bodyS (code := b) (maxLocals := ml) (ret := r) hy ?_ ?_
  · intro args s m h hn
    obtain ⟨meth, c, h1, h2, h3, h4, h5, h6, -, -⟩ := Cond.code_spec hn (atoms_spec (ws := Cond.code y b ml r :: wW) h _ List.mem_cons_self)
    exact ⟨meth, c, h1, h2, h3, h4, h5, h6⟩
  · intro p e s m args below meth c s₁ B hml hv _
    obtain ⟨rfl, rfl, hP, hK, hZ⟩ := hv
    have hts := atoms_spec (ws := Cond.code y b ml r :: wW) B.pre
    have hno : ∀ z ∈ c.exceptionTable.toList, False := fun z hz => by
      have h1 := B.noHandlers (hts _ List.mem_cons_self)
      have h2 : c.exceptionTable.toList = [] := by
        have h3 : c.exceptionTable = #[] := Array.isEmpty_iff.mp h1
        rw [h3]
      rw [h2] at hz
      cases hz
    have hh0 : s₁.heap = s.heap := by rw [B.state]; rfl
    have k := body p e s m below meth c _ B.exec B.bytes B.returns (fun w hw => hts w (List.mem_cons_of_mem _ hw)) (findClass_of_methodNamed B.named) B.notSynchronized hml (lv_entry av hlen) hP hK hZ va_S.rf hno
    rw [← lg_entry_eq] at k
    obtain ⟨t, a1, o, b1, b2, b3⟩ := k s₁ hh0 (Stand.of_body B)
    exact ⟨t, o, a1, b1, b2, b3⟩
/-- the frame with q thrown over it -/
def xW (p : Program) (l : Launch) (e : Env) (R : Room) (s : State) (m : MethodId) (args : Array Value) (below : List Frame) (meth : Method) (c : Code) (H : Heap) (locs : List Loc) (cells slots : Nat) (Q : State → Prop) (g : JFrame) (q : Addr) : Prop :=
  ∀ T : State, T.heap = H → Stand p l e R s m args below meth c T locs cells slots → ∃ t, Steps p.tables e below ((T.setTop g).pushFrame (.throwing q)) t ∧ Q t
section TX
variable {p : Program} {l : Launch} {e : Env} {R : Room} {s : State} {m : MethodId} {args : Array Value} {below : List Frame} {meth : Method} {c : Code} {H : Heap} {locs : List Loc} {cells slots : Nat} {Q : State → Prop}
variable {cc : ByteArray} {pc nL : Nat} {ls : Array Slot} {rest st0 : List Value} {D : va_G} {tys : List (ClassId × FieldType)} {Z : (Nat → Prop) → State → Prop} {n : Nat} {ad : Nat → Nat} {A : Nat → Prop} {H0 : Heap}
variable {S : Type} {wd : S → Nat → va_E} {x : S} {y : MethodName} {b : ByteArray} {ml np index : Nat} {r0 : Option FieldType} {rm : Room} {own : String} {As : List Value}
/-- it leaves this method -/
theorem tx_out {E : String} {post : S → Prop} {mc ms : Nat} {q : Addr} {ce : Cell} (hno : ∀ z ∈ c.exceptionTable.toList, False) (hlocks : meth.locks = false) (hP : va_P D cL (gw n ad (wd x)) H) (hS : va_S (gA n ad s.heap.size) s.heap H locs) (hp : post x) (hcell : H[q]? = some ce) (hv : ce.vm = .none) (hcl : s.vm.findClass E = some ce.cls) (hc : cells ≤ mc) (hs : slots ≤ ms) :
    xW p l e R s m args below meth c H locs cells slots (tx_MQ below (tx_T E (tx_PX D n ad wd s.heap.size post) mc ms (gA n ad s.heap.size)) args s) (F0 m pc ls rest) q := by
  intro T hT X
  obtain ⟨st1, hrun, hend, hW, hsm⟩ := X.leaveThrown q (g := F0 m pc ls rest) rfl rfl rfl (fun z hz => (hno z hz).elim) hlocks
  have hh : (T.setFrames (.throwing q :: below)).heap = H := hT
  exact ⟨_, st1, .threw q, hrun, hend, q, ce, locs, rfl, by rw [hh]; exact hcell, hv, hcl, ⟨⟨x, hp, by rw [hh]; exact hP⟩, hS.F hh⟩, hW, hsm.mono hc hs, hS.2.2⟩
/-- invokevirtual of a method that throws -/
theorem tx_call {E : String} {post : S → Prop} (hx : p.tables.exec = Jvm.exec) (hb : c.code = cc) (hml : c.maxLocals = nL) (hown : s.vm.findClass own = some m.cls) (htw : ∀ w ∈ wW, w.before args s = true) (hK : va_K D cL tys s) (hP : va_P D cL (gw n ad (wd x)) H) (hS : va_S A H0 H locs) (k0 : Nat) (hM : gX l y b ml r0 rm D tys Z n ad wd (.ref (ad k0) :: As) x E post)
    (hz : gZ Z) (hZ : ∀ U : State, U.heap = H → s.WarmedH U.vm → Z (gA n ad H.size) U) (hA : ∀ q, gA n ad H.size q → A q) (h0 : k0 < n) {ci : Nat} {fs : List Value} {T0 : u_T} {N : Nat} (he : wd x k0 = .inr (ci, fs)) (hc : cL[ci]? = some (y.cls, T0, N))
    (hlk : Cond.methodLink own index y ∈ wW) (hin : Cond.instanceMethod y ∈ wW) (hse : Cond.selects y.cls y y ∈ wW) (hini : Cond.initialized y.cls ∈ wW) (hcd : Cond.code y b ml r0 ∈ wW) (hmp : mP y np) (hR : rm.frames + 1 ≤ R.frames ∧ 8 + (ml + 11) + rm.locals ≤ R.locals) (hn : As.length = np) (hsz : ls.size = nL) (hst : st0 = As.reverse ++ .ref (ad k0) :: rest) (hW : (rest.map fun v => v.category).sum ≤ 8) (hdg : decode cc pc = .ok (.invokevirtual index, 3)) (hf : cells + rm.cells ≤ R.cells ∧ slots + rm.slots ≤ R.slots)
    (kx : ∀ (q : Addr) (ce : Cell) (x1 : S) (H1 : Heap) (locs1 : List Loc), post x1 → va_P D cL (gw n ad (wd x1)) H1 → H.size ≤ H1.size → (∀ z : Nat, z < H.size → ¬ gA n ad H.size z → H1[z]? = H[z]?) → va_S A H0 H1 locs1 → H1[q]? = some ce → ce.vm = .none → s.vm.findClass E = some ce.cls → xW p l e R s m args below meth c H1 locs1 (cells + rm.cells) (slots + rm.slots) Q (F0 m pc ls rest) q) :
    W p l e R s m args below meth c H locs cells slots Q (F0 m pc ls st0) := by
  intro T hT X
  subst hst
  obtain ⟨cellB, hcellB, hobB, hclB⟩ := va_recv hK hP hc (gw_at' h0 he)
  obtain ⟨mk, methM, hnamed, hmethM, hstM, habM⟩ := Cond.instanceMethod_spec (htw _ hin)
  obtain ⟨methM', cM, hmethM', hcM, -, hlM, -, -, -, hsigM⟩ := Cond.code_spec hnamed (htw _ hcd)
  cases hmethM.symm.trans hmethM'
  obtain ⟨c2, r2, m2, q1, q2, q3, q4, kP, hkP, hkPi⟩ := Cond.selects_spec (htw _ hse)
  cases hclB.symm.trans q1
  cases (State.methodFound?_of_named hnamed ⟨hmp.1, hmp.2.1⟩).symm.trans q2
  cases hnamed.symm.trans q3
  have hselP : selectMethod e.platform s.vm cellB.cls mk = .method mk := by rw [Launch.admits_selectMethod X.admits]; exact q4
  have hnp : As.length = methM.sig.parameters.length := by
    have h2 := hmp.2.2
    rw [hsigM] at h2
    exact hn.trans (Option.some.inj h2).symm
  obtain ⟨vm₁, X₁, hstep₁⟩ := X.invokevirtual hx hown (htw _ hlk) hnamed hmethM hstM hkP hkPi ⟨hmp.1, hmp.2.1⟩ (a := ad k0) (cell := cellB) (by rw [hT]; exact hcellB)
    (fun z h => by rw [h] at hobB; cases hobB) hselP hmethM habM hkP hkPi (g := F0 m pc ls (As.reverse ++ .ref (ad k0) :: rest)) rfl (argsL := As) (rest := rest) hnp rfl (by rw [hb]; exact hdg)
  have hU : (T.setVm vm₁).heap = H := hT
  have hn1 : (T.setVm vm₁).methodNamed? y = some mk := X₁.named hnamed
  have hws : ∀ w ∈ (Cond.code y b ml r0 :: wW), w.before (Value.ref (ad k0) :: As).toArray (T.setVm vm₁) = true := fun w hw => word_at X₁.warmed (wW_G hcd w hw).2 (htw _ (wW_G hcd w hw).1)
  obtain ⟨kY, hkY, -⟩ := className_of_methodNamed hn1
  have hinitY : kY.init = .initialized := Cond.initialized_spec (findClass_of_methodNamed hn1) hkY (word_at (a' := (Value.ref (ad k0) :: As).toArray) X₁.warmed (good_of_word (wW_good hini)) (htw _ hini))
  obtain ⟨methY, cY, hmY, hcY, -, hlY, -, -, -, -⟩ := Cond.code_spec hn1 (hws _ List.mem_cons_self)
  have hA1 : At (T.setVm vm₁) m c below := X₁.here
  have hdg' : decode c.code (F0 m pc ls rest).pc = .ok (.invokevirtual index, 3) := by rw [hb]; exact hdg
  have happ : (headSpec (Cond.code y b ml r0 :: wW) rm).appliesLoose y e.platform ((T.setVm vm₁).calling (F0 m pc ls rest) mk (Value.ref (ad k0) :: As).toArray) = true :=
    Spec.appliesLoose_calling (g := F0 m pc ls rest) hA1 hdg' hn1 hkY hinitY
      (X₁.room_calling (g := F0 m pc ls rest) (R' := rm) (hsz.trans hml.symm) hmY hcY hR.1 (by rw [hlY]; have := hR.2; show 2 * 0 + (rest.map fun v => v.category).sum + (ml + 11) + rm.locals ≤ R.locals; omega) hf.1 hf.2) (atoms_intro hws)
  obtain ⟨mid, hmid⟩ := hA1.above
  have hfr : ((T.setVm vm₁).setTop (F0 m pc ls rest)).frames = (.java (F0 m pc ls rest) :: mid) ++ below := by rw [State.frames_setTop' (F0 m pc ls rest) hA1.top, hmid]; rfl
  have hPc : va_Pc (.ref (ad k0) :: As) (gPre D tys Z n ad (wd x) H.size) (Value.ref (ad k0) :: As).toArray ((T.setVm vm₁).calling (F0 m pc ls rest) mk (Value.ref (ad k0) :: As).toArray) :=
    gc_blind hz _ _ _ _ (gc_at hP hK hZ (T.setVm vm₁) hU X₁.warmed)
  obtain ⟨o, s₂, hsteps, -, hend, hq⟩ := Steps.callFree (hM H.size) p X₁.admits X₁.cas X₁.clock (acts := []) hfr happ hPc trivial
  rw [State.frames_setTop' (F0 m pc ls rest) hA1.top, X₁.tail] at hend
  obtain ⟨q, ce, L, rfl, hce, hcv, hcl, ⟨⟨x1, hp1, hP1⟩, hF⟩, hW2, hsm, hL⟩ := hq
  obtain ⟨T', X', -, -, hs₂⟩ := X₁.outOfThrown (g := F0 m pc ls rest) rfl (mk := mk) (a := (Value.ref (ad k0) :: As).toArray) hend hW2 hsm
  have hT' : T'.heap = s₂.heap := by rw [hs₂]; exact (throwing_heap T' (F0 m pc ls rest) q).symm
  have hst0 : ((T.setVm vm₁).calling (F0 m pc ls rest) mk (Value.ref (ad k0) :: As).toArray).heap = H := hT
  obtain ⟨hz1, hk1⟩ := hF
  have hsize : (State.pushFrame ((T.setVm vm₁).setTop (F0 m pc ls rest)) (.invoking mk (Value.ref (ad k0) :: As).toArray)).heap = H := hT
  rw [hsize] at hz1 hk1
  have hS' : va_S A H0 T'.heap (locs ++ L) := by
    refine ⟨?_, fun z h1 h2 => ?_, fun z hz => ?_⟩
    · rw [hT']; exact Nat.le_trans hS.1 hz1
    · rw [hT', hk1 z (Nat.lt_of_lt_of_le h1 hS.1) (fun q => h2 (hA z q))]
      exact hS.2.1 z h1 h2
    · rcases List.mem_append.mp hz with h | h
      · exact hS.2.2 z h
      · exact hA _ (hL z h)
  have hclE : s.vm.findClass E = some ce.cls := by
    have h1 : (T.setVm vm₁).vm.findClass E = some ce.cls := hcl
    rw [X₁.warmed.alike.findClass] at h1
    exact h1
  obtain ⟨t, a1, b1⟩ := kx q ce x1 T'.heap (locs ++ L) hp1 (by rw [hT']; exact hP1) (by rw [hT']; exact hz1) (fun z h1 h2 => by rw [hT']; exact hk1 z h1 h2) hS' (by rw [hT']; exact hce) hcv hclE T' rfl X'
  refine ⟨t, hstep₁ _ (fun acts => ?_), b1⟩
  rw [doInvoke_state]
  rw [hs₂] at hsteps
  exact hsteps.trans a1
end TX
