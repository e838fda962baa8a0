/-! the law's helpers: methods with handlers; catching; TorusGates' world and the array for answers. My own rows. -/
def tX_wC : List Cond := [.castable tX_N tX_N, .castable tX_S tX_S, .castable tX_A tX_A]
def tX_wD : List (String × String) := [(tX_N, tX_S), (tX_N, tX_A), (tX_S, tX_N), (tX_S, tX_A), (tX_A, tX_N), (tX_A, tX_S)]
theorem tX_rC : tX_wC.all Cond.ridesK = true := by decide +kernel
theorem tx_notc {s U : State} (hal : s.vm.Alike U.vm) {a b : String} {A A' : Array Value} (h : (Cond.not (.castable a b)).before A s = true) : (Cond.not (.castable a b)).before A' U = true := by
  have hv := Cond.holds_not_iff.mp h
  refine Cond.holds_not_iff.mpr ?_
  simp only [Cond.value, hal.findClass, hal.assignable] at hv ⊢
  exact hv
def tOC (s0 : State) : Prop := (∀ w ∈ tX_wC, w.before #[] s0 = true) ∧ ∀ q ∈ tX_wD, (Cond.not (.castable q.1 q.2)).before #[] s0 = true
theorem tO_C {s0 U : State} {A : Nat → Prop} {a : Array Value} (h : tOC s0) (hZ : tZ s0 A U) (k : Nat) {w : Cond} (hk : tX_wC[k]? = some w) : w.before a U = true := rideK_all hZ.1 (tZ_st hZ) tX_rC h.1 w (List.mem_of_getElem? hk)
theorem tO_D {s0 U : State} {A : Nat → Prop} {a : Array Value} (h : tOC s0) (hZ : tZ s0 A U) (k : Nat) {q : String × String} (hk : tX_wD[k]? = some q) : (Cond.not (.castable q.1 q.2)).before a U = true := tx_notc hZ.1.alike (h.2 q (List.mem_of_getElem? hk))
theorem tZ_in {s0 s : State} {A A' : Nat → Prop} {H : Heap} {locs : List Loc} (h : tZ s0 A s) (hS : va_S A s.heap H locs) (hA : ∀ q, A' q → A q) : ∀ U : State, U.heap = H → s.WarmedH U.vm → tZ s0 A' U :=
  fun U hU hW => tZ_ok s0 _ _ _ _ h hW (fun q h1 h2 => by rw [hU]; exact hS.2.1 q h1 h2) hA
def gH (l : Launch) (y : MethodName) (b : ByteArray) (ml : Nat) (hh : List (Nat × Nat × Nat × Nat)) (rm : Room) (D : va_G) (tys : List (ClassId × FieldType)) (Z : (Nat → Prop) → State → Prop) {S : Type} (n : Nat) (ad : Nat → Nat) (wd : S → Nat → va_E) (av : List Value) (x : S) (post : Int32 → S → Prop) : Prop :=
  ∀ sz : Nat, Met l y (Cond.codeWith y b ml (some .int) hh :: wW) rm (va_Pc av (gPre D tys Z n ad (wd x) sz)) (va_Qi post (gB D n ad wd) (gA n ad sz)) rm.cells rm.slots (gA n ad sz)
theorem gH_enter {l : Launch} {y : MethodName} {b : ByteArray} {ml : Nat} {hh : List (Nat × Nat × Nat × Nat)} {rm : Room} {D : va_G} {tys : List (ClassId × FieldType)} {Z : (Nat → Prop) → State → Prop} {S : Type} {n : Nat} {ad : Nat → Nat} {wd : S → Nat → va_E} {av : List Value} {x : S} {post : Int32 → S → Prop} (hy : plainName y.cls = true) (hlen : (lg_sl av).length ≤ ml)
    (body : ∀ (p : Program) (e : Env) (s : State) (m : MethodId) (below : List Frame) (meth : Method) (c : Code) (ls : Array Slot), p.tables.exec = Jvm.exec → c.code = b → meth.sig.returnType = some .int → (∀ w ∈ wW, w.before av.toArray s = true) → s.vm.findClass y.cls = some m.cls → meth.locks = false → c.maxLocals = ml → lv_has ls ml (lv_args 0 av) → va_P D cL (gw n ad (wd x)) s.heap → va_K D cL tys s → Z (gA n ad s.heap.size) s → va_S (gA n ad s.heap.size) s.heap s.heap [] → c.exceptionTable.toList.map (fun h => (h.startPc, h.endPc, h.handlerPc, h.catchType)) = hh →
      W p l e rm s m av.toArray below meth c s.heap [] 0 0 (MQ below (va_Qi post (gB D n ad wd) (gA n ad s.heap.size)) av.toArray s rm.cells rm.slots (gA n ad s.heap.size)) (F0 m 0 ls [])) : gH l y b ml hh rm D tys Z n ad wd av x post := by
  intro sz
  refine va_MetW (hh := hh) (cc := b) (maxL := ml) (ret := some .int) (ws' := wW) hy rfl ?_
  intro p e s m args below meth c s₁ X hml hv
  obtain ⟨rfl, rfl, hP, hK, hZ⟩ := hv
  have hts := atoms_spec (ws := Cond.codeWith y b ml (some .int) hh :: wW) X.pre
  obtain ⟨m9, meth9, c9, hn9, h1, h2, -, -, h3, -⟩ := Cond.codeWith_spec (hts _ List.mem_cons_self)
  cases X.named.symm.trans hn9
  have hmm : meth9 = meth := Option.some.inj (h1.symm.trans X.method)
  subst hmm
  have hcc : c9 = c := Option.some.inj (h2.symm.trans (Stand.of_body X).code)
  subst hcc
  rw [lg_entry_eq]
  exact body p e s m below meth9 c9 _ X.exec X.bytes X.returns (fun w hw => hts w (List.mem_cons_of_mem _ hw)) (findClass_of_methodNamed X.named) X.notSynchronized hml (lv_entry av hlen) hP hK hZ va_S.rf h3
section LAC
variable {p : Program} {l : Launch} {e : Env} {R : Room} {s : State} {m : MethodId} {args : Array Value} {below : List Frame} {meth : Method} {c : Code} {H : Heap} {locs : List Loc} {cells slots : Nat} {Q : State → Prop}
variable {cc : ByteArray} {pc : Nat} {ls : Array Slot} {rest : List Value} {own : String}
/-- a throw is caught by the row t, behind rows that are passed -/
theorem tx_catch {E : String} {q : Addr} {ce : Cell} {hh1 hh2 : List (Nat × Nat × Nat × Nat)} {t : Nat × Nat × Nat × Nat} (htab : c.exceptionTable.toList.map (fun h => (h.startPc, h.endPc, h.handlerPc, h.catchType)) = hh1 ++ t :: hh2) (hown : s.vm.findClass own = some m.cls) (hcell : H[q]? = some ce) (hv : ce.vm = .none) (hcl : s.vm.findClass E = some ce.cls)
    (hpass : ∀ u ∈ hh1, u.2.2.2 ≠ 0 ∧ ∃ name, (Cond.classLink own u.2.2.2 name).before args s = true ∧ (Cond.not (.castable E name)).before args s = true) (hcov : t.1 ≤ pc ∧ pc < t.2.1) (h0 : t.2.2.2 ≠ 0) (hlink : (Cond.classLink own t.2.2.2 E).before args s = true) (hcast : (Cond.castable E E).before args s = true)
    (kk : W p l e R s m args below meth c H locs cells slots Q (F0 m t.2.2.1 ls [.ref q])) : xW p l e R s m args below meth c H locs cells slots Q (F0 m pc ls rest) q := by
  intro T hT X
  have hpl : e.platform.magicAccessors = ({} : Platform).magicAccessors := by rw [X.admits.platform]
  obtain ⟨l1, l2, e1, e2, e3⟩ := List.map_eq_append_iff.mp htab
  obtain ⟨y, l3, e4, e5, e6⟩ := List.map_eq_cons_iff.mp e3
  subst e4
  subst e5
  obtain ⟨c3, t3, w1, w2, w3⟩ := Cond.castable_spec hcast
  cases hcl.symm.trans w1
  cases hcl.symm.trans w2
  obtain ⟨hend, hk0⟩ := X.catches_of_link (x := y) hown h0 hlink hcl w3
  obtain ⟨vm', X', st⟩ := X.caughtThrough q (g := F0 m pc ls rest) rfl (by rw [hT]; exact hcell) (by rw [hv]; rfl) hk0 l1 y l3 e1 (fun u hu => by
    obtain ⟨z1, name, z2, z3⟩ := hpass (u.startPc, u.endPc, u.handlerPc, u.catchType) (by rw [← e2]; exact List.mem_map.mpr ⟨u, hu, rfl⟩)
    exact RowPassed.of_words hpl hown z1 z2 hcl z3) (by simp [covers]; exact hcov) hend
  obtain ⟨t', a1, b1⟩ := kk (T.setVm vm') hT X'
  refine ⟨t', ?_, b1⟩
  rw [X.pushThrowing_eq]
  exact st _ a1
end LAC
/-- TorusGates' world and, at the place 424, the array for answers -/
abbrev lS : Type := tS × Int64
def lD (ct : Nat → ClassId) (ad : Nat → Nat) (x : lS) (k : Nat) : va_E := if k = 424 then .inl (ct 4, 1, .inr (.inl (fun _ => x.2))) else tD ct ad x.1 k
theorem l_sub {D : va_G} {ct : Nat → ClassId} {ad : Nat → Nat} {x : lS} {H : Heap} (h : va_P D cL (gw 425 ad (lD ct ad x)) H) : va_P D cL (gw 424 ad (tD ct ad x.1)) H := by
  have h1 := gw_sub (m := 424) h (by decide)
  rw [gw_congr (ad := ad) (ad' := ad) (e := lD ct ad x) (e' := tD ct ad x.1) (fun k hk => ⟨rfl, if_neg (by omega)⟩)] at h1
  exact h1
theorem l_join {D : va_G} {ct : Nat → ClassId} {ad : Nat → Nat} {x : lS} {x1 : tS} {H H1 : Heap} (hI : gw_inj 425 ad) (h : va_P D cL (gw 425 ad (lD ct ad x)) H) (h1 : va_P D cL (gw 424 ad (tD ct ad x1)) H1) (hk : ∀ q : Nat, q < H.size → ¬ gA 424 ad H.size q → H1[q]? = H[q]?) : va_P D cL (gw 425 ad (lD ct ad (x1, x.2))) H1 := by
  intro k q hq
  obtain ⟨hk1, rfl⟩ := gw_inv hq
  by_cases hk4 : k = 424
  · subst hk4
    have h2 := h 424 _ (gw_at (by decide))
    have h3 := gw_lt h (k := 424) (by decide)
    exact h2.kept (hk _ h3 (fun z => by
      rcases z with ⟨j, hj, e⟩ | z
      · have := hI 424 j (by decide) (by omega) e
        omega
      · omega))
  · have h2 := h1 k _ (gw_at (by omega))
    rw [show lD ct ad (x1, x.2) k = tD ct ad x1 k from if_neg hk4]
    exact h2
theorem l_gA {ad : Nat → Nat} {sz sz' : Nat} (h : sz ≤ sz') : ∀ q, gA 424 ad sz' q → gA 425 ad sz q := fun q hq => by
  rcases hq with ⟨k, hk, e⟩ | z
  · exact Or.inl ⟨k, by omega, e⟩
  · exact Or.inr (by omega)
theorem l_inj {ad : Nat → Nat} (h : gw_inj 425 ad) : gw_inj 424 ad := fun i j hi hj e => h i j (by omega) (by omega) e
section LLR
variable {p : Program} {l : Launch} {e : Env} {R : Room} {s : State} {m : MethodId} {args : Array Value} {below : List Frame} {meth : Method} {c : Code} {H : Heap} {locs : List Loc} {cells slots : Nat} {Q : State → Prop}
variable {cc : ByteArray} {pc : Nat} {ls : Array Slot} {rest : List Value} {D : va_G} {ct : Nat → ClassId} {ad : Nat → Nat} {x : lS} {A : Nat → Prop} {H0 : Heap}
theorem l_last (hx : p.tables.exec = Jvm.exec) (hb : c.code = cc) (hK : va_K D cL (tT ct) s) (hI : gw_inj 425 ad) (hA : ∀ k, k < 425 → A (ad k)) (hP : va_P D cL (gw 425 ad (lD ct ad x)) H) (hS : va_S A H0 H locs) {v : Int64} (hdg : decode cc pc = .ok (.lastore, 1))
    (kk : ∀ (H1 : Heap) (locs1 : List Loc), va_P D cL (gw 425 ad (lD ct ad (x.1, v))) H1 → va_S A H0 H1 locs1 → W p l e R s m args below meth c H1 locs1 cells slots Q (F0 m (pc + 1) ls rest)) : W p l e R s m args below meth c H locs cells slots Q (F0 m pc ls (.long v :: .int (nI 0) :: .ref (ad 424) :: rest)) := by
  refine gw_last (f := fun _ => x.2) hx hb hK hI hA hP hS 424 4 (by decide) (if_pos rfl) rfl 0 rfl (by decide) (by decide) hdg (fun H1 locs1 h1 h2 => kk H1 locs1 ?_ h2)
  intro k q hq
  obtain ⟨hk1, rfl⟩ := gw_inv hq
  have h3 := h1 k _ (gw_at hk1)
  by_cases hk : k = 424
  · subst hk
    rw [va_up_self] at h3
    rw [show lD ct ad (x.1, v) 424 = .inl (ct 4, 1, .inr (.inl (fun _ => v))) from if_pos rfl]
    have h4 : H1[ad 424]? = some (vp_cell (ct 4) (1, .inr (.inl (vp_updL (fun _ => x.2) 0 v)))) := h3
    show H1[ad 424]? = some (vp_cell (ct 4) (1, .inr (.inl (fun _ => v))))
    rw [h4]
    congr 1
  · rw [va_up_ne _ _ hk] at h3
    rw [show lD ct ad (x.1, v) k = tD ct ad x.1 k from if_neg hk]
    rw [show lD ct ad x k = tD ct ad x.1 k from if_neg hk] at h3
    exact h3
end LLR
