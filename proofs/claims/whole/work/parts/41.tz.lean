/-! what was there when the law began lies as it was: words, tables and strings of that hour hold on. The throw itself. My own rows. -/
def tZ (s0 : State) : (Nat → Prop) → State → Prop := fun A U => s0.WarmedH U.vm ∧ ∀ a : Nat, a < s0.heap.size → ¬ A a ∧ U.heap[a]? = s0.heap[a]?
theorem tZ_ok (s0 : State) : gZ (tZ s0) := by
  intro A A' U U' h hW hh hA
  refine ⟨State.WarmedH.trans h.1 hW, fun a ha => ?_⟩
  obtain ⟨h1, h2⟩ := h.2 a ha
  have h3 : s0.heap[a]? = some s0.heap[a] := Array.getElem?_eq_getElem ha
  have h4 : a < U.heap.size := by
    rw [h3] at h2
    exact (Array.getElem?_eq_some_iff.mp h2).1
  refine ⟨fun q => h1 (hA a q), ?_⟩
  rw [hh a h4 h1]
  exact h2
theorem tZ_at {s0 s : State} {n : Nat} {ad : Nat → Nat} {H : Heap} {locs : List Loc} (h : tZ s0 (gA n ad s.heap.size) s) (hS : va_S (gA n ad s.heap.size) s.heap H locs) : ∀ U : State, U.heap = H → s.WarmedH U.vm → tZ s0 (gA n ad H.size) U :=
  fun U hU hW => tZ_ok s0 _ _ _ _ h hW (fun q h1 h2 => by rw [hU]; exact hS.2.1 q h1 h2) (gA_mono hS.1)
def tB (s0 : State) : Nat → Prop := fun a => s0.heap.size ≤ a
theorem tZ_sub {s0 : State} {A : Nat → Prop} {U : State} (h : tZ s0 A U) : ∀ q, A q → tB s0 q := fun q hq => Nat.le_of_not_lt (fun z => (h.2 q z).1 hq)
theorem tZ_heap {s0 : State} {A : Nat → Prop} {U : State} (h : tZ s0 A U) : ∀ a : Nat, a < s0.heap.size → ¬ tB s0 a → U.heap[a]? = s0.heap[a]? := fun a ha _ => (h.2 a ha).2
theorem tZ_Z {s0 : State} {A : Nat → Prop} {U : State} {C n d : String} {v : Value} (h : tZ s0 A U) (hz : va_Z C n d v (tB s0) s0 s0.heap) : va_Z C n d v A U U.heap := ((hz.kept (tZ_heap h)).moved h.1.alike).narrow (tZ_sub h)
theorem tZ_T {s0 : State} {A : Nat → Prop} {U : State} {ty : FieldType} {t N : Nat} {f : Nat → Value} (h : tZ s0 A U) (hz : va_T ty t N f (tB s0) s0 s0.heap) : va_T ty t N f A U U.heap := ((hz.kept (tZ_heap h)).moved h.1.alike).narrow (tZ_sub h)
theorem tZ_st {s0 : State} {A : Nat → Prop} {U : State} (h : tZ s0 A U) : StaticsKept s0 U := fun y cy hy _ => by
  rw [(h.2 y (Array.getElem?_eq_some_iff.mp hy).1).2]
  exact hy
def tX_N : String := "java/util/NoSuchElementException"
def tX_S : String := "java/lang/IllegalStateException"
def tX_A : String := "java/lang/IllegalArgumentException"
def tX_up : List String := ["java/lang/RuntimeException", "java/lang/Exception"]
def tX_wN : List Cond := Bundle.ownAtomsX cN_TG 174 tX_N 13 prog_20_method_4_code tX_up ++ [.classLink cN_TG 170 tX_N, .initialized tX_N]
def tX_wS : List Cond := Bundle.ownAtomsX cN_TG 148 tX_S 7 prog_15_method_2_code tX_up ++ [.classLink cN_TG 144 tX_S, .initialized tX_S]
def tX_wA : List Cond := Bundle.ownAtomsX cN_TG 213 tX_A 7 prog_14_method_2_code tX_up ++ [.classLink cN_TG 209 tX_A, .initialized tX_A]
theorem tX_rN : tX_wN.all Cond.ridesK = true := by decide +kernel
theorem tX_rS : tX_wS.all Cond.ridesK = true := by decide +kernel
theorem tX_rA : tX_wA.all Cond.ridesK = true := by decide +kernel
theorem gw_ns {D : va_G} {cl : List vw_C} {n k : Nat} {ad : Nat → Nat} {E : Nat → va_E} {H : Heap} {cell : Cell} (hP : va_P D cl (gw n ad E) H) (hk : k < n) (hc : H[ad k]? = some cell) : cell.vm.isStatics = false := by
  have h := hP k _ (gw_at hk)
  unfold va_at at h
  generalize E k = z at h
  cases z with
  | inl a =>
    have h1 : H[ad k]? = some (vp_cell a.1 a.2) := h
    cases Option.some.inj (hc.symm.trans h1)
    obtain ⟨c0, n0, f0⟩ := a
    rcases f0 with f0 | f0 | f0 | f0 | f0 <;> rfl
  | inr o =>
    obtain ⟨r, -, cl1, h2, -, h3, -⟩ := h
    cases Option.some.inj (hc.symm.trans h2)
    rw [h3]
    rfl
section TXN
variable {p : Program} {l : Launch} {e : Env} {R : Room} {s : State} {m : MethodId} {args : Array Value} {below : List Frame} {meth : Method} {c : Code} {H : Heap} {locs : List Loc} {cells slots : Nat}
variable {cc : ByteArray} {pc : Nat} {ls : Array Slot} {D : va_G} {n : Nat} {ad : Nat → Nat} {S : Type} {wd : S → Nat → va_E} {x x0 : S} {own : String}
/-- new E(text); throw -/
theorem tx_throw {E : String} {post : S → Prop} {ik ic ix idx : Nat} {rx : ByteArray} {tx : String} {sa mc ms : Nat} (hx : p.tables.exec = Jvm.exec) (hb : c.code = cc) (hml : ls.size = c.maxLocals) (hown : s.vm.findClass own = some m.cls) (hl : l.stackTraces = false) (hno : ∀ z ∈ c.exceptionTable.toList, False) (hlocks : meth.locks = false)
    (y0 : decode rx 0 = .ok (.aload_n 0, 1)) (y1 : decode rx 1 = .ok (.aload_n 1, 1)) (y2 : decode rx 2 = .ok (.invokespecial ix, 3)) (y5 : decode rx 5 = .ok (.return_, 1)) (hE : Bundle.fit E = true)
    (hw : ∀ w ∈ Bundle.ownAtomsX own ic E ix rx tX_up ++ [.classLink own ik E, .initialized E], w.before args s = true) (hv : vk_R own idx tx sa s)
    (hP0 : va_P D cL (gw n ad (wd x0)) s.heap) (hP : va_P D cL (gw n ad (wd x)) H) (hS : va_S (gA n ad s.heap.size) s.heap H locs) (hp : post x) (hcm : cells + 1 ≤ mc) (hsm : slots + 6 ≤ ms) (hcR : cells + 1 ≤ R.cells) (hsR : slots + 6 ≤ R.slots) (hF : 5 < R.frames) (hL : 82 ≤ R.locals)
    (d0 : decode cc pc = .ok (.new ik, 3)) (d1 : decode cc (pc + 3) = .ok (.dup, 1)) (d2 : decode cc (pc + 4) = .ok (.ldc idx, 2)) (d3 : decode cc (pc + 6) = .ok (.invokespecial ic, 3)) (d4 : decode cc (pc + 9) = .ok (.athrow, 1)) :
    W p l e R s m args below meth c H locs cells slots (tx_MQ below (tx_T E (tx_PX D n ad wd s.heap.size post) mc ms (gA n ad s.heap.size)) args s) (F0 m pc ls []) := by
  intro T hT X
  have htr : e.platform.stackTraces = false := by rw [X.admits.platform]; exact hl
  have hw1 : ∀ a ∈ Bundle.ownAtomsX own ic E ix rx tX_up, a.before args s = true := fun a ha => hw a (List.mem_append_left _ ha)
  obtain ⟨vm1, cC, kC, hfc, hk, -, -, X1, st1⟩ := X.newCold hx (own := own) (C := E) (index := ik) (n := 6) hown (hw _ (List.mem_append_right _ List.mem_cons_self)) (hw1 _ (by simp [Bundle.ownAtomsX])) (hw _ (List.mem_append_right _ (List.mem_cons_of_mem _ List.mem_cons_self)))
    (g := F0 m pc ls []) rfl (by rw [hb]; exact d0) hcR hsR
  have hc1 : ((T.setVm vm1).pushCell { cls := cC, slots := kC.instanceTypes.map defaultValue, vm := .none }).heap[T.heap.size]? = some (freshCell cC kC) := by
    show (T.heap.push _)[T.heap.size]? = _
    simp
  have hh1 : ((T.setVm vm1).pushCell { cls := cC, slots := kC.instanceTypes.map defaultValue, vm := .none }).heap = H.push { cls := cC, slots := kC.instanceTypes.map defaultValue, vm := .none } := by
    show T.heap.push _ = _
    rw [hT]
  rw [hT] at hc1 st1
  generalize (T.setVm vm1).pushCell { cls := cC, slots := kC.instanceTypes.map defaultValue, vm := .none } = T1 at X1 st1 hc1 hh1
  have hlocs : ∀ z ∈ locs, ∀ cell, s.heap[z.base]? = some cell → cell.vm.isStatics = false := fun z hz cell hcell => by
    rcases hS.2.2 z hz with ⟨k, hk1, hk2⟩ | h
    · rw [hk2] at hcell
      exact gw_ns hP0 hk1 hcell
    · exact absurd (Array.getElem?_eq_some_iff.mp hcell).1 (Nat.not_lt.mpr h)
  obtain ⟨U, hst, hrun, hend, hW, hsame, ce, hce, hcl, hcv, hUh⟩ := tx_ctor X1 hx htr (own := own) (cls := E) (names := tX_up) (ic := ic) y0 y1 y2 y5 hown hE (by decide +kernel) hw1 hlocs (a := H.size) hfc hk hc1 hS.1 (msg := .ref sa) rfl
    (g := F0 m (pc + 6) ls [.ref sa, .ref H.size, .ref H.size]) rfl hml rfl rfl (rest := []) rfl (by rw [hb]; exact d3) (by rw [hb]; exact d4) (fun z hz => (hno z hz).elim) (by exact hF) (by exact hL) hlocks
  have hkeep : ∀ q : Nat, q < H.size → U.heap[q]? = H[q]? := fun q hq => by
    rw [hUh, hh1, Array.getElem?_setIfInBounds_ne (by omega), Array.getElem?_push_lt hq, Array.getElem?_eq_getElem hq]
  have hsz : U.heap.size = H.size + 1 := by rw [hUh, hh1, Array.size_setIfInBounds, Array.size_push]
  refine ⟨U, st1 _ ?_, .threw H.size, hrun, hend, H.size, ce, locs, rfl, hce, hcv, by rw [hcl]; exact hfc, ⟨⟨x, hp, hP.kept (fun k q hq => ?_)⟩, by rw [hsz]; have := hS.1; omega, fun q h1 h2 => ?_⟩, hW, hsame.mono hcm hsm, hS.2.2⟩
  · show Steps p.tables e below (T1.setTop (F0 m (pc + 3) ls [.ref H.size])) _
    jvm_step X1.here [X1.here.top, hx, hb, d1, Value.category]
    exact X1.ldcString hx (own := own) (index := idx) (a := sa) hown hv.1 hv.2 (g := F0 m (pc + 4) ls [.ref H.size, .ref H.size]) rfl (by rw [hb]; exact d2) _ hst
  · obtain ⟨h1, rfl⟩ := gw_inv hq
    exact hkeep _ (gw_lt hP h1)
  · rw [hkeep q (Nat.lt_of_lt_of_le h1 hS.1)]
    exact hS.2.1 q h1 h2
end TXN
/-- what holds when the law begins: the words for the throws, the strings, the three tables of Works -/
def tX_str : List (Nat × String) := [(235, "there are 120 bits"), (227, "there is no such bit"), (239, "the number is out of its range"), (243, "the bound would be too great"), (237, "there is no such gate"), (245, "the bounds are too great for the gate"), (146, "the bit's bound is too great to open it"), (172, "there is no such input and no such line ahead"), (176, "there are 24 lines"), (185, "there is no such line"), (211, "there is no such count")]
def tW1 (j : Nat) : Int32 := Int32.ofInt (tp_w1 j)
def tW2 (j : Nat) : Int32 := Int32.ofInt (tp_w2 j)
def tW3 (j : Nat) : Int32 := Int32.ofInt (tp_e8 j)
def tO (s0 : State) (zt : Nat → Nat) : Prop :=
  (∀ w ∈ tX_wN, w.before #[] s0 = true) ∧ (∀ w ∈ tX_wS, w.before #[] s0 = true) ∧ (∀ w ∈ tX_wA, w.before #[] s0 = true) ∧ (∀ q ∈ tX_str, ∃ a, vk_R cN_TG q.1 q.2 a s0) ∧
  (va_Z cN_Wo "FIRST_WEIGHTS" "[I" (.ref (zt 0)) (tB s0) s0 s0.heap ∧ va_Z cN_Wo "SECOND_WEIGHTS" "[I" (.ref (zt 1)) (tB s0) s0 s0.heap ∧ va_Z cN_Wo "EIGHTHS" "[I" (.ref (zt 2)) (tB s0) s0 s0.heap) ∧
  (va_T .int (zt 0) 8 (fun j => .int (tW1 j)) (tB s0) s0 s0.heap ∧ va_T .int (zt 1) 8 (fun j => .int (tW2 j)) (tB s0) s0 s0.heap ∧ va_T .int (zt 2) 8 (fun j => .int (tW3 j)) (tB s0) s0 s0.heap)
section TZR
variable {s0 : State} {zt : Nat → Nat} {A : Nat → Prop} {U : State} {a : Array Value}
theorem tO_N (h : tO s0 zt) (hZ : tZ s0 A U) : ∀ w ∈ tX_wN, w.before a U = true := rideK_all hZ.1 (tZ_st hZ) tX_rN h.1
theorem tO_S (h : tO s0 zt) (hZ : tZ s0 A U) : ∀ w ∈ tX_wS, w.before a U = true := rideK_all hZ.1 (tZ_st hZ) tX_rS h.2.1
theorem tO_A (h : tO s0 zt) (hZ : tZ s0 A U) : ∀ w ∈ tX_wA, w.before a U = true := rideK_all hZ.1 (tZ_st hZ) tX_rA h.2.2.1
theorem tO_str (h : tO s0 zt) (hZ : tZ s0 A U) (k : Nat) {q : Nat × String} (hq : tX_str[k]? = some q) : ∃ a, vk_R cN_TG q.1 q.2 a U := by
  obtain ⟨a, ha⟩ := h.2.2.2.1 q (List.mem_of_getElem? hq)
  exact ⟨a, ha.warm hZ.1⟩
theorem tO_z0 (h : tO s0 zt) (hZ : tZ s0 A U) : va_Z cN_Wo "FIRST_WEIGHTS" "[I" (.ref (zt 0)) A U U.heap := tZ_Z hZ h.2.2.2.2.1.1
theorem tO_z1 (h : tO s0 zt) (hZ : tZ s0 A U) : va_Z cN_Wo "SECOND_WEIGHTS" "[I" (.ref (zt 1)) A U U.heap := tZ_Z hZ h.2.2.2.2.1.2.1
theorem tO_z2 (h : tO s0 zt) (hZ : tZ s0 A U) : va_Z cN_Wo "EIGHTHS" "[I" (.ref (zt 2)) A U U.heap := tZ_Z hZ h.2.2.2.2.1.2.2
theorem tO_t0 (h : tO s0 zt) (hZ : tZ s0 A U) : va_T .int (zt 0) 8 (fun j => .int (tW1 j)) A U U.heap := tZ_T hZ h.2.2.2.2.2.1
theorem tO_t1 (h : tO s0 zt) (hZ : tZ s0 A U) : va_T .int (zt 1) 8 (fun j => .int (tW2 j)) A U U.heap := tZ_T hZ h.2.2.2.2.2.2.1
theorem tO_t2 (h : tO s0 zt) (hZ : tZ s0 A U) : va_T .int (zt 2) 8 (fun j => .int (tW3 j)) A U U.heap := tZ_T hZ h.2.2.2.2.2.2.2
end TZR
section TTI
variable {p : Program} {l : Launch} {e : Env} {R : Room} {s : State} {m : MethodId} {args : Array Value} {below : List Frame} {meth : Method} {c : Code} {H : Heap} {locs : List Loc} {cells slots : Nat} {Q : State → Prop}
variable {cc : ByteArray} {pc : Nat} {ls : Array Slot} {rest : List Value} {A : Nat → Prop} {t N : Nat} {f : Nat → Int32}
theorem t_ti (hx : p.tables.exec = Jvm.exec) (hb : c.code = cc) (hT : va_T .int t N (fun j => .int (f j)) A s s.heap) (hS : va_S A s.heap H locs) {g : Nat} (hg : g < N) (hN : N < 2 ^ 31) (hdg : decode cc pc = .ok (.iaload, 1))
    (kk : W p l e R s m args below meth c H locs cells slots Q (F0 m (pc + 1) ls (.int (f g) :: rest))) : W p l e R s m args below meth c H locs cells slots Q (F0 m pc ls (.int (nI g) :: .ref t :: rest)) :=
  va_ti hx hb hT hS (vp_in_nI hg hN) (v := .int (f g)) (by show Value.int (f _) = _; rw [nI_clamp (by omega)]) hdg kk
end TTI
abbrev rX (f lo : Nat) : Room := { frames := f, cells := 1, slots := 6, locals := lo }
section TXT
variable {p : Program} {l : Launch} {e : Env} {R : Room} {s : State} {m : MethodId} {args : Array Value} {below : List Frame} {meth : Method} {c : Code} {H : Heap} {locs : List Loc} {cells slots : Nat}
variable {cc : ByteArray} {pc : Nat} {ls : Array Slot} {D : va_G} {n : Nat} {ad : Nat → Nat} {S : Type} {wd : S → Nat → va_E} {x x0 : S} {s0 : State} {zt : Nat → Nat}
theorem tx_thN {post : S → Prop} {idx : Nat} {tx : String} {sa mc ms : Nat} (hx : p.tables.exec = Jvm.exec) (hb : c.code = cc) (hml : ls.size = c.maxLocals) (hown : s.vm.findClass cN_TG = some m.cls) (hl : l.stackTraces = false) (hno : ∀ z ∈ c.exceptionTable.toList, False) (hlocks : meth.locks = false) (h0 : tO s0 zt) (hZ : tZ s0 (gA n ad s.heap.size) s) (hv : vk_R cN_TG idx tx sa s)
    (hP0 : va_P D cL (gw n ad (wd x0)) s.heap) (hP : va_P D cL (gw n ad (wd x)) H) (hS : va_S (gA n ad s.heap.size) s.heap H locs) (hp : post x) (hcm : cells + 1 ≤ mc) (hsm : slots + 6 ≤ ms) (hcR : cells + 1 ≤ R.cells) (hsR : slots + 6 ≤ R.slots) (hF : 5 < R.frames) (hL : 82 ≤ R.locals)
    (d0 : decode cc pc = .ok (.new 170, 3)) (d1 : decode cc (pc + 3) = .ok (.dup, 1)) (d2 : decode cc (pc + 4) = .ok (.ldc idx, 2)) (d3 : decode cc (pc + 6) = .ok (.invokespecial 174, 3)) (d4 : decode cc (pc + 9) = .ok (.athrow, 1)) :
    W p l e R s m args below meth c H locs cells slots (tx_MQ below (tx_T tX_N (tx_PX D n ad wd s.heap.size post) mc ms (gA n ad s.heap.size)) args s) (F0 m pc ls []) :=
  tx_throw (rx := prog_20_method_4_code) hx hb hml hown hl hno hlocks (by decide +kernel) (by decide +kernel) (by decide +kernel) (by decide +kernel) (by decide +kernel) (tO_N h0 hZ) hv hP0 hP hS hp hcm hsm hcR hsR hF hL d0 d1 d2 d3 d4
theorem tx_thS {post : S → Prop} {idx : Nat} {tx : String} {sa mc ms : Nat} (hx : p.tables.exec = Jvm.exec) (hb : c.code = cc) (hml : ls.size = c.maxLocals) (hown : s.vm.findClass cN_TG = some m.cls) (hl : l.stackTraces = false) (hno : ∀ z ∈ c.exceptionTable.toList, False) (hlocks : meth.locks = false) (h0 : tO s0 zt) (hZ : tZ s0 (gA n ad s.heap.size) s) (hv : vk_R cN_TG idx tx sa s)
    (hP0 : va_P D cL (gw n ad (wd x0)) s.heap) (hP : va_P D cL (gw n ad (wd x)) H) (hS : va_S (gA n ad s.heap.size) s.heap H locs) (hp : post x) (hcm : cells + 1 ≤ mc) (hsm : slots + 6 ≤ ms) (hcR : cells + 1 ≤ R.cells) (hsR : slots + 6 ≤ R.slots) (hF : 5 < R.frames) (hL : 82 ≤ R.locals)
    (d0 : decode cc pc = .ok (.new 144, 3)) (d1 : decode cc (pc + 3) = .ok (.dup, 1)) (d2 : decode cc (pc + 4) = .ok (.ldc idx, 2)) (d3 : decode cc (pc + 6) = .ok (.invokespecial 148, 3)) (d4 : decode cc (pc + 9) = .ok (.athrow, 1)) :
    W p l e R s m args below meth c H locs cells slots (tx_MQ below (tx_T tX_S (tx_PX D n ad wd s.heap.size post) mc ms (gA n ad s.heap.size)) args s) (F0 m pc ls []) :=
  tx_throw (rx := prog_15_method_2_code) hx hb hml hown hl hno hlocks (by decide +kernel) (by decide +kernel) (by decide +kernel) (by decide +kernel) (by decide +kernel) (tO_S h0 hZ) hv hP0 hP hS hp hcm hsm hcR hsR hF hL d0 d1 d2 d3 d4
theorem tx_thA {post : S → Prop} {idx : Nat} {tx : String} {sa mc ms : Nat} (hx : p.tables.exec = Jvm.exec) (hb : c.code = cc) (hml : ls.size = c.maxLocals) (hown : s.vm.findClass cN_TG = some m.cls) (hl : l.stackTraces = false) (hno : ∀ z ∈ c.exceptionTable.toList, False) (hlocks : meth.locks = false) (h0 : tO s0 zt) (hZ : tZ s0 (gA n ad s.heap.size) s) (hv : vk_R cN_TG idx tx sa s)
    (hP0 : va_P D cL (gw n ad (wd x0)) s.heap) (hP : va_P D cL (gw n ad (wd x)) H) (hS : va_S (gA n ad s.heap.size) s.heap H locs) (hp : post x) (hcm : cells + 1 ≤ mc) (hsm : slots + 6 ≤ ms) (hcR : cells + 1 ≤ R.cells) (hsR : slots + 6 ≤ R.slots) (hF : 5 < R.frames) (hL : 82 ≤ R.locals)
    (d0 : decode cc pc = .ok (.new 209, 3)) (d1 : decode cc (pc + 3) = .ok (.dup, 1)) (d2 : decode cc (pc + 4) = .ok (.ldc idx, 2)) (d3 : decode cc (pc + 6) = .ok (.invokespecial 213, 3)) (d4 : decode cc (pc + 9) = .ok (.athrow, 1)) :
    W p l e R s m args below meth c H locs cells slots (tx_MQ below (tx_T tX_A (tx_PX D n ad wd s.heap.size post) mc ms (gA n ad s.heap.size)) args s) (F0 m pc ls []) :=
  tx_throw (rx := prog_14_method_2_code) hx hb hml hown hl hno hlocks (by decide +kernel) (by decide +kernel) (by decide +kernel) (by decide +kernel) (by decide +kernel) (tO_A h0 hZ) hv hP0 hP hS hp hcm hsm hcR hsR hF hL d0 d1 d2 d3 d4
end TXT
