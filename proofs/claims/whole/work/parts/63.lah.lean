/-! the call of a helper with handlers. Laid by wip/whole/part_lah.py. -/

section LAH
variable {p : Program} {l : Launch} {e : Env} {R : Room} {s : State} {m : MethodId} {args : Array Value} {below : List Frame} {meth : Method} {c : Code} {H : Heap} {locs : List Loc} {cells slots : Nat} {Q : State → Prop} {T : State}
theorem h_callS (X : Stand p l e R s m args below meth c T locs cells slots) (hexec : p.tables.exec = Jvm.exec) {own : String} {index : Nat} {y : MethodName} {bytes : ByteArray} {maxL : Nat} {ret : Option FieldType} {hh : List (Nat × Nat × Nat × Nat)}
    (hown : s.vm.findClass own = some m.cls) (hlink : (Cond.methodLink own index y).before args s = true) (hstat : (Cond.static y).before args s = true) (hinit : (Cond.initialized y.cls).before args s = true)
    (hcode : (Cond.codeWith y bytes maxL ret hh).before args s = true) (hy : y.cls ≠ "java/lang/invoke/MethodHandle" ∧ y.cls ≠ "java/lang/invoke/VarHandle")
    {W : Nat} {Pre : Pt → Array Value → Prop} {Post : Pt → Array Value → Option Value → Pt → Prop} (hK : Back l R p e below s args y 3 W Pre Post)
    {g : JFrame} (hg : g.method = m) (hsize : g.locals.size = c.maxLocals) {argsL rest : List Value} (hlen : ∀ sig, parseMethodDescriptor y.desc = some sig → argsL.length = sig.parameters.length)
    (hstack : g.stack = argsL.reverse ++ rest) (hW : 2 * g.monitorRoom + (rest.map fun v => v.category).sum ≤ W) (hdg : decode c.code g.pc = .ok (.invokestatic index, 3))
    (hpre : ∀ vm₁, s.WarmedH vm₁ → Pre ⟨T.setVm vm₁, locs, cells, slots⟩ argsL.toArray) :
    ∃ (v : Option Value) (vm₁ : Vm) (B : Pt), s.WarmedH vm₁ ∧ Stand p l e R s m args below meth c B.U B.locs B.cells B.slots ∧ Post ⟨T.setVm vm₁, locs, cells, slots⟩ argsL.toArray v B ∧
      ∀ target, Steps p.tables e below (B.U.setTop { g with pc := g.pc + 3, stack := v.toList ++ rest }) target → Steps p.tables e below (T.setTop g) target := by
  obtain ⟨mk, methM, cM, hnamed, hmethM, -, -, -, -, -, -, hsigM⟩ := Cond.codeWith_spec hcode
  have hstatic : methM.isStatic = true := Cond.static_spec hnamed hmethM hstat
  obtain ⟨kP, hkP, -⟩ := className_of_methodNamed hnamed
  have hinitP : kP.init = .initialized := Cond.initialized_spec (findClass_of_methodNamed hnamed) hkP hinit
  obtain ⟨vm₁, X₁, hstep₁⟩ := X.invokestatic hexec hown hlink hnamed hmethM hstatic hkP hinitP hy (g := g) hg (argsL := argsL) (rest := rest) (hlen _ hsigM) hstack hdg
  obtain ⟨v, B, X', hpost, hsteps⟩ := hK m meth c ⟨T.setVm vm₁, locs, cells, slots⟩ { g with stack := rest } (.invokestatic index) mk argsL.toArray X₁ hg hsize hdg hW (X₁.named hnamed) (hpre vm₁ X₁.warmed)
  exact ⟨v, vm₁, B, X₁.warmed, X', hpost, fun target h => hstep₁ _ fun acts => by rw [doInvoke_state]; exact hsteps.trans h⟩
variable {cc : ByteArray} {pc nL : Nat} {ls : Array Slot} {rest st0 : List Value} {D : va_G} {tys : List (ClassId × FieldType)} {Z : (Nat → Prop) → State → Prop} {n : Nat} {ad : Nat → Nat} {A : Nat → Prop} {H0 : Heap}
variable {S : Type} {wd : S → Nat → va_E} {x : S} {y : MethodName} {b : ByteArray} {ml np index : Nat} {hh : List (Nat × Nat × Nat × Nat)} {rm : Room} {own : String} {As : List Value}
theorem wW_GW (hc : Cond.codeWith y b ml (some .int) hh ∈ wW) : GoodIn wW (Cond.codeWith y b ml (some .int) hh :: wW) := fun w hw => by
  rcases List.mem_cons.mp hw with rfl | h
  · exact ⟨hc, good_of_word (wW_good hc)⟩
  · exact ⟨h, good_of_word (wW_good h)⟩
/-- invokestatic of a method with handlers -/
theorem gc_Hi {post : Int32 → S → Prop} (hx : p.tables.exec = Jvm.exec) (hb : c.code = cc) (hml : c.maxLocals = nL) (hown : s.vm.findClass own = some m.cls) (htw : ∀ w ∈ wW, w.before args s = true) (hK : va_K D cL tys s) (hP : va_P D cL (gw n ad (wd x)) H) (hS : va_S A H0 H locs) (hM : gH l y b ml hh rm D tys Z n ad wd As x post)
    (hz : gZ Z) (hZ : ∀ U : State, U.heap = H → s.WarmedH U.vm → Z (gA n ad H.size) U) (hA : ∀ q, gA n ad H.size q → A q)
    (hlk : Cond.methodLink own index y ∈ wW) (hin : Cond.static y ∈ wW) (hini : Cond.initialized y.cls ∈ wW) (hcd : Cond.codeWith y b ml (some .int) hh ∈ wW) (hmp : mP y np) (hR : rm.frames + 1 ≤ R.frames ∧ 8 + (ml + 11) + rm.locals ≤ R.locals) (hn : As.length = np) (hsz : ls.size = nL) (hst : st0 = As.reverse ++ rest) (hW : (rest.map fun v => v.category).sum ≤ 8) (hdg : decode cc pc = .ok (.invokestatic index, 3)) (hf : cells + rm.cells ≤ R.cells ∧ slots + rm.slots ≤ R.slots)
    (kk : ∀ (r : Int32) (x1 : S) (H1 : Heap) (locs1 : List Loc), post r x1 → va_P D cL (gw n ad (wd x1)) H1 → H.size ≤ H1.size → (∀ q : Nat, q < H.size → ¬ gA n ad H.size q → H1[q]? = H[q]?) → va_S A H0 H1 locs1 → W p l e R s m args below meth c H1 locs1 (cells + rm.cells) (slots + rm.slots) Q (F0 m (pc + 3) ls (.int r :: rest))) :
    W p l e R s m args below meth c H locs cells slots Q (F0 m pc ls st0) := by
  have hB : Back l R p e below s args y 3 8 (PreOf R rm.cells rm.slots (va_Pc As (gPre D tys Z n ad (wd x) H.size))) (PostOf (va_Qi post (gB D n ad wd) (gA n ad H.size)) rm.cells rm.slots (gA n ad H.size)) :=
    va_backW (hh := hh) (bytes := b) (maxL := ml) (ret := some .int) (hM H.size) (gc_blind hz) rfl rfl hR.1 hR.2 (pay_in htw (wW_GW hcd)) List.mem_cons_self (fun a' U hW => word_at hW (good_of_word (wW_good hini)) (htw _ hini))
  have hlen : ∀ sig, parseMethodDescriptor y.desc = some sig → As.length = sig.parameters.length := fun sig h => by
    have h2 := hmp.2.2
    rw [h] at h2
    exact hn.trans (Option.some.inj h2).symm
  have hrun : va_Run p l e R s m args below meth c H locs cells slots rm.cells rm.slots (F0 m pc ls st0) rest (va_Qi post (gB D n ad wd) (gA n ad H.size) As.toArray) (gA n ad H.size) := by
    intro T hT X
    obtain ⟨v, vm₁, ⟨U', l2, c2, s2⟩, hW₁, X', ⟨g', mk, t, L, e1, e2, hq, h1, hL, h2, h3⟩, st⟩ := h_callS X hx (bytes := b) (maxL := ml) (ret := some .int) (hh := hh) hown (htw _ hlk) (htw _ hin) (htw _ hini) (htw _ hcd) ⟨hmp.1, hmp.2.1⟩ hB (g := F0 m pc ls st0) rfl (hsz.trans hml.symm) (argsL := As) (rest := rest) hlen hst (lv_room hW) (by rw [hb]; exact hdg)
      (fun vm₁ hW₁ => ⟨hf.1, hf.2, gc_at hP hK hZ (T.setVm vm₁) hT hW₁⟩)
    dsimp only [Pt.U, Pt.locs, Pt.cells, Pt.slots] at X' e1 e2 h1 h2 h3 st
    subst h1; subst h2; subst h3
    exact ⟨v, (T.setVm vm₁).calling g' mk As.toArray, t, U', L, hT, X', hL, e1, e2, hq, st⟩
  exact va_calli hrun hS (fun q _ h => hA q h) hA (fun r x1 t H1 locs1 ht _ hp hB hz1 hk1 hS1 => kk r x1 H1 locs1 hp (by rw [← ht]; exact hB) hz1 hk1 hS1)
end LAH

theorem wH_La_bit : Cond.codeWith mY_La_bit mB_La_bit 4 (some .int) [(0, 9, 12, 13)] ∈ wW := wW_i2 15 rfl rfl
theorem wH_La_drop : Cond.codeWith mY_La_drop mB_La_drop 4 (some .int) [(0, 9, 12, 19)] ∈ wW := wW_i2 113 rfl rfl
theorem wH_La_not : Cond.codeWith mY_La_not mB_La_not 4 (some .int) [(0, 9, 12, 19), (0, 9, 15, 13)] ∈ wW := wW_i2 149 rfl rfl
theorem wH_La_blur : Cond.codeWith mY_La_blur mB_La_blur 5 (some .int) [(0, 10, 13, 19), (0, 10, 17, 28), (0, 10, 21, 13)] ∈ wW := wW_i2 171 rfl rfl
theorem wH_La_pile : Cond.codeWith mY_La_pile mB_La_pile 5 (some .int) [(0, 10, 13, 19), (0, 10, 17, 28), (0, 10, 21, 13)] ∈ wW := wW_i2 210 rfl rfl
theorem wH_La_gate : Cond.codeWith mY_La_gate mB_La_gate 6 (some .int) [(0, 12, 15, 19), (0, 12, 19, 13)] ∈ wW := wW_i2 218 rfl rfl
theorem wH_La_choose : Cond.codeWith mY_La_choose mB_La_choose 6 (some .int) [(0, 12, 15, 19), (0, 12, 19, 13)] ∈ wW := wW_i3 57 rfl rfl
theorem wH_La_open : Cond.codeWith mY_La_open mB_La_open 4 (some .int) [(0, 9, 12, 19), (0, 9, 15, 13)] ∈ wW := wW_i3 64 rfl rfl
theorem wH_La_bound : Cond.codeWith mY_La_bound mB_La_bound 4 (some .int) [(0, 9, 12, 19)] ∈ wW := wW_i3 77 rfl rfl
theorem wH_La_within : Cond.codeWith mY_La_within mB_La_within 4 (some .int) [(0, 16, 19, 19)] ∈ wW := wW_i3 84 rfl rfl
theorem wH_La_line : Cond.codeWith mY_La_line mB_La_line 6 (some .int) [(0, 12, 15, 19), (0, 12, 19, 13)] ∈ wW := wW_i3 91 rfl rfl
theorem wH_La_play : Cond.codeWith mY_La_play mB_La_play 5 (some .int) [(0, 10, 13, 19), (0, 10, 17, 28), (0, 10, 21, 13)] ∈ wW := wW_i3 108 rfl rfl
theorem wH_La_count : Cond.codeWith mY_La_count mB_La_count 4 (some .int) [(0, 9, 12, 28)] ∈ wW := wW_i3 122 rfl rfl
