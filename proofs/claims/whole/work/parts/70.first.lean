/-! what the given start says, gathered: the throws' words, the strings, Works' tables. My own rows. -/
abbrev bF : List Cond := lw_tbl ++ flatC (Jvm.Cond.and given_1 narrow_1)
theorem bF_at {s : State} {b : Nat} (hts : ∀ w ∈ lw_tbl, w.before #[Value.ref b] s = true) (hg : (Jvm.Cond.and given_1 narrow_1).before #[Value.ref b] s = true) : ∀ w ∈ bF, w.before #[Value.ref b] s = true := fun w hw => by
  rcases List.mem_append.mp hw with h | h
  · exact hts w h
  · exact flat_of_before _ hg w h
set_option maxRecDepth 100000 in
theorem bF_N : ∀ w ∈ tX_wN, w ∈ bF := by decide +kernel
set_option maxRecDepth 100000 in
theorem bF_S : ∀ w ∈ tX_wS, w ∈ bF := by decide +kernel
set_option maxRecDepth 100000 in
theorem bF_A : ∀ w ∈ tX_wA, w ∈ bF := by decide +kernel
set_option maxRecDepth 100000 in
theorem bF_C : ∀ w ∈ tX_wC, w ∈ bF := by decide +kernel
set_option maxRecDepth 100000 in
theorem bF_D : ∀ q ∈ tX_wD, Cond.not (.castable q.1 q.2) ∈ bF := by decide +kernel
set_option maxRecDepth 100000 in
theorem bF_str : ∀ q ∈ tX_str, Cond.stringRef cN_TG q.1 q.2 ∈ bF ∧ Cond.exactly (.string cN_TG q.1) "java/lang/String" ∈ bF := by decide +kernel
set_option maxRecDepth 100000 in
theorem bF_on : Cond.methodLinkNest cN_TG 9 mY_So_init cN_TG ∈ bF := by decide +kernel
set_option maxRecDepth 100000 in
theorem bF_aa : Cond.arrayOver (.array .int) ∈ bF := by decide +kernel
set_option maxRecDepth 100000 in
theorem bF_ac : Cond.arrayOver (.object cN_Ce) ∈ bF := by decide +kernel
/-- a table of 8 ints in a static field of Works -/
def bT (n : String) (f : Nat → Int32) : Prop := (Cond.laysStatic cN_Wo n "[I" ∈ bF ∧ Cond.arrayOf (.static cN_Wo n "[I") .int ∈ bF ∧ Cond.eq (.length (.static cN_Wo n "[I")) (.int (Int32.ofNat 8)) ∈ bF) ∧ ∀ j, j < 8 → Cond.eq (.elem (.static cN_Wo n "[I") (.int (Int32.ofNat j))) (.int (f j)) ∈ bF
set_option maxRecDepth 100000 in
theorem bT_1 : bT "FIRST_WEIGHTS" tW1 := by
  unfold bT
  decide +kernel
set_option maxRecDepth 100000 in
theorem bT_2 : bT "SECOND_WEIGHTS" tW2 := by
  unfold bT
  decide +kernel
set_option maxRecDepth 100000 in
theorem bT_3 : bT "EIGHTHS" tW3 := by
  unfold bT
  decide +kernel
theorem bT_at {s : State} {b : Nat} {n : String} {f : Nat → Int32} (hF : ∀ w ∈ bF, w.before #[Value.ref b] s = true) (hw : (Cond.initialized cN_Wo).before #[Value.ref b] s = true) (h : bT n f) : ∃ t : Nat, va_Z cN_Wo n "[I" (.ref t) (tB s) s s.heap ∧ va_T .int t 8 (fun j => .int (f j)) (tB s) s s.heap := by
  obtain ⟨t, h1, h2⟩ := va_Tof (tm := .static cN_Wo n "[I") (N := 8) (f := fun j => .int (f j)) (A := tB s) (by decide) (hF _ h.1.2.1) (va_eqt (hF _ h.1.2.2)) (fun j hj => va_eqt (hF _ (h.2 j hj))) (fun a ha => Nat.not_le.mpr ha)
  exact ⟨t, va_Zof (hF _ h.1.1) hw h1 (fun a ha => Nat.not_le.mpr ha), h2⟩
theorem b_O {s : State} {b : Nat} (htw : ∀ w ∈ wW, w.before #[Value.ref b] s = true) (hF : ∀ w ∈ bF, w.before #[Value.ref b] s = true) : ∃ zt : Nat → Nat, tO s zt := by
  have hZ := tZ_self s
  have hs := tZ_st hZ
  obtain ⟨t1, z1, a1⟩ := bT_at hF (htw _ ww_27) bT_1
  obtain ⟨t2, z2, a2⟩ := bT_at hF (htw _ ww_27) bT_2
  obtain ⟨t3, z3, a3⟩ := bT_at hF (htw _ ww_27) bT_3
  refine ⟨fun k => [t1, t2, t3].getD k t1, rideK_all (State.WarmedH.refl s) hs tX_rN (fun w hw => hF w (bF_N w hw)), rideK_all (State.WarmedH.refl s) hs tX_rS (fun w hw => hF w (bF_S w hw)), rideK_all (State.WarmedH.refl s) hs tX_rA (fun w hw => hF w (bF_A w hw)), fun q hq => ?_, ⟨z1, z2, z3⟩, a1, a2, a3⟩
  obtain ⟨h1, h2⟩ := bF_str q hq
  obtain ⟨a, _, _, _, ha, _⟩ := Cond.exactly_spec (hF _ h2)
  exact ⟨a, vk_R.of (hF _ h1) ha⟩
theorem b_OC {s : State} {b : Nat} (hF : ∀ w ∈ bF, w.before #[Value.ref b] s = true) : tOC s :=
  ⟨rideK_all (State.WarmedH.refl s) (tZ_st (tZ_self s)) tX_rC (fun w hw => hF w (bF_C w hw)), fun q hq => tx_notc (State.WarmedH.refl s).alike (hF _ (bF_D q hq))⟩
theorem b_ON {s : State} {b : Nat} (hF : ∀ w ∈ bF, w.before #[Value.ref b] s = true) : tON s := va_Nw.of rfl (hF _ bF_on)
theorem b_AA {s : State} {b : Nat} (hF : ∀ w ∈ bF, w.before #[Value.ref b] s = true) : tOA s := tx_aoa (State.WarmedH.refl s).alike (hF _ bF_aa)
theorem b_AC {s : State} {b : Nat} (hF : ∀ w ∈ bF, w.before #[Value.ref b] s = true) : tOAC s := va_AO.of (hF _ bF_ac)
