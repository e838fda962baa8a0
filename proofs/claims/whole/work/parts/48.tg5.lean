/-! TorusGates' public methods, third part: gate, choose. Laid by wip/whole/part_tg5.py. -/
theorem tR_gate {α : tA} {v v' : Nat → Nat → Int32} (h : tR α v) (hs : ∀ k, k ≠ 0 → k ≠ 104 → k ≠ 105 → k ≠ 107 → ¬ (355 ≤ k ∧ k < 424) → v' k = v k) (e0 : v' 0 = upd (v 0) 10 (v 0 10 + 1)) : tR (aGates α (aG α + 1)) v' := by
  obtain ⟨k1, k2, k3, ⟨k4, k5, k6⟩, k7, k8⟩ := h
  have e : ∀ k, k < 355 → k ≠ 0 → k ≠ 104 → k ≠ 105 → k ≠ 107 → v' k = v k := fun k a b c d f => hs k b c d f (by omega)
  refine ⟨?_, fun j hj => ?_, ?_, ⟨k4, ?_, fun i hi => ?_⟩, ?_, ?_⟩
  · refine ⟨fun i hi => ?_, fun i hi => ?_, fun i hh w a1 a2 a3 => ?_, fun i w a1 a2 => ?_⟩
    · rw [e 3 (by decide) (by decide) (by decide) (by decide) (by decide)]; exact k1.1 i hi
    · rw [e 4 (by decide) (by decide) (by decide) (by decide) (by decide)]; exact k1.2.1 i hi
    · unfold th_step
      rw [e 4 (by decide) (by decide) (by decide) (by decide) (by decide), e 3 (by decide) (by decide) (by decide) (by decide) (by decide), e (7 + (4 * i + 2 * hh + w)) (by omega) (by omega) (by omega) (by omega) (by omega)]
      exact k1.2.2.1 i hh w a1 a2 a3
    · unfold th_way
      rw [e 4 (by decide) (by decide) (by decide) (by decide) (by decide), e 3 (by decide) (by decide) (by decide) (by decide) (by decide), e (40 + (2 * i + w)) (by omega) (by omega) (by omega) (by omega) (by omega)]
      exact k1.2.2.2 i w a1 a2
  · rw [e (110 + 2 * j) (by omega) (by omega) (by omega) (by omega) (by omega)]
    exact ⟨(k2 j hj).1, fun z => tCok_eq ((k2 j hj).2 z) (e 3 (by decide) (by decide) (by decide) (by decide) (by decide)) (e _ (by omega) (by omega) (by omega) (by omega) (by omega)) (e _ (by omega) (by omega) (by omega) (by omega) (by omega))⟩
  · rw [e 108 (by decide) (by decide) (by decide) (by decide) (by decide)]; exact k3
  · rw [e 350 (by decide) (by decide) (by decide) (by decide) (by decide)]; exact k5
  · exact tLn_eq (k6 i hi) (e _ (by decide) (by decide) (by decide) (by decide) (by decide)) (e _ (by decide) (by decide) (by decide) (by decide) (by decide)) (e _ (by decide) (by decide) (by decide) (by decide) (by decide))
  · rw [e0, pk_us, k7]; rfl
  · rw [e0, pk_un (by decide)]; exact k8
theorem tc_B : tCe 419 := by unfold tCe; omega
theorem tc_A : tCe 421 := by unfold tCe; omega
theorem tf_small : ¬ tp_far 1 3186688 3186688 := by unfold tp_far; decide
theorem tf_choose (a b c : Bool) : tp_truth 1 (tp_truth 0 a b) (tp_truth 6 c a) = if a then b else c := by cases a <;> cases b <;> cases c <;> rfl
theorem ta_3 (g : Int32) : g + 1 + 1 + 1 = g + 3 := by
  rw [Int32.add_assoc, Int32.add_assoc]
  rfl
/-- a gate's result is a new number -/
theorem tR_gnew {α : tA} {v v1 v' : Nat → Nat → Int32} {q b1 b2 gt k1 k2 : Nat} {z1 z2 : Bool} (h : tR α v) (hf : aFree α q) (e1 : v1 = va_up (va_up v (110 + 2 * q) (upd (v (110 + 2 * q)) 3 1)) 108 (upd (v 108) 1 (v 108 1 + 1)))
    (fr : ∀ k, k ≠ 0 → k ≠ 104 → k ≠ 105 → k ≠ 107 → k ≠ 110 + 2 * q → k ≠ 110 + 2 * q + 1 → v' k = v1 k) (ed : v' (110 + 2 * q) = upd (upd (v1 (110 + 2 * q)) 1 3186688) 2 (tBi (tp_truth gt z1 z2))) (e0 : v' 0 = upd (v1 0) 10 (v1 0 10 + 1))
    (hg : ∀ b1 b2 : Nat, tp_near (v1 3) (v1 (k1 + 1)) z1 b1 → tp_near (v1 3) (v1 (k2 + 1)) z2 b2 → ¬ tp_far gt b1 b2 → tp_near (v1 3) (v' (110 + 2 * q + 1)) (tp_truth gt z1 z2) 3186688)
    (n1 : k1 ≠ 110 + 2 * q) (n2 : k2 ≠ 110 + 2 * q) (m1 : k1 + 1 ≠ 108) (m2 : k2 + 1 ≠ 108) (p1 : k1 + 1 ≠ 110 + 2 * q) (p2 : k2 + 1 ≠ 110 + 2 * q) (q1 : tp_near (v 3) (v (k1 + 1)) z1 b1) (q2 : tp_near (v 3) (v (k2 + 1)) z2 b2) (hfar : ¬ tp_far gt b1 b2) : tR (aGates (aMade α q (tp_truth gt z1 z2) 3186688) (aG α + 1)) v' := by
  have hq := hf.1
  have e3 : v1 3 = v 3 := by rw [e1, va_up_ne _ _ (by omega), va_up_ne _ _ (by omega)]
  have ea : v1 (k1 + 1) = v (k1 + 1) := by rw [e1, va_up_ne _ _ m1, va_up_ne _ _ p1]
  have eb : v1 (k2 + 1) = v (k2 + 1) := by rw [e1, va_up_ne _ _ m2, va_up_ne _ _ p2]
  have e0' : v1 0 = v 0 := by rw [e1, va_up_ne _ _ (by omega), va_up_ne _ _ (by omega)]
  refine tR_new h hf e1 (fun k a1 a2 a3 a4 a5 a6 _ => fr k a1 a2 a3 a4 a5 a6) ?_ ⟨by decide, ?_, ?_, ?_⟩ ?_ ?_
  · rw [ed, pk_un (by decide), pk_un (by decide)]
  · rw [ed, pk_un (by decide), pk_us]; rfl
  · rw [ed, pk_us]
  · rw [fr 3 (by omega) (by omega) (by omega) (by omega) (by omega) (by omega)]
    exact hg b1 b2 (by rw [e3, ea]; exact q1) (by rw [e3, eb]; exact q2) hfar
  · rw [e0, pk_us, e0', h.2.2.2.2.1]
  · rw [e0, pk_un (by decide)]

set_option maxHeartbeats 4000000 in
set_option maxRecDepth 100000 in
theorem k_TG_gate (l : Launch) (D : va_G) (ct : Nat → ClassId) (ad : Nat → Nat) (hI : gw_inj 424 ad) (x : tS) {s0 : State} {zt : Nat → Nat} (h0 : tO s0 zt) (α : tA) (hR : tR α x.1) {gt u1 u2 q : Nat} (hgt : gt < 8) (hu1 : u1 < 120) (hut1 : aT α u1 = true) (hu2 : u2 < 120) (hut2 : aT α u2 = true) (hfar : ¬ tp_far gt (aB α u1) (aB α u2)) (hf : aFree α q) : gMi l mY_TG_gate mB_TG_gate 7 (some .int) (rF 6 151) D (tT ct) (tZ s0) 424 ad (tD ct ad) [.ref (ad 0), .int (nI gt), .int (nI u1), .int (nI u2)] x (fun r x' => r = nI q ∧ tR (aGates (aMade α q (tp_truth gt (aV α u1) (aV α u2)) 3186688) (aG α + 1)) x'.1) := by
  refine gMi_enter (by decide) (Nat.le_of_ble_eq_true rfl) ?_
  intro p e s m below meth c ls hx hb hr htw hown hlocks hml hl hP hK hZ hS
  have hA : ∀ k, k < 424 → gA 424 ad s.heap.size (ad k) := fun _ h => gA_in h
  have hl : lv_has ls 7 [(0, .ref (ad 0)), (1, .int (nI gt)), (2, .int (nI u1)), (3, .int (nI u2))] := hl
  refine lv_aload_n hx hb mD_TG_gate_0 rfl (lv_at hl 0 rfl) ?_
  refine lv_iload_n hx hb mD_TG_gate_1 rfl (lv_at hl 1 rfl) ?_
  refine gc_Vv (As := [.int (nI gt)]) (rest := []) hx hb hml hown htw hK hP hS 0 (k_TG_checkKind l D ct ad hI x (q := gt) hgt) gZ0_ok (fun _ _ _ => trivial) (gA_mono hS.1) (by decide) rfl rfl ww_485 ww_487 ww_8 ww_23 wC_TG_checkKind mP_TG_checkKind (by decide) rfl hl.1 rfl (Nat.le_of_ble_eq_true rfl) mD_TG_gate_2 ⟨Nat.le_of_ble_eq_true rfl, Nat.le_of_ble_eq_true rfl⟩ (fun x1 H locs hp1 hP _ _ hS => ?_)
  have hq_ := hp1
  rw [hq_] at hP
  refine lv_aload_n hx hb mD_TG_gate_5 rfl (lv_at hl 0 rfl) ?_
  refine lv_iload_n hx hb mD_TG_gate_6 rfl (lv_at hl 2 rfl) ?_
  refine gc_Vr (As := [.int (nI u1)]) (rest := []) hx hb hml hown htw hK hP hS 0 (k_TG_cellOf l D ct ad hI x (q := u1) hu1 (tR_th hR hu1 hut1)) gZ0_ok (fun _ _ _ => trivial) (gA_mono hS.1) (by decide) rfl rfl ww_381 ww_383 ww_5 ww_23 wC_TG_cellOf mP_TG_cellOf (by decide) rfl hl.1 rfl (Nat.le_of_ble_eq_true rfl) mD_TG_gate_7 ⟨Nat.le_of_ble_eq_true rfl, Nat.le_of_ble_eq_true rfl⟩ (fun r4 x3 H locs hp3 hP _ _ hS => ?_)
  obtain ⟨ra, hq_⟩ := hp3
  subst ra
  rw [hq_] at hP
  refine lv_astore (lv' := [(4, .ref (ad ((110 + 2 * u1)))), (0, .ref (ad 0)), (1, .int (nI gt)), (2, .int (nI u1)), (3, .int (nI u2))]) hx hb mD_TG_gate_10 hl (by decide) rfl (fun ls hl => ?_)
  refine lv_aload_n hx hb mD_TG_gate_12 rfl (lv_at hl 1 rfl) ?_
  refine lv_iload_n hx hb mD_TG_gate_13 rfl (lv_at hl 4 rfl) ?_
  refine gc_Vr (As := [.int (nI u2)]) (rest := []) hx hb hml hown htw hK hP hS 0 (k_TG_cellOf l D ct ad hI x (q := u2) hu2 (tR_th hR hu2 hut2)) gZ0_ok (fun _ _ _ => trivial) (gA_mono hS.1) (by decide) rfl rfl ww_381 ww_383 ww_5 ww_23 wC_TG_cellOf mP_TG_cellOf (by decide) rfl hl.1 rfl (Nat.le_of_ble_eq_true rfl) mD_TG_gate_14 ⟨Nat.le_of_ble_eq_true rfl, Nat.le_of_ble_eq_true rfl⟩ (fun r6 x5 H locs hp5 hP _ _ hS => ?_)
  obtain ⟨ra, hq_⟩ := hp5
  subst ra
  rw [hq_] at hP
  refine lv_astore (lv' := [(5, .ref (ad ((110 + 2 * u2)))), (4, .ref (ad ((110 + 2 * u1)))), (0, .ref (ad 0)), (1, .int (nI gt)), (2, .int (nI u1)), (3, .int (nI u2))]) hx hb mD_TG_gate_17 hl (by decide) rfl (fun ls hl => ?_)
  have w1 := (hR.2.1 u1 hu1).2 hut1
  have w2 := (hR.2.1 u2 hu2).2 hut2
  refine lv_aload_n hx hb mD_TG_gate_19 rfl (lv_at hl 2 rfl) ?_
  refine lv_iload_n hx hb mD_TG_gate_20 rfl (lv_at hl 3 rfl) ?_
  refine lv_aload hx hb mD_TG_gate_21 (lv_at hl 1 rfl) ?_
  refine lv_aload hx hb mD_TG_gate_23 (lv_at hl 0 rfl) ?_
  refine gc_Si (As := [.int (nI gt), .ref (ad ((110 + 2 * u1))), .ref (ad ((110 + 2 * u2)))]) (rest := [.ref (ad 0)]) hx hb hml hown htw hK hP hS (k_TG_isTooFar l D ct ad hI x (gt := gt) hgt (tCe_led hu1) (tCe_led hu2) w1.2.1 w2.2.1 w1.1 w2.1) gZ0_ok (fun _ _ _ => trivial) (gA_mono hS.1) ww_490 ww_491 ww_23 wC_TG_isTooFar mP_TG_isTooFar (by decide) rfl hl.1 rfl (Nat.le_of_ble_eq_true rfl) mD_TG_gate_25 ⟨Nat.le_of_ble_eq_true rfl, Nat.le_of_ble_eq_true rfl⟩ (fun r8 x7 H locs hp7 hP _ _ hS => ?_)
  obtain ⟨hq_, hr_⟩ := hp7
  rw [hq_] at hP
  have er : r8 = nI 0 := by rcases hr_ with ⟨_, h⟩ | ⟨e, _⟩; exact absurd h hfar; exact e
  subst er
  refine gc_Vv (As := [.int (nI 0)]) (rest := []) hx hb hml hown htw hK hP hS 0 (k_TG_refuseIf l D ct ad hI x) gZ0_ok (fun _ _ _ => trivial) (gA_mono hS.1) (by decide) rfl rfl ww_496 ww_498 ww_9 ww_23 wC_TG_refuseIf mP_TG_refuseIf (by decide) rfl hl.1 rfl (Nat.le_of_ble_eq_true rfl) mD_TG_gate_28 ⟨Nat.le_of_ble_eq_true rfl, Nat.le_of_ble_eq_true rfl⟩ (fun x9 H locs hp9 hP _ _ hS => ?_)
  have hq_ := hp9
  rw [hq_] at hP
  refine lv_aload_n hx hb mD_TG_gate_31 rfl (lv_at hl 2 rfl) ?_
  refine gc_Vi (As := []) (rest := []) hx hb hml hown htw hK hP hS 0 (k_TG_freeNumber l D ct ad hI x (q := q) hf.1 (tR_fr hR hf).1 (tR_fr hR hf).2) gZ0_ok (fun _ _ _ => trivial) (gA_mono hS.1) (by decide) rfl rfl ww_283 ww_285 ww_2 ww_23 wC_TG_freeNumber mP_TG_freeNumber (by decide) rfl hl.1 rfl (Nat.le_of_ble_eq_true rfl) mD_TG_gate_32 ⟨Nat.le_of_ble_eq_true rfl, Nat.le_of_ble_eq_true rfl⟩ (fun r12 x11 H locs hp11 hP _ _ hS => ?_)
  obtain ⟨hq_, rfl⟩ := hp11
  rw [hq_] at hP
  refine lv_istore (lv' := [(6, .int (nI q)), (5, .ref (ad ((110 + 2 * u2)))), (4, .ref (ad ((110 + 2 * u1)))), (0, .ref (ad 0)), (1, .int (nI gt)), (2, .int (nI u1)), (3, .int (nI u2))]) hx hb mD_TG_gate_35 hl (by decide) rfl (fun ls hl => ?_)
  refine lv_aload_n hx hb mD_TG_gate_37 rfl (lv_at hl 3 rfl) ?_
  refine lv_iload_n hx hb mD_TG_gate_38 rfl (lv_at hl 4 rfl) ?_
  refine lv_aload hx hb mD_TG_gate_39 (lv_at hl 2 rfl) ?_
  refine lv_aload hx hb mD_TG_gate_41 (lv_at hl 1 rfl) ?_
  refine lv_aload_n hx hb mD_TG_gate_43 rfl (lv_at hl 3 rfl) ?_
  refine t_get (C := cN_TG) (T := cF_TG) (N := 12) (ci := 7) hx hb htw wU_TG hown hK hP 0 (by decide) rfl rfl 4 (by decide) rfl ww_226 rfl mD_TG_gate_44 ?_
  refine lv_iload hx hb mD_TG_gate_47 (lv_at hl 0 rfl) ?_
  refine gc_Vr (As := [.int (nI q)]) (rest := [.ref (ad ((110 + 2 * u2))), .ref (ad ((110 + 2 * u1))), .int (nI gt), .ref (ad 0)]) hx hb hml hown htw hK hP hS 108 (k_Le_take l D ct ad hI x (q := q) hf.1) gZ0_ok (fun _ _ _ => trivial) (gA_mono hS.1) (by decide) rfl rfl ww_359 ww_360 ww_361 ww_28 wC_Le_take mP_Le_take (by decide) rfl hl.1 rfl (Nat.le_of_ble_eq_true rfl) mD_TG_gate_49 ⟨Nat.le_of_ble_eq_true rfl, Nat.le_of_ble_eq_true rfl⟩ (fun r14 x13 H locs hp13 hP _ _ hS => ?_)
  obtain ⟨ra, e1⟩ := hp13
  subst ra
  have hq := hf.1
  have n1 : u1 ≠ q := fun z => by have h1 := hf.2.1; rw [← z, hut1] at h1; cases h1
  have n2 : u2 ≠ q := fun z => by have h1 := hf.2.1; rw [← z, hut2] at h1; cases h1
  have f1 : x13.1 (110 + 2 * u1) = x.1 (110 + 2 * u1) := by rw [e1, va_up_ne _ _ (by omega), va_up_ne _ _ (by omega)]
  have f2 : x13.1 (110 + 2 * u2) = x.1 (110 + 2 * u2) := by rw [e1, va_up_ne _ _ (by omega), va_up_ne _ _ (by omega)]
  have hk1 : tKey x13.1 := tKey_eq hR.1 (fun k hk => by rw [e1, va_up_ne _ _ (by omega), va_up_ne _ _ (by omega)])
  refine gc_Vv (As := [.int (nI gt), .ref (ad ((110 + 2 * u1))), .ref (ad ((110 + 2 * u2))), .ref (ad ((110 + 2 * q)))]) (rest := []) hx hb hml hown htw hK hP hS 0 (k_TG_runGate l D ct ad hI x13 h0 (gt := gt) (k1 := 110 + 2 * u1) (k2 := 110 + 2 * u2) (kd := 110 + 2 * q) (z1 := aV α u1) (z2 := aV α u2) hgt (tCe_led hu1) (tCe_led hu2) (tCe_led hq) (by omega) (by omega) (by rw [f1]; exact w1.2.2.1) (by rw [f2]; exact w2.2.2.1) hk1) (tZ_ok s0) (tZ_at hZ hS) (gA_mono hS.1) (by decide) rfl rfl ww_501 ww_503 ww_10 ww_23 wC_TG_runGate mP_TG_runGate (by decide) rfl hl.1 rfl (Nat.le_of_ble_eq_true rfl) mD_TG_gate_52 ⟨Nat.le_of_ble_eq_true rfl, Nat.le_of_ble_eq_true rfl⟩ (fun x15 H locs hp15 hP _ _ hS => ?_)
  obtain ⟨fr, ed, e0, hg⟩ := hp15
  refine lv_iload hx hb mD_TG_gate_55 (lv_at hl 0 rfl) ?_
  exact gw_iret hx hb hr hlocks hP hS (⟨rfl, tR_gnew hR hf e1 fr ed e0 hg (by omega) (by omega) (by omega) (by omega) (by omega) (by omega) w1.2.2.2 w2.2.2.2 hfar⟩) mD_TG_gate_57 (Nat.zero_le _) (Nat.zero_le _)

set_option maxHeartbeats 4000000 in
set_option maxRecDepth 100000 in
theorem x_TG_gate1 (l : Launch) (D : va_G) (ct : Nat → ClassId) (ad : Nat → Nat) (hI : gw_inj 424 ad) (x : tS) (hls : l.stackTraces = false) {s0 : State} {zt : Nat → Nat} (h0 : tO s0 zt) (α : tA) (hR : tR α x.1) (a b c_ : Int32) (hh : ¬ ∃ q, q < 8 ∧ a = nI q) : gX l mY_TG_gate mB_TG_gate 7 (some .int) (rX 7 151) D (tT ct) (tZ s0) 424 ad (tD ct ad) [.ref (ad 0), .int a, .int b, .int c_] x tX_N (fun x' => tR α x'.1) := by
  refine gX_enter (by decide) (Nat.le_of_ble_eq_true rfl) ?_
  intro p e s m below meth c ls hx hb hr htw hown hlocks hml hl hP hK hZ hS hno
  have hA : ∀ k, k < 424 → gA 424 ad s.heap.size (ad k) := fun _ h => gA_in h
  have hl : lv_has ls 7 [(0, .ref (ad 0)), (1, .int a), (2, .int b), (3, .int c_)] := hl
  have hP0 := hP
  refine lv_aload_n hx hb mD_TG_gate_0 rfl (lv_at hl 0 rfl) ?_
  refine lv_iload_n hx hb mD_TG_gate_1 rfl (lv_at hl 1 rfl) ?_
  refine tx_call (As := [.int a]) (rest := []) hx hb hml hown htw hK hP hS 0 (x_TG_checkKind l D ct ad hI x hls h0 a hh) (tZ_ok s0) (tZ_at hZ hS) (gA_mono hS.1) (by decide) rfl rfl ww_485 ww_487 ww_8 ww_23 wC_TG_checkKind mP_TG_checkKind (by decide) rfl hl.1 rfl (Nat.le_of_ble_eq_true rfl) mD_TG_gate_2 ⟨Nat.le_of_ble_eq_true rfl, Nat.le_of_ble_eq_true rfl⟩ (fun q ce x1 H locs hp hP _ _ hS hce hcv hcl => ?_)
  exact tx_out hno hlocks hP hS (hp ▸ hR) hce hcv hcl (by decide) (by decide)

set_option maxHeartbeats 4000000 in
set_option maxRecDepth 100000 in
theorem x_TG_gate2 (l : Launch) (D : va_G) (ct : Nat → ClassId) (ad : Nat → Nat) (hI : gw_inj 424 ad) (x : tS) (hls : l.stackTraces = false) {s0 : State} {zt : Nat → Nat} (h0 : tO s0 zt) (α : tA) (hR : tR α x.1) {gt : Nat} (hgt : gt < 8) (b c_ : Int32) (hh : ¬ aHas α b) : gX l mY_TG_gate mB_TG_gate 7 (some .int) (rX 7 151) D (tT ct) (tZ s0) 424 ad (tD ct ad) [.ref (ad 0), .int (nI gt), .int b, .int c_] x tX_N (fun x' => tR α x'.1) := by
  refine gX_enter (by decide) (Nat.le_of_ble_eq_true rfl) ?_
  intro p e s m below meth c ls hx hb hr htw hown hlocks hml hl hP hK hZ hS hno
  have hA : ∀ k, k < 424 → gA 424 ad s.heap.size (ad k) := fun _ h => gA_in h
  have hl : lv_has ls 7 [(0, .ref (ad 0)), (1, .int (nI gt)), (2, .int b), (3, .int c_)] := hl
  have hP0 := hP
  refine lv_aload_n hx hb mD_TG_gate_0 rfl (lv_at hl 0 rfl) ?_
  refine lv_iload_n hx hb mD_TG_gate_1 rfl (lv_at hl 1 rfl) ?_
  refine gc_Vv (As := [.int (nI gt)]) (rest := []) hx hb hml hown htw hK hP hS 0 (k_TG_checkKind l D ct ad hI x (q := gt) hgt) gZ0_ok (fun _ _ _ => trivial) (gA_mono hS.1) (by decide) rfl rfl ww_485 ww_487 ww_8 ww_23 wC_TG_checkKind mP_TG_checkKind (by decide) rfl hl.1 rfl (Nat.le_of_ble_eq_true rfl) mD_TG_gate_2 ⟨Nat.le_of_ble_eq_true rfl, Nat.le_of_ble_eq_true rfl⟩ (fun x1 H locs hp1 hP _ _ hS => ?_)
  have hq_ := hp1
  rw [hq_] at hP
  refine lv_aload_n hx hb mD_TG_gate_5 rfl (lv_at hl 0 rfl) ?_
  refine lv_iload_n hx hb mD_TG_gate_6 rfl (lv_at hl 2 rfl) ?_
  refine tx_call (As := [.int b]) (rest := []) hx hb hml hown htw hK hP hS 0 (x_TG_cellOf l D ct ad hI x hls h0 b (fun q => hh ((tR_has hR _).mp q))) (tZ_ok s0) (tZ_at hZ hS) (gA_mono hS.1) (by decide) rfl rfl ww_381 ww_383 ww_5 ww_23 wC_TG_cellOf mP_TG_cellOf (by decide) rfl hl.1 rfl (Nat.le_of_ble_eq_true rfl) mD_TG_gate_7 ⟨Nat.le_of_ble_eq_true rfl, Nat.le_of_ble_eq_true rfl⟩ (fun q ce x3 H locs hp hP _ _ hS hce hcv hcl => ?_)
  exact tx_out hno hlocks hP hS (hp ▸ hR) hce hcv hcl (by decide) (by decide)

set_option maxHeartbeats 4000000 in
set_option maxRecDepth 100000 in
theorem x_TG_gate3 (l : Launch) (D : va_G) (ct : Nat → ClassId) (ad : Nat → Nat) (hI : gw_inj 424 ad) (x : tS) (hls : l.stackTraces = false) {s0 : State} {zt : Nat → Nat} (h0 : tO s0 zt) (α : tA) (hR : tR α x.1) {gt u1 : Nat} (hgt : gt < 8) (hu1 : u1 < 120) (hut1 : aT α u1 = true) (c_ : Int32) (hh : ¬ aHas α c_) : gX l mY_TG_gate mB_TG_gate 7 (some .int) (rX 7 151) D (tT ct) (tZ s0) 424 ad (tD ct ad) [.ref (ad 0), .int (nI gt), .int (nI u1), .int c_] x tX_N (fun x' => tR α x'.1) := by
  refine gX_enter (by decide) (Nat.le_of_ble_eq_true rfl) ?_
  intro p e s m below meth c ls hx hb hr htw hown hlocks hml hl hP hK hZ hS hno
  have hA : ∀ k, k < 424 → gA 424 ad s.heap.size (ad k) := fun _ h => gA_in h
  have hl : lv_has ls 7 [(0, .ref (ad 0)), (1, .int (nI gt)), (2, .int (nI u1)), (3, .int c_)] := hl
  have hP0 := hP
  refine lv_aload_n hx hb mD_TG_gate_0 rfl (lv_at hl 0 rfl) ?_
  refine lv_iload_n hx hb mD_TG_gate_1 rfl (lv_at hl 1 rfl) ?_
  refine gc_Vv (As := [.int (nI gt)]) (rest := []) hx hb hml hown htw hK hP hS 0 (k_TG_checkKind l D ct ad hI x (q := gt) hgt) gZ0_ok (fun _ _ _ => trivial) (gA_mono hS.1) (by decide) rfl rfl ww_485 ww_487 ww_8 ww_23 wC_TG_checkKind mP_TG_checkKind (by decide) rfl hl.1 rfl (Nat.le_of_ble_eq_true rfl) mD_TG_gate_2 ⟨Nat.le_of_ble_eq_true rfl, Nat.le_of_ble_eq_true rfl⟩ (fun x1 H locs hp1 hP _ _ hS => ?_)
  have hq_ := hp1
  rw [hq_] at hP
  refine lv_aload_n hx hb mD_TG_gate_5 rfl (lv_at hl 0 rfl) ?_
  refine lv_iload_n hx hb mD_TG_gate_6 rfl (lv_at hl 2 rfl) ?_
  refine gc_Vr (As := [.int (nI u1)]) (rest := []) hx hb hml hown htw hK hP hS 0 (k_TG_cellOf l D ct ad hI x (q := u1) hu1 (tR_th hR hu1 hut1)) gZ0_ok (fun _ _ _ => trivial) (gA_mono hS.1) (by decide) rfl rfl ww_381 ww_383 ww_5 ww_23 wC_TG_cellOf mP_TG_cellOf (by decide) rfl hl.1 rfl (Nat.le_of_ble_eq_true rfl) mD_TG_gate_7 ⟨Nat.le_of_ble_eq_true rfl, Nat.le_of_ble_eq_true rfl⟩ (fun r4 x3 H locs hp3 hP _ _ hS => ?_)
  obtain ⟨ra, hq_⟩ := hp3
  subst ra
  rw [hq_] at hP
  refine lv_astore (lv' := [(4, .ref (ad ((110 + 2 * u1)))), (0, .ref (ad 0)), (1, .int (nI gt)), (2, .int (nI u1)), (3, .int c_)]) hx hb mD_TG_gate_10 hl (by decide) rfl (fun ls hl => ?_)
  refine lv_aload_n hx hb mD_TG_gate_12 rfl (lv_at hl 1 rfl) ?_
  refine lv_iload_n hx hb mD_TG_gate_13 rfl (lv_at hl 4 rfl) ?_
  refine tx_call (As := [.int c_]) (rest := []) hx hb hml hown htw hK hP hS 0 (x_TG_cellOf l D ct ad hI x hls h0 c_ (fun q => hh ((tR_has hR _).mp q))) (tZ_ok s0) (tZ_at hZ hS) (gA_mono hS.1) (by decide) rfl rfl ww_381 ww_383 ww_5 ww_23 wC_TG_cellOf mP_TG_cellOf (by decide) rfl hl.1 rfl (Nat.le_of_ble_eq_true rfl) mD_TG_gate_14 ⟨Nat.le_of_ble_eq_true rfl, Nat.le_of_ble_eq_true rfl⟩ (fun q ce x5 H locs hp hP _ _ hS hce hcv hcl => ?_)
  exact tx_out hno hlocks hP hS (hp ▸ hR) hce hcv hcl (by decide) (by decide)

set_option maxHeartbeats 4000000 in
set_option maxRecDepth 100000 in
theorem x_TG_gate4 (l : Launch) (D : va_G) (ct : Nat → ClassId) (ad : Nat → Nat) (hI : gw_inj 424 ad) (x : tS) (hls : l.stackTraces = false) {s0 : State} {zt : Nat → Nat} (h0 : tO s0 zt) (α : tA) (hR : tR α x.1) {gt u1 u2 : Nat} (hgt : gt < 8) (hu1 : u1 < 120) (hut1 : aT α u1 = true) (hu2 : u2 < 120) (hut2 : aT α u2 = true) (htoo : tp_far gt (aB α u1) (aB α u2)) : gX l mY_TG_gate mB_TG_gate 7 (some .int) (rX 7 151) D (tT ct) (tZ s0) 424 ad (tD ct ad) [.ref (ad 0), .int (nI gt), .int (nI u1), .int (nI u2)] x tX_S (fun x' => tR (aRefus α) x'.1) := by
  refine gX_enter (by decide) (Nat.le_of_ble_eq_true rfl) ?_
  intro p e s m below meth c ls hx hb hr htw hown hlocks hml hl hP hK hZ hS hno
  have hA : ∀ k, k < 424 → gA 424 ad s.heap.size (ad k) := fun _ h => gA_in h
  have hl : lv_has ls 7 [(0, .ref (ad 0)), (1, .int (nI gt)), (2, .int (nI u1)), (3, .int (nI u2))] := hl
  have hP0 := hP
  refine lv_aload_n hx hb mD_TG_gate_0 rfl (lv_at hl 0 rfl) ?_
  refine lv_iload_n hx hb mD_TG_gate_1 rfl (lv_at hl 1 rfl) ?_
  refine gc_Vv (As := [.int (nI gt)]) (rest := []) hx hb hml hown htw hK hP hS 0 (k_TG_checkKind l D ct ad hI x (q := gt) hgt) gZ0_ok (fun _ _ _ => trivial) (gA_mono hS.1) (by decide) rfl rfl ww_485 ww_487 ww_8 ww_23 wC_TG_checkKind mP_TG_checkKind (by decide) rfl hl.1 rfl (Nat.le_of_ble_eq_true rfl) mD_TG_gate_2 ⟨Nat.le_of_ble_eq_true rfl, Nat.le_of_ble_eq_true rfl⟩ (fun x1 H locs hp1 hP _ _ hS => ?_)
  have hq_ := hp1
  rw [hq_] at hP
  refine lv_aload_n hx hb mD_TG_gate_5 rfl (lv_at hl 0 rfl) ?_
  refine lv_iload_n hx hb mD_TG_gate_6 rfl (lv_at hl 2 rfl) ?_
  refine gc_Vr (As := [.int (nI u1)]) (rest := []) hx hb hml hown htw hK hP hS 0 (k_TG_cellOf l D ct ad hI x (q := u1) hu1 (tR_th hR hu1 hut1)) gZ0_ok (fun _ _ _ => trivial) (gA_mono hS.1) (by decide) rfl rfl ww_381 ww_383 ww_5 ww_23 wC_TG_cellOf mP_TG_cellOf (by decide) rfl hl.1 rfl (Nat.le_of_ble_eq_true rfl) mD_TG_gate_7 ⟨Nat.le_of_ble_eq_true rfl, Nat.le_of_ble_eq_true rfl⟩ (fun r4 x3 H locs hp3 hP _ _ hS => ?_)
  obtain ⟨ra, hq_⟩ := hp3
  subst ra
  rw [hq_] at hP
  refine lv_astore (lv' := [(4, .ref (ad ((110 + 2 * u1)))), (0, .ref (ad 0)), (1, .int (nI gt)), (2, .int (nI u1)), (3, .int (nI u2))]) hx hb mD_TG_gate_10 hl (by decide) rfl (fun ls hl => ?_)
  refine lv_aload_n hx hb mD_TG_gate_12 rfl (lv_at hl 1 rfl) ?_
  refine lv_iload_n hx hb mD_TG_gate_13 rfl (lv_at hl 4 rfl) ?_
  refine gc_Vr (As := [.int (nI u2)]) (rest := []) hx hb hml hown htw hK hP hS 0 (k_TG_cellOf l D ct ad hI x (q := u2) hu2 (tR_th hR hu2 hut2)) gZ0_ok (fun _ _ _ => trivial) (gA_mono hS.1) (by decide) rfl rfl ww_381 ww_383 ww_5 ww_23 wC_TG_cellOf mP_TG_cellOf (by decide) rfl hl.1 rfl (Nat.le_of_ble_eq_true rfl) mD_TG_gate_14 ⟨Nat.le_of_ble_eq_true rfl, Nat.le_of_ble_eq_true rfl⟩ (fun r6 x5 H locs hp5 hP _ _ hS => ?_)
  obtain ⟨ra, hq_⟩ := hp5
  subst ra
  rw [hq_] at hP
  refine lv_astore (lv' := [(5, .ref (ad ((110 + 2 * u2)))), (4, .ref (ad ((110 + 2 * u1)))), (0, .ref (ad 0)), (1, .int (nI gt)), (2, .int (nI u1)), (3, .int (nI u2))]) hx hb mD_TG_gate_17 hl (by decide) rfl (fun ls hl => ?_)
  have w1 := (hR.2.1 u1 hu1).2 hut1
  have w2 := (hR.2.1 u2 hu2).2 hut2
  refine lv_aload_n hx hb mD_TG_gate_19 rfl (lv_at hl 2 rfl) ?_
  refine lv_iload_n hx hb mD_TG_gate_20 rfl (lv_at hl 3 rfl) ?_
  refine lv_aload hx hb mD_TG_gate_21 (lv_at hl 1 rfl) ?_
  refine lv_aload hx hb mD_TG_gate_23 (lv_at hl 0 rfl) ?_
  refine gc_Si (As := [.int (nI gt), .ref (ad ((110 + 2 * u1))), .ref (ad ((110 + 2 * u2)))]) (rest := [.ref (ad 0)]) hx hb hml hown htw hK hP hS (k_TG_isTooFar l D ct ad hI x (gt := gt) hgt (tCe_led hu1) (tCe_led hu2) w1.2.1 w2.2.1 w1.1 w2.1) gZ0_ok (fun _ _ _ => trivial) (gA_mono hS.1) ww_490 ww_491 ww_23 wC_TG_isTooFar mP_TG_isTooFar (by decide) rfl hl.1 rfl (Nat.le_of_ble_eq_true rfl) mD_TG_gate_25 ⟨Nat.le_of_ble_eq_true rfl, Nat.le_of_ble_eq_true rfl⟩ (fun r8 x7 H locs hp7 hP _ _ hS => ?_)
  obtain ⟨hq_, hr_⟩ := hp7
  rw [hq_] at hP
  have er : r8 = nI 1 := by rcases hr_ with ⟨e, _⟩ | ⟨_, h⟩; exact e; exact absurd htoo h
  subst er
  refine tx_call (As := [.int (nI 1)]) (rest := []) hx hb hml hown htw hK hP hS 0 (x_TG_refuseIf l D ct ad hI x hls h0) (tZ_ok s0) (tZ_at hZ hS) (gA_mono hS.1) (by decide) rfl rfl ww_496 ww_498 ww_9 ww_23 wC_TG_refuseIf mP_TG_refuseIf (by decide) rfl hl.1 rfl (Nat.le_of_ble_eq_true rfl) mD_TG_gate_28 ⟨Nat.le_of_ble_eq_true rfl, Nat.le_of_ble_eq_true rfl⟩ (fun q ce x9 H locs hp hP _ _ hS hce hcv hcl => ?_)
  exact tx_out hno hlocks hP hS (tR_ref hR hp) hce hcv hcl (by decide) (by decide)

set_option maxHeartbeats 4000000 in
set_option maxRecDepth 100000 in
theorem x_TG_gate5 (l : Launch) (D : va_G) (ct : Nat → ClassId) (ad : Nat → Nat) (hI : gw_inj 424 ad) (x : tS) (hls : l.stackTraces = false) {s0 : State} {zt : Nat → Nat} (h0 : tO s0 zt) (α : tA) (hR : tR α x.1) {gt u1 u2 : Nat} (hgt : gt < 8) (hu1 : u1 < 120) (hut1 : aT α u1 = true) (hu2 : u2 < 120) (hut2 : aT α u2 = true) (hfar : ¬ tp_far gt (aB α u1) (aB α u2)) (hf : aFull α) : gX l mY_TG_gate mB_TG_gate 7 (some .int) (rX 7 151) D (tT ct) (tZ s0) 424 ad (tD ct ad) [.ref (ad 0), .int (nI gt), .int (nI u1), .int (nI u2)] x tX_S (fun x' => tR α x'.1) := by
  refine gX_enter (by decide) (Nat.le_of_ble_eq_true rfl) ?_
  intro p e s m below meth c ls hx hb hr htw hown hlocks hml hl hP hK hZ hS hno
  have hA : ∀ k, k < 424 → gA 424 ad s.heap.size (ad k) := fun _ h => gA_in h
  have hl : lv_has ls 7 [(0, .ref (ad 0)), (1, .int (nI gt)), (2, .int (nI u1)), (3, .int (nI u2))] := hl
  have hP0 := hP
  refine lv_aload_n hx hb mD_TG_gate_0 rfl (lv_at hl 0 rfl) ?_
  refine lv_iload_n hx hb mD_TG_gate_1 rfl (lv_at hl 1 rfl) ?_
  refine gc_Vv (As := [.int (nI gt)]) (rest := []) hx hb hml hown htw hK hP hS 0 (k_TG_checkKind l D ct ad hI x (q := gt) hgt) gZ0_ok (fun _ _ _ => trivial) (gA_mono hS.1) (by decide) rfl rfl ww_485 ww_487 ww_8 ww_23 wC_TG_checkKind mP_TG_checkKind (by decide) rfl hl.1 rfl (Nat.le_of_ble_eq_true rfl) mD_TG_gate_2 ⟨Nat.le_of_ble_eq_true rfl, Nat.le_of_ble_eq_true rfl⟩ (fun x1 H locs hp1 hP _ _ hS => ?_)
  have hq_ := hp1
  rw [hq_] at hP
  refine lv_aload_n hx hb mD_TG_gate_5 rfl (lv_at hl 0 rfl) ?_
  refine lv_iload_n hx hb mD_TG_gate_6 rfl (lv_at hl 2 rfl) ?_
  refine gc_Vr (As := [.int (nI u1)]) (rest := []) hx hb hml hown htw hK hP hS 0 (k_TG_cellOf l D ct ad hI x (q := u1) hu1 (tR_th hR hu1 hut1)) gZ0_ok (fun _ _ _ => trivial) (gA_mono hS.1) (by decide) rfl rfl ww_381 ww_383 ww_5 ww_23 wC_TG_cellOf mP_TG_cellOf (by decide) rfl hl.1 rfl (Nat.le_of_ble_eq_true rfl) mD_TG_gate_7 ⟨Nat.le_of_ble_eq_true rfl, Nat.le_of_ble_eq_true rfl⟩ (fun r4 x3 H locs hp3 hP _ _ hS => ?_)
  obtain ⟨ra, hq_⟩ := hp3
  subst ra
  rw [hq_] at hP
  refine lv_astore (lv' := [(4, .ref (ad ((110 + 2 * u1)))), (0, .ref (ad 0)), (1, .int (nI gt)), (2, .int (nI u1)), (3, .int (nI u2))]) hx hb mD_TG_gate_10 hl (by decide) rfl (fun ls hl => ?_)
  refine lv_aload_n hx hb mD_TG_gate_12 rfl (lv_at hl 1 rfl) ?_
  refine lv_iload_n hx hb mD_TG_gate_13 rfl (lv_at hl 4 rfl) ?_
  refine gc_Vr (As := [.int (nI u2)]) (rest := []) hx hb hml hown htw hK hP hS 0 (k_TG_cellOf l D ct ad hI x (q := u2) hu2 (tR_th hR hu2 hut2)) gZ0_ok (fun _ _ _ => trivial) (gA_mono hS.1) (by decide) rfl rfl ww_381 ww_383 ww_5 ww_23 wC_TG_cellOf mP_TG_cellOf (by decide) rfl hl.1 rfl (Nat.le_of_ble_eq_true rfl) mD_TG_gate_14 ⟨Nat.le_of_ble_eq_true rfl, Nat.le_of_ble_eq_true rfl⟩ (fun r6 x5 H locs hp5 hP _ _ hS => ?_)
  obtain ⟨ra, hq_⟩ := hp5
  subst ra
  rw [hq_] at hP
  refine lv_astore (lv' := [(5, .ref (ad ((110 + 2 * u2)))), (4, .ref (ad ((110 + 2 * u1)))), (0, .ref (ad 0)), (1, .int (nI gt)), (2, .int (nI u1)), (3, .int (nI u2))]) hx hb mD_TG_gate_17 hl (by decide) rfl (fun ls hl => ?_)
  have w1 := (hR.2.1 u1 hu1).2 hut1
  have w2 := (hR.2.1 u2 hu2).2 hut2
  refine lv_aload_n hx hb mD_TG_gate_19 rfl (lv_at hl 2 rfl) ?_
  refine lv_iload_n hx hb mD_TG_gate_20 rfl (lv_at hl 3 rfl) ?_
  refine lv_aload hx hb mD_TG_gate_21 (lv_at hl 1 rfl) ?_
  refine lv_aload hx hb mD_TG_gate_23 (lv_at hl 0 rfl) ?_
  refine gc_Si (As := [.int (nI gt), .ref (ad ((110 + 2 * u1))), .ref (ad ((110 + 2 * u2)))]) (rest := [.ref (ad 0)]) hx hb hml hown htw hK hP hS (k_TG_isTooFar l D ct ad hI x (gt := gt) hgt (tCe_led hu1) (tCe_led hu2) w1.2.1 w2.2.1 w1.1 w2.1) gZ0_ok (fun _ _ _ => trivial) (gA_mono hS.1) ww_490 ww_491 ww_23 wC_TG_isTooFar mP_TG_isTooFar (by decide) rfl hl.1 rfl (Nat.le_of_ble_eq_true rfl) mD_TG_gate_25 ⟨Nat.le_of_ble_eq_true rfl, Nat.le_of_ble_eq_true rfl⟩ (fun r8 x7 H locs hp7 hP _ _ hS => ?_)
  obtain ⟨hq_, hr_⟩ := hp7
  rw [hq_] at hP
  have er : r8 = nI 0 := by rcases hr_ with ⟨_, h⟩ | ⟨e, _⟩; exact absurd h hfar; exact e
  subst er
  refine gc_Vv (As := [.int (nI 0)]) (rest := []) hx hb hml hown htw hK hP hS 0 (k_TG_refuseIf l D ct ad hI x) gZ0_ok (fun _ _ _ => trivial) (gA_mono hS.1) (by decide) rfl rfl ww_496 ww_498 ww_9 ww_23 wC_TG_refuseIf mP_TG_refuseIf (by decide) rfl hl.1 rfl (Nat.le_of_ble_eq_true rfl) mD_TG_gate_28 ⟨Nat.le_of_ble_eq_true rfl, Nat.le_of_ble_eq_true rfl⟩ (fun x9 H locs hp9 hP _ _ hS => ?_)
  have hq_ := hp9
  rw [hq_] at hP
  refine lv_aload_n hx hb mD_TG_gate_31 rfl (lv_at hl 2 rfl) ?_
  refine tx_call (As := []) (rest := []) hx hb hml hown htw hK hP hS 0 (x_TG_freeNumber l D ct ad hI x hls h0 (tR_fl hR hf)) (tZ_ok s0) (tZ_at hZ hS) (gA_mono hS.1) (by decide) rfl rfl ww_283 ww_285 ww_2 ww_23 wC_TG_freeNumber mP_TG_freeNumber (by decide) rfl hl.1 rfl (Nat.le_of_ble_eq_true rfl) mD_TG_gate_32 ⟨Nat.le_of_ble_eq_true rfl, Nat.le_of_ble_eq_true rfl⟩ (fun q ce x11 H locs hp hP _ _ hS hce hcv hcl => ?_)
  exact tx_out hno hlocks hP hS (hp ▸ hR) hce hcv hcl (by decide) (by decide)

set_option maxHeartbeats 4000000 in
set_option maxRecDepth 100000 in
theorem k_TG_choose (l : Launch) (D : va_G) (ct : Nat → ClassId) (ad : Nat → Nat) (hI : gw_inj 424 ad) (x : tS) {s0 : State} {zt : Nat → Nat} (h0 : tO s0 zt) (α : tA) (hR : tR α x.1) {u1 u2 u3 q : Nat} (hu1 : u1 < 120) (hut1 : aT α u1 = true) (hu2 : u2 < 120) (hut2 : aT α u2 = true) (hu3 : u3 < 120) (hut3 : aT α u3 = true) (hf1 : ¬ tp_far 0 (aB α u1) (aB α u2)) (hf2 : ¬ tp_far 6 (aB α u3) (aB α u1))  (hf : aFree α q) : gMi l mY_TG_choose mB_TG_choose 8 (some .int) (rF 6 151) D (tT ct) (tZ s0) 424 ad (tD ct ad) [.ref (ad 0), .int (nI u1), .int (nI u2), .int (nI u3)] x (fun r x' => r = nI q ∧ tR (aGates (aMade α q (if aV α u1 then aV α u2 else aV α u3) 3186688) (aG α + 3)) x'.1) := by
  refine gMi_enter (by decide) (Nat.le_of_ble_eq_true rfl) ?_
  intro p e s m below meth c ls hx hb hr htw hown hlocks hml hl hP hK hZ hS
  have hA : ∀ k, k < 424 → gA 424 ad s.heap.size (ad k) := fun _ h => gA_in h
  have hl : lv_has ls 8 [(0, .ref (ad 0)), (1, .int (nI u1)), (2, .int (nI u2)), (3, .int (nI u3))] := hl
  refine lv_aload_n hx hb mD_TG_choose_0 rfl (lv_at hl 0 rfl) ?_
  refine lv_iload_n hx hb mD_TG_choose_1 rfl (lv_at hl 1 rfl) ?_
  refine gc_Vr (As := [.int (nI u1)]) (rest := []) hx hb hml hown htw hK hP hS 0 (k_TG_cellOf l D ct ad hI x (q := u1) hu1 (tR_th hR hu1 hut1)) gZ0_ok (fun _ _ _ => trivial) (gA_mono hS.1) (by decide) rfl rfl ww_381 ww_383 ww_5 ww_23 wC_TG_cellOf mP_TG_cellOf (by decide) rfl hl.1 rfl (Nat.le_of_ble_eq_true rfl) mD_TG_choose_2 ⟨Nat.le_of_ble_eq_true rfl, Nat.le_of_ble_eq_true rfl⟩ (fun r2 x1 H locs hp1 hP _ _ hS => ?_)
  obtain ⟨ra, hq_⟩ := hp1
  subst ra
  rw [hq_] at hP
  refine lv_astore (lv' := [(4, .ref (ad ((110 + 2 * u1)))), (0, .ref (ad 0)), (1, .int (nI u1)), (2, .int (nI u2)), (3, .int (nI u3))]) hx hb mD_TG_choose_5 hl (by decide) rfl (fun ls hl => ?_)
  refine lv_aload_n hx hb mD_TG_choose_7 rfl (lv_at hl 1 rfl) ?_
  refine lv_iload_n hx hb mD_TG_choose_8 rfl (lv_at hl 3 rfl) ?_
  refine gc_Vr (As := [.int (nI u2)]) (rest := []) hx hb hml hown htw hK hP hS 0 (k_TG_cellOf l D ct ad hI x (q := u2) hu2 (tR_th hR hu2 hut2)) gZ0_ok (fun _ _ _ => trivial) (gA_mono hS.1) (by decide) rfl rfl ww_381 ww_383 ww_5 ww_23 wC_TG_cellOf mP_TG_cellOf (by decide) rfl hl.1 rfl (Nat.le_of_ble_eq_true rfl) mD_TG_choose_9 ⟨Nat.le_of_ble_eq_true rfl, Nat.le_of_ble_eq_true rfl⟩ (fun r4 x3 H locs hp3 hP _ _ hS => ?_)
  obtain ⟨ra, hq_⟩ := hp3
  subst ra
  rw [hq_] at hP
  refine lv_astore (lv' := [(5, .ref (ad ((110 + 2 * u2)))), (4, .ref (ad ((110 + 2 * u1)))), (0, .ref (ad 0)), (1, .int (nI u1)), (2, .int (nI u2)), (3, .int (nI u3))]) hx hb mD_TG_choose_12 hl (by decide) rfl (fun ls hl => ?_)
  refine lv_aload_n hx hb mD_TG_choose_14 rfl (lv_at hl 2 rfl) ?_
  refine lv_iload_n hx hb mD_TG_choose_15 rfl (lv_at hl 5 rfl) ?_
  refine gc_Vr (As := [.int (nI u3)]) (rest := []) hx hb hml hown htw hK hP hS 0 (k_TG_cellOf l D ct ad hI x (q := u3) hu3 (tR_th hR hu3 hut3)) gZ0_ok (fun _ _ _ => trivial) (gA_mono hS.1) (by decide) rfl rfl ww_381 ww_383 ww_5 ww_23 wC_TG_cellOf mP_TG_cellOf (by decide) rfl hl.1 rfl (Nat.le_of_ble_eq_true rfl) mD_TG_choose_16 ⟨Nat.le_of_ble_eq_true rfl, Nat.le_of_ble_eq_true rfl⟩ (fun r6 x5 H locs hp5 hP _ _ hS => ?_)
  obtain ⟨ra, hq_⟩ := hp5
  subst ra
  rw [hq_] at hP
  refine lv_astore (lv' := [(6, .ref (ad ((110 + 2 * u3)))), (5, .ref (ad ((110 + 2 * u2)))), (4, .ref (ad ((110 + 2 * u1)))), (0, .ref (ad 0)), (1, .int (nI u1)), (2, .int (nI u2)), (3, .int (nI u3))]) hx hb mD_TG_choose_19 hl (by decide) rfl (fun ls hl => ?_)
  have w1 := (hR.2.1 u1 hu1).2 hut1
  have w2 := (hR.2.1 u2 hu2).2 hut2
  have w3 := (hR.2.1 u3 hu3).2 hut3
  refine lv_aload_n hx hb mD_TG_choose_21 rfl (lv_at hl 3 rfl) ?_
  refine lv_iconst (v := nI 0) hx hb mD_TG_choose_22 (by decide) ?_
  refine lv_aload hx hb mD_TG_choose_23 (lv_at hl 2 rfl) ?_
  refine lv_aload hx hb mD_TG_choose_25 (lv_at hl 1 rfl) ?_
  refine gc_Si (As := [.int (nI 0), .ref (ad ((110 + 2 * u1))), .ref (ad ((110 + 2 * u2)))]) (rest := [.ref (ad 0)]) hx hb hml hown htw hK hP hS (k_TG_isTooFar l D ct ad hI x (gt := 0) (by decide) (tCe_led hu1) (tCe_led hu2) w1.2.1 w2.2.1 w1.1 w2.1) gZ0_ok (fun _ _ _ => trivial) (gA_mono hS.1) ww_490 ww_491 ww_23 wC_TG_isTooFar mP_TG_isTooFar (by decide) rfl hl.1 rfl (Nat.le_of_ble_eq_true rfl) mD_TG_choose_27 ⟨Nat.le_of_ble_eq_true rfl, Nat.le_of_ble_eq_true rfl⟩ (fun r8 x7 H locs hp7 hP _ _ hS => ?_)
  obtain ⟨hq_, hr_⟩ := hp7
  rw [hq_] at hP
  have er : r8 = nI 0 := by rcases hr_ with ⟨_, h⟩ | ⟨e, _⟩; exact absurd h hf1; exact e
  subst er
  refine lv_if_ne (tgt := 45) hx hb mD_TG_choose_30 rfl (fun hc => ?_) (fun hc => ?_)
  · skip
    exfalso; exact hc rfl
  · skip
    refine lv_bipush (v := nI 6) hx hb mD_TG_choose_33 (by decide) ?_
    refine lv_aload hx hb mD_TG_choose_35 (lv_at hl 0 rfl) ?_
    refine lv_aload hx hb mD_TG_choose_37 (lv_at hl 2 rfl) ?_
    refine gc_Si (As := [.int (nI 6), .ref (ad ((110 + 2 * u3))), .ref (ad ((110 + 2 * u1)))]) (rest := [.ref (ad 0)]) hx hb hml hown htw hK hP hS (k_TG_isTooFar l D ct ad hI x (gt := 6) (by decide) (tCe_led hu3) (tCe_led hu1) w3.2.1 w1.2.1 w3.1 w1.1) gZ0_ok (fun _ _ _ => trivial) (gA_mono hS.1) ww_490 ww_491 ww_23 wC_TG_isTooFar mP_TG_isTooFar (by decide) rfl hl.1 rfl (Nat.le_of_ble_eq_true rfl) mD_TG_choose_39 ⟨Nat.le_of_ble_eq_true rfl, Nat.le_of_ble_eq_true rfl⟩ (fun r10 x9 H locs hp9 hP _ _ hS => ?_)
    obtain ⟨hq_, hr_⟩ := hp9
    rw [hq_] at hP
    have er : r10 = nI 0 := by rcases hr_ with ⟨_, h⟩ | ⟨e, _⟩; exact absurd h hf2; exact e
    subst er
    refine lv_if_eq (tgt := 49) hx hb mD_TG_choose_42 rfl (fun hc => ?_) (fun hc => ?_)
    · skip
      refine lv_iconst (v := nI 0) hx hb mD_TG_choose_49 (by decide) ?_
      refine gc_Vv (As := [.int (nI 0)]) (rest := []) hx hb hml hown htw hK hP hS 0 (k_TG_refuseIf l D ct ad hI x) gZ0_ok (fun _ _ _ => trivial) (gA_mono hS.1) (by decide) rfl rfl ww_496 ww_498 ww_9 ww_23 wC_TG_refuseIf mP_TG_refuseIf (by decide) rfl hl.1 rfl (Nat.le_of_ble_eq_true rfl) mD_TG_choose_50 ⟨Nat.le_of_ble_eq_true rfl, Nat.le_of_ble_eq_true rfl⟩ (fun x11 H locs hp11 hP _ _ hS => ?_)
      have hq_ := hp11
      rw [hq_] at hP
      refine lv_aload_n hx hb mD_TG_choose_53 rfl (lv_at hl 3 rfl) ?_
      refine gc_Vi (As := []) (rest := []) hx hb hml hown htw hK hP hS 0 (k_TG_freeNumber l D ct ad hI x (q := q) hf.1 (tR_fr hR hf).1 (tR_fr hR hf).2) gZ0_ok (fun _ _ _ => trivial) (gA_mono hS.1) (by decide) rfl rfl ww_283 ww_285 ww_2 ww_23 wC_TG_freeNumber mP_TG_freeNumber (by decide) rfl hl.1 rfl (Nat.le_of_ble_eq_true rfl) mD_TG_choose_54 ⟨Nat.le_of_ble_eq_true rfl, Nat.le_of_ble_eq_true rfl⟩ (fun r14 x13 H locs hp13 hP _ _ hS => ?_)
      obtain ⟨hq_, rfl⟩ := hp13
      rw [hq_] at hP
      refine lv_istore (lv' := [(7, .int (nI q)), (6, .ref (ad ((110 + 2 * u3)))), (5, .ref (ad ((110 + 2 * u2)))), (4, .ref (ad ((110 + 2 * u1)))), (0, .ref (ad 0)), (1, .int (nI u1)), (2, .int (nI u2)), (3, .int (nI u3))]) hx hb mD_TG_choose_57 hl (by decide) rfl (fun ls hl => ?_)
      refine lv_aload_n hx hb mD_TG_choose_59 rfl (lv_at hl 4 rfl) ?_
      refine lv_iconst (v := nI 0) hx hb mD_TG_choose_60 (by decide) ?_
      refine lv_aload hx hb mD_TG_choose_61 (lv_at hl 3 rfl) ?_
      refine lv_aload hx hb mD_TG_choose_63 (lv_at hl 2 rfl) ?_
      refine lv_aload_n hx hb mD_TG_choose_65 rfl (lv_at hl 4 rfl) ?_
      refine t_get (C := cN_TG) (T := cF_TG) (N := 12) (ci := 7) hx hb htw wU_TG hown hK hP 0 (by decide) rfl rfl 7 (by decide) rfl ww_229 rfl mD_TG_choose_66 ?_
      refine gc_Vv (As := [.int (nI 0), .ref (ad ((110 + 2 * u1))), .ref (ad ((110 + 2 * u2))), .ref (ad 419)]) (rest := []) hx hb hml hown htw hK hP hS 0 (k_TG_runGate l D ct ad hI x h0 (gt := 0) (k1 := 110 + 2 * u1) (k2 := 110 + 2 * u2) (kd := 419) (z1 := aV α u1) (z2 := aV α u2) (by decide) (tCe_led hu1) (tCe_led hu2) tc_B (by omega) (by omega) w1.2.2.1 w2.2.2.1 hR.1) (tZ_ok s0) (tZ_at hZ hS) (gA_mono hS.1) (by decide) rfl rfl ww_501 ww_503 ww_10 ww_23 wC_TG_runGate mP_TG_runGate (by decide) rfl hl.1 rfl (Nat.le_of_ble_eq_true rfl) mD_TG_choose_69 ⟨Nat.le_of_ble_eq_true rfl, Nat.le_of_ble_eq_true rfl⟩ (fun x15 H locs hp15 hP _ _ hS => ?_)
      obtain ⟨fr1, ed1, ez1, hg1⟩ := hp15
      have R1 : tR (aGates α (aG α + 1)) x15.1 := tR_gate hR (fun k a1 a2 a3 a4 a5 => fr1 k a1 a2 a3 a4 (by omega) (by omega)) ez1
      have j1 : x15.1 (110 + 2 * u1) = x.1 (110 + 2 * u1) := fr1 _ (by omega) (by omega) (by omega) (by omega) (by omega) (by omega)
      have j3 : x15.1 (110 + 2 * u3) = x.1 (110 + 2 * u3) := fr1 _ (by omega) (by omega) (by omega) (by omega) (by omega) (by omega)
      have j1r : x15.1 (110 + 2 * u1 + 1) = x.1 (110 + 2 * u1 + 1) := fr1 _ (by omega) (by omega) (by omega) (by omega) (by omega) (by omega)
      have j3r : x15.1 (110 + 2 * u3 + 1) = x.1 (110 + 2 * u3 + 1) := fr1 _ (by omega) (by omega) (by omega) (by omega) (by omega) (by omega)
      have jk : x15.1 3 = x.1 3 := fr1 _ (by omega) (by omega) (by omega) (by omega) (by omega) (by omega)
      have N1 := hg1 (aB α u1) (aB α u2) w1.2.2.2 w2.2.2.2 hf1
      refine lv_aload_n hx hb mD_TG_choose_72 rfl (lv_at hl 4 rfl) ?_
      refine lv_bipush (v := nI 6) hx hb mD_TG_choose_73 (by decide) ?_
      refine lv_aload hx hb mD_TG_choose_75 (lv_at hl 1 rfl) ?_
      refine lv_aload hx hb mD_TG_choose_77 (lv_at hl 3 rfl) ?_
      refine lv_aload_n hx hb mD_TG_choose_79 rfl (lv_at hl 4 rfl) ?_
      refine t_get (C := cN_TG) (T := cF_TG) (N := 12) (ci := 7) hx hb htw wU_TG hown hK hP 0 (by decide) rfl rfl 8 (by decide) rfl ww_230 rfl mD_TG_choose_80 ?_
      refine gc_Vv (As := [.int (nI 6), .ref (ad ((110 + 2 * u3))), .ref (ad ((110 + 2 * u1))), .ref (ad 421)]) (rest := []) hx hb hml hown htw hK hP hS 0 (k_TG_runGate l D ct ad hI x15 h0 (gt := 6) (k1 := 110 + 2 * u3) (k2 := 110 + 2 * u1) (kd := 421) (z1 := aV α u3) (z2 := aV α u1) (by decide) (tCe_led hu3) (tCe_led hu1) tc_A (by omega) (by omega) (by rw [j3]; exact w3.2.2.1) (by rw [j1]; exact w1.2.2.1) R1.1) (tZ_ok s0) (tZ_at hZ hS) (gA_mono hS.1) (by decide) rfl rfl ww_501 ww_503 ww_10 ww_23 wC_TG_runGate mP_TG_runGate (by decide) rfl hl.1 rfl (Nat.le_of_ble_eq_true rfl) mD_TG_choose_83 ⟨Nat.le_of_ble_eq_true rfl, Nat.le_of_ble_eq_true rfl⟩ (fun x17 H locs hp17 hP _ _ hS => ?_)
      obtain ⟨fr2, ed2, ez2, hg2⟩ := hp17
      have R2 : tR (aGates α (aG α + 1 + 1)) x17.1 := tR_gate R1 (fun k a1 a2 a3 a4 a5 => fr2 k a1 a2 a3 a4 (by omega) (by omega)) ez2
      have N2 := hg2 (aB α u3) (aB α u1) (by rw [jk, j3r]; exact w3.2.2.2) (by rw [jk, j1r]; exact w1.2.2.2) hf2
      have jk2 : x17.1 3 = x15.1 3 := fr2 _ (by omega) (by omega) (by omega) (by omega) (by omega) (by omega)
      have m1 : x17.1 419 = x15.1 419 := fr2 _ (by omega) (by omega) (by omega) (by omega) (by omega) (by omega)
      have m2 : x17.1 420 = x15.1 420 := fr2 _ (by omega) (by omega) (by omega) (by omega) (by omega) (by omega)
      have N3 : tp_near (x17.1 3) (x17.1 (419 + 1)) (tp_truth 0 (aV α u1) (aV α u2)) 3186688 := by rw [jk2, jk, m2]; exact N1
      have N4 : tp_near (x17.1 3) (x17.1 (421 + 1)) (tp_truth 6 (aV α u3) (aV α u1)) 3186688 := by rw [jk2]; exact N2
      have B1 : x17.1 419 2 = tBi (tp_truth 0 (aV α u1) (aV α u2)) := by rw [m1, ed1, pk_us]
      have B2 : x17.1 421 2 = tBi (tp_truth 6 (aV α u3) (aV α u1)) := by rw [ed2, pk_us]
      refine lv_aload_n hx hb mD_TG_choose_86 rfl (lv_at hl 4 rfl) ?_
      refine lv_iconst (v := nI 1) hx hb mD_TG_choose_87 (by decide) ?_
      refine lv_aload_n hx hb mD_TG_choose_88 rfl (lv_at hl 4 rfl) ?_
      refine t_get (C := cN_TG) (T := cF_TG) (N := 12) (ci := 7) hx hb htw wU_TG hown hK hP 0 (by decide) rfl rfl 7 (by decide) rfl ww_229 rfl mD_TG_choose_89 ?_
      refine lv_aload_n hx hb mD_TG_choose_92 rfl (lv_at hl 4 rfl) ?_
      refine t_get (C := cN_TG) (T := cF_TG) (N := 12) (ci := 7) hx hb htw wU_TG hown hK hP 0 (by decide) rfl rfl 8 (by decide) rfl ww_230 rfl mD_TG_choose_93 ?_
      refine lv_aload_n hx hb mD_TG_choose_96 rfl (lv_at hl 4 rfl) ?_
      refine t_get (C := cN_TG) (T := cF_TG) (N := 12) (ci := 7) hx hb htw wU_TG hown hK hP 0 (by decide) rfl rfl 4 (by decide) rfl ww_226 rfl mD_TG_choose_97 ?_
      refine lv_iload hx hb mD_TG_choose_100 (lv_at hl 0 rfl) ?_
      refine gc_Vr (As := [.int (nI q)]) (rest := [.ref (ad 421), .ref (ad 419), .int (nI 1), .ref (ad 0)]) hx hb hml hown htw hK hP hS 108 (k_Le_take l D ct ad hI x17 (q := q) hf.1) gZ0_ok (fun _ _ _ => trivial) (gA_mono hS.1) (by decide) rfl rfl ww_359 ww_360 ww_361 ww_28 wC_Le_take mP_Le_take (by decide) rfl hl.1 rfl (Nat.le_of_ble_eq_true rfl) mD_TG_choose_102 ⟨Nat.le_of_ble_eq_true rfl, Nat.le_of_ble_eq_true rfl⟩ (fun r20 x19 H locs hp19 hP _ _ hS => ?_)
      obtain ⟨ra, e1⟩ := hp19
      subst ra
      have hq := hf.1
      have f1 : x19.1 419 = x17.1 419 := by rw [e1, va_up_ne _ _ (by omega), va_up_ne _ _ (by omega)]
      have f2 : x19.1 421 = x17.1 421 := by rw [e1, va_up_ne _ _ (by omega), va_up_ne _ _ (by omega)]
      have hk1 : tKey x19.1 := tKey_eq R2.1 (fun k hk => by rw [e1, va_up_ne _ _ (by omega), va_up_ne _ _ (by omega)])
      refine gc_Vv (As := [.int (nI 1), .ref (ad 419), .ref (ad 421), .ref (ad ((110 + 2 * q)))]) (rest := []) hx hb hml hown htw hK hP hS 0 (k_TG_runGate l D ct ad hI x19 h0 (gt := 1) (k1 := 419) (k2 := 421) (kd := 110 + 2 * q) (z1 := tp_truth 0 (aV α u1) (aV α u2)) (z2 := tp_truth 6 (aV α u3) (aV α u1)) (by decide) tc_B tc_A (tCe_led hq) (by omega) (by omega) (by rw [f1]; exact B1) (by rw [f2]; exact B2) hk1) (tZ_ok s0) (tZ_at hZ hS) (gA_mono hS.1) (by decide) rfl rfl ww_501 ww_503 ww_10 ww_23 wC_TG_runGate mP_TG_runGate (by decide) rfl hl.1 rfl (Nat.le_of_ble_eq_true rfl) mD_TG_choose_105 ⟨Nat.le_of_ble_eq_true rfl, Nat.le_of_ble_eq_true rfl⟩ (fun x21 H locs hp21 hP _ _ hS => ?_)
      obtain ⟨fr3, ed3, ez3, hg3⟩ := hp21
      refine lv_iload hx hb mD_TG_choose_108 (lv_at hl 0 rfl) ?_
      exact gw_iret hx hb hr hlocks hP hS (have R3 := tR_gnew R2 hf e1 fr3 ed3 ez3 hg3 (by omega) (by omega) (by omega) (by omega) (by omega) (by omega) N3 N4 tf_small; (by rw [tf_choose] at R3; rw [← ta_3]; exact ⟨rfl, R3⟩)) mD_TG_choose_110 (Nat.zero_le _) (Nat.zero_le _)
    · skip
      exfalso; exact hc rfl

set_option maxHeartbeats 4000000 in
set_option maxRecDepth 100000 in
theorem x_TG_choose1 (l : Launch) (D : va_G) (ct : Nat → ClassId) (ad : Nat → Nat) (hI : gw_inj 424 ad) (x : tS) (hls : l.stackTraces = false) {s0 : State} {zt : Nat → Nat} (h0 : tO s0 zt) (α : tA) (hR : tR α x.1) (a b c_ : Int32) (hh : ¬ aHas α a) : gX l mY_TG_choose mB_TG_choose 8 (some .int) (rX 7 151) D (tT ct) (tZ s0) 424 ad (tD ct ad) [.ref (ad 0), .int a, .int b, .int c_] x tX_N (fun x' => tR α x'.1) := by
  refine gX_enter (by decide) (Nat.le_of_ble_eq_true rfl) ?_
  intro p e s m below meth c ls hx hb hr htw hown hlocks hml hl hP hK hZ hS hno
  have hA : ∀ k, k < 424 → gA 424 ad s.heap.size (ad k) := fun _ h => gA_in h
  have hl : lv_has ls 8 [(0, .ref (ad 0)), (1, .int a), (2, .int b), (3, .int c_)] := hl
  have hP0 := hP
  refine lv_aload_n hx hb mD_TG_choose_0 rfl (lv_at hl 0 rfl) ?_
  refine lv_iload_n hx hb mD_TG_choose_1 rfl (lv_at hl 1 rfl) ?_
  refine tx_call (As := [.int a]) (rest := []) hx hb hml hown htw hK hP hS 0 (x_TG_cellOf l D ct ad hI x hls h0 a (fun q => hh ((tR_has hR _).mp q))) (tZ_ok s0) (tZ_at hZ hS) (gA_mono hS.1) (by decide) rfl rfl ww_381 ww_383 ww_5 ww_23 wC_TG_cellOf mP_TG_cellOf (by decide) rfl hl.1 rfl (Nat.le_of_ble_eq_true rfl) mD_TG_choose_2 ⟨Nat.le_of_ble_eq_true rfl, Nat.le_of_ble_eq_true rfl⟩ (fun q ce x1 H locs hp hP _ _ hS hce hcv hcl => ?_)
  exact tx_out hno hlocks hP hS (hp ▸ hR) hce hcv hcl (by decide) (by decide)

set_option maxHeartbeats 4000000 in
set_option maxRecDepth 100000 in
theorem x_TG_choose2 (l : Launch) (D : va_G) (ct : Nat → ClassId) (ad : Nat → Nat) (hI : gw_inj 424 ad) (x : tS) (hls : l.stackTraces = false) {s0 : State} {zt : Nat → Nat} (h0 : tO s0 zt) (α : tA) (hR : tR α x.1) {u1 : Nat} (hu1 : u1 < 120) (hut1 : aT α u1 = true) (b c_ : Int32) (hh : ¬ aHas α b) : gX l mY_TG_choose mB_TG_choose 8 (some .int) (rX 7 151) D (tT ct) (tZ s0) 424 ad (tD ct ad) [.ref (ad 0), .int (nI u1), .int b, .int c_] x tX_N (fun x' => tR α x'.1) := by
  refine gX_enter (by decide) (Nat.le_of_ble_eq_true rfl) ?_
  intro p e s m below meth c ls hx hb hr htw hown hlocks hml hl hP hK hZ hS hno
  have hA : ∀ k, k < 424 → gA 424 ad s.heap.size (ad k) := fun _ h => gA_in h
  have hl : lv_has ls 8 [(0, .ref (ad 0)), (1, .int (nI u1)), (2, .int b), (3, .int c_)] := hl
  have hP0 := hP
  refine lv_aload_n hx hb mD_TG_choose_0 rfl (lv_at hl 0 rfl) ?_
  refine lv_iload_n hx hb mD_TG_choose_1 rfl (lv_at hl 1 rfl) ?_
  refine gc_Vr (As := [.int (nI u1)]) (rest := []) hx hb hml hown htw hK hP hS 0 (k_TG_cellOf l D ct ad hI x (q := u1) hu1 (tR_th hR hu1 hut1)) gZ0_ok (fun _ _ _ => trivial) (gA_mono hS.1) (by decide) rfl rfl ww_381 ww_383 ww_5 ww_23 wC_TG_cellOf mP_TG_cellOf (by decide) rfl hl.1 rfl (Nat.le_of_ble_eq_true rfl) mD_TG_choose_2 ⟨Nat.le_of_ble_eq_true rfl, Nat.le_of_ble_eq_true rfl⟩ (fun r2 x1 H locs hp1 hP _ _ hS => ?_)
  obtain ⟨ra, hq_⟩ := hp1
  subst ra
  rw [hq_] at hP
  refine lv_astore (lv' := [(4, .ref (ad ((110 + 2 * u1)))), (0, .ref (ad 0)), (1, .int (nI u1)), (2, .int b), (3, .int c_)]) hx hb mD_TG_choose_5 hl (by decide) rfl (fun ls hl => ?_)
  refine lv_aload_n hx hb mD_TG_choose_7 rfl (lv_at hl 1 rfl) ?_
  refine lv_iload_n hx hb mD_TG_choose_8 rfl (lv_at hl 3 rfl) ?_
  refine tx_call (As := [.int b]) (rest := []) hx hb hml hown htw hK hP hS 0 (x_TG_cellOf l D ct ad hI x hls h0 b (fun q => hh ((tR_has hR _).mp q))) (tZ_ok s0) (tZ_at hZ hS) (gA_mono hS.1) (by decide) rfl rfl ww_381 ww_383 ww_5 ww_23 wC_TG_cellOf mP_TG_cellOf (by decide) rfl hl.1 rfl (Nat.le_of_ble_eq_true rfl) mD_TG_choose_9 ⟨Nat.le_of_ble_eq_true rfl, Nat.le_of_ble_eq_true rfl⟩ (fun q ce x3 H locs hp hP _ _ hS hce hcv hcl => ?_)
  exact tx_out hno hlocks hP hS (hp ▸ hR) hce hcv hcl (by decide) (by decide)

set_option maxHeartbeats 4000000 in
set_option maxRecDepth 100000 in
theorem x_TG_choose3 (l : Launch) (D : va_G) (ct : Nat → ClassId) (ad : Nat → Nat) (hI : gw_inj 424 ad) (x : tS) (hls : l.stackTraces = false) {s0 : State} {zt : Nat → Nat} (h0 : tO s0 zt) (α : tA) (hR : tR α x.1) {u1 u2 : Nat} (hu1 : u1 < 120) (hut1 : aT α u1 = true) (hu2 : u2 < 120) (hut2 : aT α u2 = true) (c_ : Int32) (hh : ¬ aHas α c_) : gX l mY_TG_choose mB_TG_choose 8 (some .int) (rX 7 151) D (tT ct) (tZ s0) 424 ad (tD ct ad) [.ref (ad 0), .int (nI u1), .int (nI u2), .int c_] x tX_N (fun x' => tR α x'.1) := by
  refine gX_enter (by decide) (Nat.le_of_ble_eq_true rfl) ?_
  intro p e s m below meth c ls hx hb hr htw hown hlocks hml hl hP hK hZ hS hno
  have hA : ∀ k, k < 424 → gA 424 ad s.heap.size (ad k) := fun _ h => gA_in h
  have hl : lv_has ls 8 [(0, .ref (ad 0)), (1, .int (nI u1)), (2, .int (nI u2)), (3, .int c_)] := hl
  have hP0 := hP
  refine lv_aload_n hx hb mD_TG_choose_0 rfl (lv_at hl 0 rfl) ?_
  refine lv_iload_n hx hb mD_TG_choose_1 rfl (lv_at hl 1 rfl) ?_
  refine gc_Vr (As := [.int (nI u1)]) (rest := []) hx hb hml hown htw hK hP hS 0 (k_TG_cellOf l D ct ad hI x (q := u1) hu1 (tR_th hR hu1 hut1)) gZ0_ok (fun _ _ _ => trivial) (gA_mono hS.1) (by decide) rfl rfl ww_381 ww_383 ww_5 ww_23 wC_TG_cellOf mP_TG_cellOf (by decide) rfl hl.1 rfl (Nat.le_of_ble_eq_true rfl) mD_TG_choose_2 ⟨Nat.le_of_ble_eq_true rfl, Nat.le_of_ble_eq_true rfl⟩ (fun r2 x1 H locs hp1 hP _ _ hS => ?_)
  obtain ⟨ra, hq_⟩ := hp1
  subst ra
  rw [hq_] at hP
  refine lv_astore (lv' := [(4, .ref (ad ((110 + 2 * u1)))), (0, .ref (ad 0)), (1, .int (nI u1)), (2, .int (nI u2)), (3, .int c_)]) hx hb mD_TG_choose_5 hl (by decide) rfl (fun ls hl => ?_)
  refine lv_aload_n hx hb mD_TG_choose_7 rfl (lv_at hl 1 rfl) ?_
  refine lv_iload_n hx hb mD_TG_choose_8 rfl (lv_at hl 3 rfl) ?_
  refine gc_Vr (As := [.int (nI u2)]) (rest := []) hx hb hml hown htw hK hP hS 0 (k_TG_cellOf l D ct ad hI x (q := u2) hu2 (tR_th hR hu2 hut2)) gZ0_ok (fun _ _ _ => trivial) (gA_mono hS.1) (by decide) rfl rfl ww_381 ww_383 ww_5 ww_23 wC_TG_cellOf mP_TG_cellOf (by decide) rfl hl.1 rfl (Nat.le_of_ble_eq_true rfl) mD_TG_choose_9 ⟨Nat.le_of_ble_eq_true rfl, Nat.le_of_ble_eq_true rfl⟩ (fun r4 x3 H locs hp3 hP _ _ hS => ?_)
  obtain ⟨ra, hq_⟩ := hp3
  subst ra
  rw [hq_] at hP
  refine lv_astore (lv' := [(5, .ref (ad ((110 + 2 * u2)))), (4, .ref (ad ((110 + 2 * u1)))), (0, .ref (ad 0)), (1, .int (nI u1)), (2, .int (nI u2)), (3, .int c_)]) hx hb mD_TG_choose_12 hl (by decide) rfl (fun ls hl => ?_)
  refine lv_aload_n hx hb mD_TG_choose_14 rfl (lv_at hl 2 rfl) ?_
  refine lv_iload_n hx hb mD_TG_choose_15 rfl (lv_at hl 5 rfl) ?_
  refine tx_call (As := [.int c_]) (rest := []) hx hb hml hown htw hK hP hS 0 (x_TG_cellOf l D ct ad hI x hls h0 c_ (fun q => hh ((tR_has hR _).mp q))) (tZ_ok s0) (tZ_at hZ hS) (gA_mono hS.1) (by decide) rfl rfl ww_381 ww_383 ww_5 ww_23 wC_TG_cellOf mP_TG_cellOf (by decide) rfl hl.1 rfl (Nat.le_of_ble_eq_true rfl) mD_TG_choose_16 ⟨Nat.le_of_ble_eq_true rfl, Nat.le_of_ble_eq_true rfl⟩ (fun q ce x5 H locs hp hP _ _ hS hce hcv hcl => ?_)
  exact tx_out hno hlocks hP hS (hp ▸ hR) hce hcv hcl (by decide) (by decide)

set_option maxHeartbeats 4000000 in
set_option maxRecDepth 100000 in
theorem x_TG_choose4 (l : Launch) (D : va_G) (ct : Nat → ClassId) (ad : Nat → Nat) (hI : gw_inj 424 ad) (x : tS) (hls : l.stackTraces = false) {s0 : State} {zt : Nat → Nat} (h0 : tO s0 zt) (α : tA) (hR : tR α x.1) {u1 u2 u3 : Nat} (hu1 : u1 < 120) (hut1 : aT α u1 = true) (hu2 : u2 < 120) (hut2 : aT α u2 = true) (hu3 : u3 < 120) (hut3 : aT α u3 = true) (ht1 : tp_far 0 (aB α u1) (aB α u2)) : gX l mY_TG_choose mB_TG_choose 8 (some .int) (rX 7 151) D (tT ct) (tZ s0) 424 ad (tD ct ad) [.ref (ad 0), .int (nI u1), .int (nI u2), .int (nI u3)] x tX_S (fun x' => tR (aRefus α) x'.1) := by
  refine gX_enter (by decide) (Nat.le_of_ble_eq_true rfl) ?_
  intro p e s m below meth c ls hx hb hr htw hown hlocks hml hl hP hK hZ hS hno
  have hA : ∀ k, k < 424 → gA 424 ad s.heap.size (ad k) := fun _ h => gA_in h
  have hl : lv_has ls 8 [(0, .ref (ad 0)), (1, .int (nI u1)), (2, .int (nI u2)), (3, .int (nI u3))] := hl
  have hP0 := hP
  refine lv_aload_n hx hb mD_TG_choose_0 rfl (lv_at hl 0 rfl) ?_
  refine lv_iload_n hx hb mD_TG_choose_1 rfl (lv_at hl 1 rfl) ?_
  refine gc_Vr (As := [.int (nI u1)]) (rest := []) hx hb hml hown htw hK hP hS 0 (k_TG_cellOf l D ct ad hI x (q := u1) hu1 (tR_th hR hu1 hut1)) gZ0_ok (fun _ _ _ => trivial) (gA_mono hS.1) (by decide) rfl rfl ww_381 ww_383 ww_5 ww_23 wC_TG_cellOf mP_TG_cellOf (by decide) rfl hl.1 rfl (Nat.le_of_ble_eq_true rfl) mD_TG_choose_2 ⟨Nat.le_of_ble_eq_true rfl, Nat.le_of_ble_eq_true rfl⟩ (fun r2 x1 H locs hp1 hP _ _ hS => ?_)
  obtain ⟨ra, hq_⟩ := hp1
  subst ra
  rw [hq_] at hP
  refine lv_astore (lv' := [(4, .ref (ad ((110 + 2 * u1)))), (0, .ref (ad 0)), (1, .int (nI u1)), (2, .int (nI u2)), (3, .int (nI u3))]) hx hb mD_TG_choose_5 hl (by decide) rfl (fun ls hl => ?_)
  refine lv_aload_n hx hb mD_TG_choose_7 rfl (lv_at hl 1 rfl) ?_
  refine lv_iload_n hx hb mD_TG_choose_8 rfl (lv_at hl 3 rfl) ?_
  refine gc_Vr (As := [.int (nI u2)]) (rest := []) hx hb hml hown htw hK hP hS 0 (k_TG_cellOf l D ct ad hI x (q := u2) hu2 (tR_th hR hu2 hut2)) gZ0_ok (fun _ _ _ => trivial) (gA_mono hS.1) (by decide) rfl rfl ww_381 ww_383 ww_5 ww_23 wC_TG_cellOf mP_TG_cellOf (by decide) rfl hl.1 rfl (Nat.le_of_ble_eq_true rfl) mD_TG_choose_9 ⟨Nat.le_of_ble_eq_true rfl, Nat.le_of_ble_eq_true rfl⟩ (fun r4 x3 H locs hp3 hP _ _ hS => ?_)
  obtain ⟨ra, hq_⟩ := hp3
  subst ra
  rw [hq_] at hP
  refine lv_astore (lv' := [(5, .ref (ad ((110 + 2 * u2)))), (4, .ref (ad ((110 + 2 * u1)))), (0, .ref (ad 0)), (1, .int (nI u1)), (2, .int (nI u2)), (3, .int (nI u3))]) hx hb mD_TG_choose_12 hl (by decide) rfl (fun ls hl => ?_)
  refine lv_aload_n hx hb mD_TG_choose_14 rfl (lv_at hl 2 rfl) ?_
  refine lv_iload_n hx hb mD_TG_choose_15 rfl (lv_at hl 5 rfl) ?_
  refine gc_Vr (As := [.int (nI u3)]) (rest := []) hx hb hml hown htw hK hP hS 0 (k_TG_cellOf l D ct ad hI x (q := u3) hu3 (tR_th hR hu3 hut3)) gZ0_ok (fun _ _ _ => trivial) (gA_mono hS.1) (by decide) rfl rfl ww_381 ww_383 ww_5 ww_23 wC_TG_cellOf mP_TG_cellOf (by decide) rfl hl.1 rfl (Nat.le_of_ble_eq_true rfl) mD_TG_choose_16 ⟨Nat.le_of_ble_eq_true rfl, Nat.le_of_ble_eq_true rfl⟩ (fun r6 x5 H locs hp5 hP _ _ hS => ?_)
  obtain ⟨ra, hq_⟩ := hp5
  subst ra
  rw [hq_] at hP
  refine lv_astore (lv' := [(6, .ref (ad ((110 + 2 * u3)))), (5, .ref (ad ((110 + 2 * u2)))), (4, .ref (ad ((110 + 2 * u1)))), (0, .ref (ad 0)), (1, .int (nI u1)), (2, .int (nI u2)), (3, .int (nI u3))]) hx hb mD_TG_choose_19 hl (by decide) rfl (fun ls hl => ?_)
  have w1 := (hR.2.1 u1 hu1).2 hut1
  have w2 := (hR.2.1 u2 hu2).2 hut2
  have w3 := (hR.2.1 u3 hu3).2 hut3
  refine lv_aload_n hx hb mD_TG_choose_21 rfl (lv_at hl 3 rfl) ?_
  refine lv_iconst (v := nI 0) hx hb mD_TG_choose_22 (by decide) ?_
  refine lv_aload hx hb mD_TG_choose_23 (lv_at hl 2 rfl) ?_
  refine lv_aload hx hb mD_TG_choose_25 (lv_at hl 1 rfl) ?_
  refine gc_Si (As := [.int (nI 0), .ref (ad ((110 + 2 * u1))), .ref (ad ((110 + 2 * u2)))]) (rest := [.ref (ad 0)]) hx hb hml hown htw hK hP hS (k_TG_isTooFar l D ct ad hI x (gt := 0) (by decide) (tCe_led hu1) (tCe_led hu2) w1.2.1 w2.2.1 w1.1 w2.1) gZ0_ok (fun _ _ _ => trivial) (gA_mono hS.1) ww_490 ww_491 ww_23 wC_TG_isTooFar mP_TG_isTooFar (by decide) rfl hl.1 rfl (Nat.le_of_ble_eq_true rfl) mD_TG_choose_27 ⟨Nat.le_of_ble_eq_true rfl, Nat.le_of_ble_eq_true rfl⟩ (fun r8 x7 H locs hp7 hP _ _ hS => ?_)
  obtain ⟨hq_, hr_⟩ := hp7
  rw [hq_] at hP
  have er : r8 = nI 1 := by rcases hr_ with ⟨e, _⟩ | ⟨_, h⟩; exact e; exact absurd ht1 h
  subst er
  refine lv_if_ne (tgt := 45) hx hb mD_TG_choose_30 rfl (fun hc => ?_) (fun hc => ?_)
  · skip
    refine lv_iconst (v := nI 1) hx hb mD_TG_choose_45 (by decide) ?_
    refine lv_goto (tgt := 50) hx hb mD_TG_choose_46 rfl ?_
    refine tx_call (As := [.int (nI 1)]) (rest := []) hx hb hml hown htw hK hP hS 0 (x_TG_refuseIf l D ct ad hI x hls h0) (tZ_ok s0) (tZ_at hZ hS) (gA_mono hS.1) (by decide) rfl rfl ww_496 ww_498 ww_9 ww_23 wC_TG_refuseIf mP_TG_refuseIf (by decide) rfl hl.1 rfl (Nat.le_of_ble_eq_true rfl) mD_TG_choose_50 ⟨Nat.le_of_ble_eq_true rfl, Nat.le_of_ble_eq_true rfl⟩ (fun q ce x9 H locs hp hP _ _ hS hce hcv hcl => ?_)
    exact tx_out hno hlocks hP hS (tR_ref hR hp) hce hcv hcl (by decide) (by decide)
  · skip
    exfalso; exact absurd hc (by decide)

set_option maxHeartbeats 4000000 in
set_option maxRecDepth 100000 in
theorem x_TG_choose5 (l : Launch) (D : va_G) (ct : Nat → ClassId) (ad : Nat → Nat) (hI : gw_inj 424 ad) (x : tS) (hls : l.stackTraces = false) {s0 : State} {zt : Nat → Nat} (h0 : tO s0 zt) (α : tA) (hR : tR α x.1) {u1 u2 u3 : Nat} (hu1 : u1 < 120) (hut1 : aT α u1 = true) (hu2 : u2 < 120) (hut2 : aT α u2 = true) (hu3 : u3 < 120) (hut3 : aT α u3 = true) (hf1 : ¬ tp_far 0 (aB α u1) (aB α u2)) (ht2 : tp_far 6 (aB α u3) (aB α u1)) : gX l mY_TG_choose mB_TG_choose 8 (some .int) (rX 7 151) D (tT ct) (tZ s0) 424 ad (tD ct ad) [.ref (ad 0), .int (nI u1), .int (nI u2), .int (nI u3)] x tX_S (fun x' => tR (aRefus α) x'.1) := by
  refine gX_enter (by decide) (Nat.le_of_ble_eq_true rfl) ?_
  intro p e s m below meth c ls hx hb hr htw hown hlocks hml hl hP hK hZ hS hno
  have hA : ∀ k, k < 424 → gA 424 ad s.heap.size (ad k) := fun _ h => gA_in h
  have hl : lv_has ls 8 [(0, .ref (ad 0)), (1, .int (nI u1)), (2, .int (nI u2)), (3, .int (nI u3))] := hl
  have hP0 := hP
  refine lv_aload_n hx hb mD_TG_choose_0 rfl (lv_at hl 0 rfl) ?_
  refine lv_iload_n hx hb mD_TG_choose_1 rfl (lv_at hl 1 rfl) ?_
  refine gc_Vr (As := [.int (nI u1)]) (rest := []) hx hb hml hown htw hK hP hS 0 (k_TG_cellOf l D ct ad hI x (q := u1) hu1 (tR_th hR hu1 hut1)) gZ0_ok (fun _ _ _ => trivial) (gA_mono hS.1) (by decide) rfl rfl ww_381 ww_383 ww_5 ww_23 wC_TG_cellOf mP_TG_cellOf (by decide) rfl hl.1 rfl (Nat.le_of_ble_eq_true rfl) mD_TG_choose_2 ⟨Nat.le_of_ble_eq_true rfl, Nat.le_of_ble_eq_true rfl⟩ (fun r2 x1 H locs hp1 hP _ _ hS => ?_)
  obtain ⟨ra, hq_⟩ := hp1
  subst ra
  rw [hq_] at hP
  refine lv_astore (lv' := [(4, .ref (ad ((110 + 2 * u1)))), (0, .ref (ad 0)), (1, .int (nI u1)), (2, .int (nI u2)), (3, .int (nI u3))]) hx hb mD_TG_choose_5 hl (by decide) rfl (fun ls hl => ?_)
  refine lv_aload_n hx hb mD_TG_choose_7 rfl (lv_at hl 1 rfl) ?_
  refine lv_iload_n hx hb mD_TG_choose_8 rfl (lv_at hl 3 rfl) ?_
  refine gc_Vr (As := [.int (nI u2)]) (rest := []) hx hb hml hown htw hK hP hS 0 (k_TG_cellOf l D ct ad hI x (q := u2) hu2 (tR_th hR hu2 hut2)) gZ0_ok (fun _ _ _ => trivial) (gA_mono hS.1) (by decide) rfl rfl ww_381 ww_383 ww_5 ww_23 wC_TG_cellOf mP_TG_cellOf (by decide) rfl hl.1 rfl (Nat.le_of_ble_eq_true rfl) mD_TG_choose_9 ⟨Nat.le_of_ble_eq_true rfl, Nat.le_of_ble_eq_true rfl⟩ (fun r4 x3 H locs hp3 hP _ _ hS => ?_)
  obtain ⟨ra, hq_⟩ := hp3
  subst ra
  rw [hq_] at hP
  refine lv_astore (lv' := [(5, .ref (ad ((110 + 2 * u2)))), (4, .ref (ad ((110 + 2 * u1)))), (0, .ref (ad 0)), (1, .int (nI u1)), (2, .int (nI u2)), (3, .int (nI u3))]) hx hb mD_TG_choose_12 hl (by decide) rfl (fun ls hl => ?_)
  refine lv_aload_n hx hb mD_TG_choose_14 rfl (lv_at hl 2 rfl) ?_
  refine lv_iload_n hx hb mD_TG_choose_15 rfl (lv_at hl 5 rfl) ?_
  refine gc_Vr (As := [.int (nI u3)]) (rest := []) hx hb hml hown htw hK hP hS 0 (k_TG_cellOf l D ct ad hI x (q := u3) hu3 (tR_th hR hu3 hut3)) gZ0_ok (fun _ _ _ => trivial) (gA_mono hS.1) (by decide) rfl rfl ww_381 ww_383 ww_5 ww_23 wC_TG_cellOf mP_TG_cellOf (by decide) rfl hl.1 rfl (Nat.le_of_ble_eq_true rfl) mD_TG_choose_16 ⟨Nat.le_of_ble_eq_true rfl, Nat.le_of_ble_eq_true rfl⟩ (fun r6 x5 H locs hp5 hP _ _ hS => ?_)
  obtain ⟨ra, hq_⟩ := hp5
  subst ra
  rw [hq_] at hP
  refine lv_astore (lv' := [(6, .ref (ad ((110 + 2 * u3)))), (5, .ref (ad ((110 + 2 * u2)))), (4, .ref (ad ((110 + 2 * u1)))), (0, .ref (ad 0)), (1, .int (nI u1)), (2, .int (nI u2)), (3, .int (nI u3))]) hx hb mD_TG_choose_19 hl (by decide) rfl (fun ls hl => ?_)
  have w1 := (hR.2.1 u1 hu1).2 hut1
  have w2 := (hR.2.1 u2 hu2).2 hut2
  have w3 := (hR.2.1 u3 hu3).2 hut3
  refine lv_aload_n hx hb mD_TG_choose_21 rfl (lv_at hl 3 rfl) ?_
  refine lv_iconst (v := nI 0) hx hb mD_TG_choose_22 (by decide) ?_
  refine lv_aload hx hb mD_TG_choose_23 (lv_at hl 2 rfl) ?_
  refine lv_aload hx hb mD_TG_choose_25 (lv_at hl 1 rfl) ?_
  refine gc_Si (As := [.int (nI 0), .ref (ad ((110 + 2 * u1))), .ref (ad ((110 + 2 * u2)))]) (rest := [.ref (ad 0)]) hx hb hml hown htw hK hP hS (k_TG_isTooFar l D ct ad hI x (gt := 0) (by decide) (tCe_led hu1) (tCe_led hu2) w1.2.1 w2.2.1 w1.1 w2.1) gZ0_ok (fun _ _ _ => trivial) (gA_mono hS.1) ww_490 ww_491 ww_23 wC_TG_isTooFar mP_TG_isTooFar (by decide) rfl hl.1 rfl (Nat.le_of_ble_eq_true rfl) mD_TG_choose_27 ⟨Nat.le_of_ble_eq_true rfl, Nat.le_of_ble_eq_true rfl⟩ (fun r8 x7 H locs hp7 hP _ _ hS => ?_)
  obtain ⟨hq_, hr_⟩ := hp7
  rw [hq_] at hP
  have er : r8 = nI 0 := by rcases hr_ with ⟨_, h⟩ | ⟨e, _⟩; exact absurd h hf1; exact e
  subst er
  refine lv_if_ne (tgt := 45) hx hb mD_TG_choose_30 rfl (fun hc => ?_) (fun hc => ?_)
  · skip
    exfalso; exact hc rfl
  · skip
    refine lv_bipush (v := nI 6) hx hb mD_TG_choose_33 (by decide) ?_
    refine lv_aload hx hb mD_TG_choose_35 (lv_at hl 0 rfl) ?_
    refine lv_aload hx hb mD_TG_choose_37 (lv_at hl 2 rfl) ?_
    refine gc_Si (As := [.int (nI 6), .ref (ad ((110 + 2 * u3))), .ref (ad ((110 + 2 * u1)))]) (rest := [.ref (ad 0)]) hx hb hml hown htw hK hP hS (k_TG_isTooFar l D ct ad hI x (gt := 6) (by decide) (tCe_led hu3) (tCe_led hu1) w3.2.1 w1.2.1 w3.1 w1.1) gZ0_ok (fun _ _ _ => trivial) (gA_mono hS.1) ww_490 ww_491 ww_23 wC_TG_isTooFar mP_TG_isTooFar (by decide) rfl hl.1 rfl (Nat.le_of_ble_eq_true rfl) mD_TG_choose_39 ⟨Nat.le_of_ble_eq_true rfl, Nat.le_of_ble_eq_true rfl⟩ (fun r10 x9 H locs hp9 hP _ _ hS => ?_)
    obtain ⟨hq_, hr_⟩ := hp9
    rw [hq_] at hP
    have er : r10 = nI 1 := by rcases hr_ with ⟨e, _⟩ | ⟨_, h⟩; exact e; exact absurd ht2 h
    subst er
    refine lv_if_eq (tgt := 49) hx hb mD_TG_choose_42 rfl (fun hc => ?_) (fun hc => ?_)
    · skip
      exfalso; exact absurd hc (by decide)
    · skip
      refine lv_iconst (v := nI 1) hx hb mD_TG_choose_45 (by decide) ?_
      refine lv_goto (tgt := 50) hx hb mD_TG_choose_46 rfl ?_
      refine tx_call (As := [.int (nI 1)]) (rest := []) hx hb hml hown htw hK hP hS 0 (x_TG_refuseIf l D ct ad hI x hls h0) (tZ_ok s0) (tZ_at hZ hS) (gA_mono hS.1) (by decide) rfl rfl ww_496 ww_498 ww_9 ww_23 wC_TG_refuseIf mP_TG_refuseIf (by decide) rfl hl.1 rfl (Nat.le_of_ble_eq_true rfl) mD_TG_choose_50 ⟨Nat.le_of_ble_eq_true rfl, Nat.le_of_ble_eq_true rfl⟩ (fun q ce x11 H locs hp hP _ _ hS hce hcv hcl => ?_)
      exact tx_out hno hlocks hP hS (tR_ref hR hp) hce hcv hcl (by decide) (by decide)

set_option maxHeartbeats 4000000 in
set_option maxRecDepth 100000 in
theorem x_TG_choose6 (l : Launch) (D : va_G) (ct : Nat → ClassId) (ad : Nat → Nat) (hI : gw_inj 424 ad) (x : tS) (hls : l.stackTraces = false) {s0 : State} {zt : Nat → Nat} (h0 : tO s0 zt) (α : tA) (hR : tR α x.1) {u1 u2 u3 : Nat} (hu1 : u1 < 120) (hut1 : aT α u1 = true) (hu2 : u2 < 120) (hut2 : aT α u2 = true) (hu3 : u3 < 120) (hut3 : aT α u3 = true) (hf1 : ¬ tp_far 0 (aB α u1) (aB α u2)) (hf2 : ¬ tp_far 6 (aB α u3) (aB α u1)) (hf : aFull α) : gX l mY_TG_choose mB_TG_choose 8 (some .int) (rX 7 151) D (tT ct) (tZ s0) 424 ad (tD ct ad) [.ref (ad 0), .int (nI u1), .int (nI u2), .int (nI u3)] x tX_S (fun x' => tR α x'.1) := by
  refine gX_enter (by decide) (Nat.le_of_ble_eq_true rfl) ?_
  intro p e s m below meth c ls hx hb hr htw hown hlocks hml hl hP hK hZ hS hno
  have hA : ∀ k, k < 424 → gA 424 ad s.heap.size (ad k) := fun _ h => gA_in h
  have hl : lv_has ls 8 [(0, .ref (ad 0)), (1, .int (nI u1)), (2, .int (nI u2)), (3, .int (nI u3))] := hl
  have hP0 := hP
  refine lv_aload_n hx hb mD_TG_choose_0 rfl (lv_at hl 0 rfl) ?_
  refine lv_iload_n hx hb mD_TG_choose_1 rfl (lv_at hl 1 rfl) ?_
  refine gc_Vr (As := [.int (nI u1)]) (rest := []) hx hb hml hown htw hK hP hS 0 (k_TG_cellOf l D ct ad hI x (q := u1) hu1 (tR_th hR hu1 hut1)) gZ0_ok (fun _ _ _ => trivial) (gA_mono hS.1) (by decide) rfl rfl ww_381 ww_383 ww_5 ww_23 wC_TG_cellOf mP_TG_cellOf (by decide) rfl hl.1 rfl (Nat.le_of_ble_eq_true rfl) mD_TG_choose_2 ⟨Nat.le_of_ble_eq_true rfl, Nat.le_of_ble_eq_true rfl⟩ (fun r2 x1 H locs hp1 hP _ _ hS => ?_)
  obtain ⟨ra, hq_⟩ := hp1
  subst ra
  rw [hq_] at hP
  refine lv_astore (lv' := [(4, .ref (ad ((110 + 2 * u1)))), (0, .ref (ad 0)), (1, .int (nI u1)), (2, .int (nI u2)), (3, .int (nI u3))]) hx hb mD_TG_choose_5 hl (by decide) rfl (fun ls hl => ?_)
  refine lv_aload_n hx hb mD_TG_choose_7 rfl (lv_at hl 1 rfl) ?_
  refine lv_iload_n hx hb mD_TG_choose_8 rfl (lv_at hl 3 rfl) ?_
  refine gc_Vr (As := [.int (nI u2)]) (rest := []) hx hb hml hown htw hK hP hS 0 (k_TG_cellOf l D ct ad hI x (q := u2) hu2 (tR_th hR hu2 hut2)) gZ0_ok (fun _ _ _ => trivial) (gA_mono hS.1) (by decide) rfl rfl ww_381 ww_383 ww_5 ww_23 wC_TG_cellOf mP_TG_cellOf (by decide) rfl hl.1 rfl (Nat.le_of_ble_eq_true rfl) mD_TG_choose_9 ⟨Nat.le_of_ble_eq_true rfl, Nat.le_of_ble_eq_true rfl⟩ (fun r4 x3 H locs hp3 hP _ _ hS => ?_)
  obtain ⟨ra, hq_⟩ := hp3
  subst ra
  rw [hq_] at hP
  refine lv_astore (lv' := [(5, .ref (ad ((110 + 2 * u2)))), (4, .ref (ad ((110 + 2 * u1)))), (0, .ref (ad 0)), (1, .int (nI u1)), (2, .int (nI u2)), (3, .int (nI u3))]) hx hb mD_TG_choose_12 hl (by decide) rfl (fun ls hl => ?_)
  refine lv_aload_n hx hb mD_TG_choose_14 rfl (lv_at hl 2 rfl) ?_
  refine lv_iload_n hx hb mD_TG_choose_15 rfl (lv_at hl 5 rfl) ?_
  refine gc_Vr (As := [.int (nI u3)]) (rest := []) hx hb hml hown htw hK hP hS 0 (k_TG_cellOf l D ct ad hI x (q := u3) hu3 (tR_th hR hu3 hut3)) gZ0_ok (fun _ _ _ => trivial) (gA_mono hS.1) (by decide) rfl rfl ww_381 ww_383 ww_5 ww_23 wC_TG_cellOf mP_TG_cellOf (by decide) rfl hl.1 rfl (Nat.le_of_ble_eq_true rfl) mD_TG_choose_16 ⟨Nat.le_of_ble_eq_true rfl, Nat.le_of_ble_eq_true rfl⟩ (fun r6 x5 H locs hp5 hP _ _ hS => ?_)
  obtain ⟨ra, hq_⟩ := hp5
  subst ra
  rw [hq_] at hP
  refine lv_astore (lv' := [(6, .ref (ad ((110 + 2 * u3)))), (5, .ref (ad ((110 + 2 * u2)))), (4, .ref (ad ((110 + 2 * u1)))), (0, .ref (ad 0)), (1, .int (nI u1)), (2, .int (nI u2)), (3, .int (nI u3))]) hx hb mD_TG_choose_19 hl (by decide) rfl (fun ls hl => ?_)
  have w1 := (hR.2.1 u1 hu1).2 hut1
  have w2 := (hR.2.1 u2 hu2).2 hut2
  have w3 := (hR.2.1 u3 hu3).2 hut3
  refine lv_aload_n hx hb mD_TG_choose_21 rfl (lv_at hl 3 rfl) ?_
  refine lv_iconst (v := nI 0) hx hb mD_TG_choose_22 (by decide) ?_
  refine lv_aload hx hb mD_TG_choose_23 (lv_at hl 2 rfl) ?_
  refine lv_aload hx hb mD_TG_choose_25 (lv_at hl 1 rfl) ?_
  refine gc_Si (As := [.int (nI 0), .ref (ad ((110 + 2 * u1))), .ref (ad ((110 + 2 * u2)))]) (rest := [.ref (ad 0)]) hx hb hml hown htw hK hP hS (k_TG_isTooFar l D ct ad hI x (gt := 0) (by decide) (tCe_led hu1) (tCe_led hu2) w1.2.1 w2.2.1 w1.1 w2.1) gZ0_ok (fun _ _ _ => trivial) (gA_mono hS.1) ww_490 ww_491 ww_23 wC_TG_isTooFar mP_TG_isTooFar (by decide) rfl hl.1 rfl (Nat.le_of_ble_eq_true rfl) mD_TG_choose_27 ⟨Nat.le_of_ble_eq_true rfl, Nat.le_of_ble_eq_true rfl⟩ (fun r8 x7 H locs hp7 hP _ _ hS => ?_)
  obtain ⟨hq_, hr_⟩ := hp7
  rw [hq_] at hP
  have er : r8 = nI 0 := by rcases hr_ with ⟨_, h⟩ | ⟨e, _⟩; exact absurd h hf1; exact e
  subst er
  refine lv_if_ne (tgt := 45) hx hb mD_TG_choose_30 rfl (fun hc => ?_) (fun hc => ?_)
  · skip
    exfalso; exact hc rfl
  · skip
    refine lv_bipush (v := nI 6) hx hb mD_TG_choose_33 (by decide) ?_
    refine lv_aload hx hb mD_TG_choose_35 (lv_at hl 0 rfl) ?_
    refine lv_aload hx hb mD_TG_choose_37 (lv_at hl 2 rfl) ?_
    refine gc_Si (As := [.int (nI 6), .ref (ad ((110 + 2 * u3))), .ref (ad ((110 + 2 * u1)))]) (rest := [.ref (ad 0)]) hx hb hml hown htw hK hP hS (k_TG_isTooFar l D ct ad hI x (gt := 6) (by decide) (tCe_led hu3) (tCe_led hu1) w3.2.1 w1.2.1 w3.1 w1.1) gZ0_ok (fun _ _ _ => trivial) (gA_mono hS.1) ww_490 ww_491 ww_23 wC_TG_isTooFar mP_TG_isTooFar (by decide) rfl hl.1 rfl (Nat.le_of_ble_eq_true rfl) mD_TG_choose_39 ⟨Nat.le_of_ble_eq_true rfl, Nat.le_of_ble_eq_true rfl⟩ (fun r10 x9 H locs hp9 hP _ _ hS => ?_)
    obtain ⟨hq_, hr_⟩ := hp9
    rw [hq_] at hP
    have er : r10 = nI 0 := by rcases hr_ with ⟨_, h⟩ | ⟨e, _⟩; exact absurd h hf2; exact e
    subst er
    refine lv_if_eq (tgt := 49) hx hb mD_TG_choose_42 rfl (fun hc => ?_) (fun hc => ?_)
    · skip
      refine lv_iconst (v := nI 0) hx hb mD_TG_choose_49 (by decide) ?_
      refine gc_Vv (As := [.int (nI 0)]) (rest := []) hx hb hml hown htw hK hP hS 0 (k_TG_refuseIf l D ct ad hI x) gZ0_ok (fun _ _ _ => trivial) (gA_mono hS.1) (by decide) rfl rfl ww_496 ww_498 ww_9 ww_23 wC_TG_refuseIf mP_TG_refuseIf (by decide) rfl hl.1 rfl (Nat.le_of_ble_eq_true rfl) mD_TG_choose_50 ⟨Nat.le_of_ble_eq_true rfl, Nat.le_of_ble_eq_true rfl⟩ (fun x11 H locs hp11 hP _ _ hS => ?_)
      have hq_ := hp11
      rw [hq_] at hP
      refine lv_aload_n hx hb mD_TG_choose_53 rfl (lv_at hl 3 rfl) ?_
      refine tx_call (As := []) (rest := []) hx hb hml hown htw hK hP hS 0 (x_TG_freeNumber l D ct ad hI x hls h0 (tR_fl hR hf)) (tZ_ok s0) (tZ_at hZ hS) (gA_mono hS.1) (by decide) rfl rfl ww_283 ww_285 ww_2 ww_23 wC_TG_freeNumber mP_TG_freeNumber (by decide) rfl hl.1 rfl (Nat.le_of_ble_eq_true rfl) mD_TG_choose_54 ⟨Nat.le_of_ble_eq_true rfl, Nat.le_of_ble_eq_true rfl⟩ (fun q ce x13 H locs hp hP _ _ hS hce hcv hcl => ?_)
      exact tx_out hno hlocks hP hS (hp ▸ hR) hce hcv hcl (by decide) (by decide)
    · skip
      exfalso; exact hc rfl
