/-! TorusGates' private methods, second part: runGate, and those that may throw. Laid by wip/whole/part_tg2.py. -/
theorem tc_far {k : Nat} (h : tCe k) : tFar (k + 1) := ⟨tCe_row h, by unfold tCe at h; omega⟩
theorem tc_ne {k : Nat} (h : tCe k) : k ≠ 0 ∧ k ≠ 104 ∧ k ≠ 105 ∧ k ≠ 107 ∧ k + 1 ≠ 0 ∧ k + 1 ≠ 104 ∧ k + 1 ≠ 105 ∧ k + 1 ≠ 107 ∧ k ≠ 3 ∧ k + 1 ≠ 3 ∧ 104 ≤ k := by unfold tCe at h; omega
theorem tc_apart {k j : Nat} (h : tCe k) (h' : tCe j) : k ≠ j + 1 := by unfold tCe at h h'; omega

set_option maxHeartbeats 4000000 in
set_option maxRecDepth 100000 in
theorem k_TG_runGate (l : Launch) (D : va_G) (ct : Nat → ClassId) (ad : Nat → Nat) (hI : gw_inj 424 ad) (x : tS) {s0 : State} {zt : Nat → Nat} (h0 : tO s0 zt) {gt k1 k2 kd : Nat} {z1 z2 : Bool} (hgt : gt < 8) (hk1 : tCe k1) (hk2 : tCe k2) (hkd : tCe kd) (hn1 : k1 ≠ kd) (hn2 : k2 ≠ kd) (d1 : x.1 k1 2 = tBi z1) (d2 : x.1 k2 2 = tBi z2) (hk : tKey x.1) : gMv l mY_TG_runGate mB_TG_runGate 5 none (rF 5 127) D (tT ct) (tZ s0) 424 ad (tD ct ad) [.ref (ad 0), .int (nI gt), .ref (ad k1), .ref (ad k2), .ref (ad kd)] x (fun x' => (∀ k, k ≠ 0 → k ≠ 104 → k ≠ 105 → k ≠ 107 → k ≠ kd → k ≠ kd + 1 → x'.1 k = x.1 k) ∧ x'.1 kd = upd (upd (x.1 kd) 1 3186688) 2 (tBi (tp_truth gt z1 z2)) ∧ x'.1 0 = upd (x.1 0) 10 (x.1 0 10 + 1) ∧ ∀ b1 b2 : Nat, tp_near (x.1 3) (x.1 (k1 + 1)) z1 b1 → tp_near (x.1 3) (x.1 (k2 + 1)) z2 b2 → ¬ tp_far gt b1 b2 → tp_near (x.1 3) (x'.1 (kd + 1)) (tp_truth gt z1 z2) 3186688) := by
  refine gMv_enter (by decide) (Nat.le_of_ble_eq_true rfl) ?_
  intro p e s m below meth c ls hx hb hr htw hown hlocks hml hl hP hK hZ hS
  have hA : ∀ k, k < 424 → gA 424 ad s.heap.size (ad k) := fun _ h => gA_in h
  have hl : lv_has ls 5 [(0, .ref (ad 0)), (1, .int (nI gt)), (2, .ref (ad k1)), (3, .ref (ad k2)), (4, .ref (ad kd))] := hl
  refine lv_aload_n hx hb mD_TG_runGate_0 rfl (lv_at hl 0 rfl) ?_
  refine t_get (C := cN_TG) (T := cF_TG) (N := 12) (ci := 7) hx hb htw wU_TG hown hK hP 0 (by decide) rfl rfl 3 (by decide) rfl ww_225 rfl mD_TG_runGate_1 ?_
  refine lv_iload_n hx hb mD_TG_runGate_4 rfl (lv_at hl 1 rfl) ?_
  refine lv_aload_n hx hb mD_TG_runGate_5 rfl (lv_at hl 2 rfl) ?_
  refine t_get (C := cN_Ce) (T := cF_Ce) (N := 4) (ci := 0) hx hb htw wU_Ce hown hK hP k1 (tCe_lt hk1) (tE_cell hk1) rfl 0 (by decide) rfl ww_123 rfl mD_TG_runGate_6 ?_
  refine lv_aload_n hx hb mD_TG_runGate_9 rfl (lv_at hl 3 rfl) ?_
  refine t_get (C := cN_Ce) (T := cF_Ce) (N := 4) (ci := 0) hx hb htw wU_Ce hown hK hP k2 (tCe_lt hk2) (tE_cell hk2) rfl 0 (by decide) rfl ww_123 rfl mD_TG_runGate_10 ?_
  refine lv_aload hx hb mD_TG_runGate_13 (lv_at hl 4 rfl) ?_
  refine t_get (C := cN_Ce) (T := cF_Ce) (N := 4) (ci := 0) hx hb htw wU_Ce hown hK hP kd (tCe_lt hkd) (tE_cell hkd) rfl 0 (by decide) rfl ww_123 rfl mD_TG_runGate_15 ?_
  refine gc_Vv (As := [.int (nI gt), .ref (ad ((k1 + 1))), .ref (ad ((k2 + 1))), .ref (ad ((kd + 1)))]) (rest := []) hx hb hml hown htw hK hP hS 106 (k_Wo_work l D ct ad hI x h0 (gt := gt) (k1 := k1 + 1) (k2 := k2 + 1) (kd := kd + 1) hgt (tCe_row hk1) (tCe_row hk2) (tc_far hkd) (tc_ne hk1).2.2.2.2.2.2.2.1 (tc_ne hk2).2.2.2.2.2.2.2.1 hk) (tZ_ok s0) (tZ_at hZ hS) (gA_mono hS.1) (by decide) rfl rfl ww_505 ww_506 ww_507 ww_27 wC_Wo_work mP_Wo_work (by decide) rfl hl.1 rfl (Nat.le_of_ble_eq_true rfl) mD_TG_runGate_18 ⟨Nat.le_of_ble_eq_true rfl, Nat.le_of_ble_eq_true rfl⟩ (fun x1 H locs hp1 hP _ _ hS => ?_)
  obtain ⟨g0, gc, gw0, g, eg, hg⟩ := hp1
  refine lv_aload hx hb mD_TG_runGate_21 (lv_at hl 4 rfl) ?_
  refine lv_ldc hx hb hown (htw _ ww_553) mD_TG_runGate_23 ?_
  refine t_put (C := cN_Ce) (T := cF_Ce) (N := 4) (ci := 0) hx hb htw wU_Ce cT_Ce cO_Ce cM_Ce hown hK hI hA hP hS kd (tCe_lt hkd) (tE_cell hkd) rfl 1 (by decide) rfl ww_125 rfl rfl rfl (Nat.le_of_ble_eq_true rfl) (by rw [tE_cell hkd]; rfl) mD_TG_runGate_25 (fun H locs hP hS => ?_)
  obtain ⟨x3, hx3⟩ : ∃ z_, z_ = tU x1 kd (upd (x1.1 kd) 1 ((3186688 : Int32))) := ⟨_, rfl⟩
  rw [← hx3] at hP
  refine lv_aload hx hb mD_TG_runGate_28 (lv_at hl 4 rfl) ?_
  refine lv_iload_n hx hb mD_TG_runGate_30 rfl (lv_at hl 1 rfl) ?_
  refine lv_aload_n hx hb mD_TG_runGate_31 rfl (lv_at hl 2 rfl) ?_
  refine t_get (C := cN_Ce) (T := cF_Ce) (N := 4) (ci := 0) hx hb htw wU_Ce hown hK hP k1 (tCe_lt hk1) (tE_cell hk1) rfl 2 (by decide) rfl ww_128 rfl mD_TG_runGate_32 ?_
  refine lv_aload_n hx hb mD_TG_runGate_35 rfl (lv_at hl 3 rfl) ?_
  refine t_get (C := cN_Ce) (T := cF_Ce) (N := 4) (ci := 0) hx hb htw wU_Ce hown hK hP k2 (tCe_lt hk2) (tE_cell hk2) rfl 2 (by decide) rfl ww_128 rfl mD_TG_runGate_36 ?_
  have q1 : x3.1 k1 2 = tBi z1 := by rw [hx3, tU_n hn1, eg, va_up_ne _ _ (tc_apart hk1 hkd), va_up_ne _ _ (tc_ne hk1).2.1, va_up_ne _ _ (tc_ne hk1).2.2.1, va_up_ne _ _ (tc_ne hk1).2.2.2.1]; exact d1
  have q2 : x3.1 k2 2 = tBi z2 := by rw [hx3, tU_n hn2, eg, va_up_ne _ _ (tc_apart hk2 hkd), va_up_ne _ _ (tc_ne hk2).2.1, va_up_ne _ _ (tc_ne hk2).2.2.1, va_up_ne _ _ (tc_ne hk2).2.2.2.1]; exact d2
  rw [q1, q2]
  refine gc_Si (As := [.int (nI gt), .int (tBi z1), .int (tBi z2)]) (rest := [.ref (ad kd)]) hx hb hml hown htw hK hP hS (k_TG_truth l D ct ad hI x3 hgt z1 z2) gZ0_ok (fun _ _ _ => trivial) (gA_mono hS.1) ww_554 ww_555 ww_23 wC_TG_truth mP_TG_truth (by decide) rfl hl.1 rfl (Nat.le_of_ble_eq_true rfl) mD_TG_runGate_39 ⟨Nat.le_of_ble_eq_true rfl, Nat.le_of_ble_eq_true rfl⟩ (fun r5 x4 H locs hp4 hP _ _ hS => ?_)
  obtain ⟨hq_, rfl⟩ := hp4
  rw [hq_] at hP
  refine t_put (C := cN_Ce) (T := cF_Ce) (N := 4) (ci := 0) hx hb htw wU_Ce cT_Ce cO_Ce cM_Ce hown hK hI hA hP hS kd (tCe_lt hkd) (tE_cell hkd) rfl 2 (by decide) rfl ww_128 rfl (tb_nar (tBi_bit _)).1 (tb_nar (tBi_bit _)).2 (Nat.le_of_ble_eq_true rfl) (by rw [tE_cell hkd]; rfl) mD_TG_runGate_42 (fun H locs hP hS => ?_)
  obtain ⟨x6, hx6⟩ : ∃ z_, z_ = tU x3 kd (upd (x3.1 kd) 2 (tBi (tp_truth gt z1 z2))) := ⟨_, rfl⟩
  rw [← hx6] at hP
  refine lv_aload_n hx hb mD_TG_runGate_45 rfl (lv_at hl 0 rfl) ?_
  refine lv_dup hx hb mD_TG_runGate_46 rfl ?_
  refine t_get (C := cN_TG) (T := cF_TG) (N := 12) (ci := 7) hx hb htw wU_TG hown hK hP 0 (by decide) rfl rfl 10 (by decide) rfl ww_232 rfl mD_TG_runGate_47 ?_
  refine lv_iconst (v := nI 1) hx hb mD_TG_runGate_50 (by decide) ?_
  refine lv_iadd hx hb mD_TG_runGate_51 ?_
  refine t_put (C := cN_TG) (T := cF_TG) (N := 12) (ci := 7) hx hb htw wU_TG cT_TG cO_TG cM_TG hown hK hI hA hP hS 0 (by decide) rfl rfl 10 (by decide) rfl ww_232 rfl rfl rfl (Nat.le_of_ble_eq_true rfl) rfl mD_TG_runGate_52 (fun H locs hP hS => ?_)
  obtain ⟨x7, hx7⟩ : ∃ z_, z_ = tU x6 0 (upd (x6.1 0) 10 ((x6.1 0 10) + (nI 1))) := ⟨_, rfl⟩
  rw [← hx7] at hP
  exact gw_vret hx hb hr hlocks hP hS (have en : ∀ k, k ≠ 0 → k ≠ 104 → k ≠ 105 → k ≠ 107 → k ≠ kd → k ≠ kd + 1 → x7.1 k = x.1 k := (fun k a1 a2 a3 a4 a5 a6 => by rw [hx7, tU_n a1, hx6, tU_n a5, hx3, tU_n a5, eg, va_up_ne _ _ a6, va_up_ne _ _ a2, va_up_ne _ _ a3, va_up_ne _ _ a4]); have ew : ∀ k, k ≠ 104 → k ≠ 105 → k ≠ 107 → k ≠ kd + 1 → x1.1 k = x.1 k := (fun k a2 a3 a4 a6 => by rw [eg, va_up_ne _ _ a6, va_up_ne _ _ a2, va_up_ne _ _ a3, va_up_ne _ _ a4]); ⟨en, by rw [hx7, tU_n (tc_ne hkd).1, hx6, tU_1, hx3, tU_1, ew kd (tc_ne hkd).2.1 (tc_ne hkd).2.2.1 (tc_ne hkd).2.2.2.1 (Nat.ne_of_lt (Nat.lt_succ_self _))], by rw [hx7, tU_1, hx6, tU_n (tc_ne hkd).1.symm, hx3, tU_n (tc_ne hkd).1.symm, ew 0 (by decide) (by decide) (by decide) (tc_ne hkd).2.2.2.2.1.symm]; rfl, fun b1 b2 q1 q2 q3 => by rw [hx7, tU_n (tc_ne hkd).2.2.2.2.1, hx6, tU_n (Nat.ne_of_gt (Nat.lt_succ_self _)), hx3, tU_n (Nat.ne_of_gt (Nat.lt_succ_self _)), eg, va_up_self]; exact hg z1 z2 b1 b2 q1 q2 q3⟩) mD_TG_runGate_55 (Nat.zero_le _) (Nat.zero_le _)

set_option maxHeartbeats 4000000 in
set_option maxRecDepth 100000 in
theorem k_TG_cellOf (l : Launch) (D : va_G) (ct : Nat → ClassId) (ad : Nat → Nat) (hI : gw_inj 424 ad) (x : tS) {q : Nat} (hq : q < 120) (hh : x.1 (110 + 2 * q) 3 ≠ 0) : gMr l mY_TG_cellOf mB_TG_cellOf 2 (some (.object "TorusGates$Cell")) (rF 1 21) D (tT ct) gZ0 424 ad (tD ct ad) [.ref (ad 0), .int (nI q)] x (fun a x' => a = ad (110 + 2 * q) ∧ x' = x) := by
  refine gMr_enter (by decide) (Nat.le_of_ble_eq_true rfl) ?_
  intro p e s m below meth c ls hx hb hr htw hown hlocks hml hl hP hK hZ hS
  have hA : ∀ k, k < 424 → gA 424 ad s.heap.size (ad k) := fun _ h => gA_in h
  have hl : lv_has ls 2 [(0, .ref (ad 0)), (1, .int (nI q))] := hl
  refine lv_aload_n hx hb mD_TG_cellOf_0 rfl (lv_at hl 0 rfl) ?_
  refine t_get (C := cN_TG) (T := cF_TG) (N := 12) (ci := 7) hx hb htw wU_TG hown hK hP 0 (by decide) rfl rfl 4 (by decide) rfl ww_226 rfl mD_TG_cellOf_1 ?_
  refine lv_iload_n hx hb mD_TG_cellOf_4 rfl (lv_at hl 1 rfl) ?_
  refine gc_Vi (As := [.int (nI q)]) (rest := []) hx hb hml hown htw hK hP hS 108 (k_Le_holds l D ct ad hI x (nI q)) gZ0_ok (fun _ _ _ => trivial) (gA_mono hS.1) (by decide) rfl rfl ww_385 ww_386 ww_387 ww_28 wC_Le_holds mP_Le_holds (by decide) rfl hl.1 rfl (Nat.le_of_ble_eq_true rfl) mD_TG_cellOf_5 ⟨Nat.le_of_ble_eq_true rfl, Nat.le_of_ble_eq_true rfl⟩ (fun r2 x1 H locs hp1 hP _ _ hS => ?_)
  obtain ⟨hq_, hr_⟩ := hp1
  rw [hq_] at hP
  refine lv_if_ne (tgt := 21) hx hb mD_TG_cellOf_8 rfl (fun hc => ?_) (fun hc => ?_)
  · skip
    refine lv_aload_n hx hb mD_TG_cellOf_21 rfl (lv_at hl 0 rfl) ?_
    refine t_get (C := cN_TG) (T := cF_TG) (N := 12) (ci := 7) hx hb htw wU_TG hown hK hP 0 (by decide) rfl rfl 4 (by decide) rfl ww_226 rfl mD_TG_cellOf_22 ?_
    refine t_get (C := cN_Le) (T := cF_Le) (N := 2) (ci := 2) hx hb htw wU_Le hown hK hP 108 (by decide) rfl rfl 0 (by decide) rfl ww_140 rfl mD_TG_cellOf_25 ?_
    refine lv_iload_n hx hb mD_TG_cellOf_28 rfl (lv_at hl 1 rfl) ?_
    refine t_aldq hx hb hK hP 109 120 (by decide) rfl q rfl hq (by decide) rfl mD_TG_cellOf_29 ?_
    exact gw_aret hx hb hr hlocks hP hS (⟨rfl, rfl⟩) mD_TG_cellOf_30 (Nat.zero_le _) (Nat.zero_le _)
  · skip
    exfalso; rcases hr_ with ⟨e, _⟩ | ⟨_, h⟩; exact absurd (e.symm.trans hc) (by decide); exact h ((tHas_i hq).mpr hh)

set_option maxHeartbeats 4000000 in
set_option maxRecDepth 100000 in
theorem x_TG_cellOf (l : Launch) (D : va_G) (ct : Nat → ClassId) (ad : Nat → Nat) (hI : gw_inj 424 ad) (x : tS) (hls : l.stackTraces = false) {s0 : State} {zt : Nat → Nat} (h0 : tO s0 zt) (a : Int32) (hh : ¬ tHas x.1 a) : gX l mY_TG_cellOf mB_TG_cellOf 2 (some (.object "TorusGates$Cell")) (rX 6 82) D (tT ct) (tZ s0) 424 ad (tD ct ad) [.ref (ad 0), .int a] x tX_N (fun x' => x' = x) := by
  refine gX_enter (by decide) (Nat.le_of_ble_eq_true rfl) ?_
  intro p e s m below meth c ls hx hb hr htw hown hlocks hml hl hP hK hZ hS hno
  have hA : ∀ k, k < 424 → gA 424 ad s.heap.size (ad k) := fun _ h => gA_in h
  have hl : lv_has ls 2 [(0, .ref (ad 0)), (1, .int a)] := hl
  have hP0 := hP
  refine lv_aload_n hx hb mD_TG_cellOf_0 rfl (lv_at hl 0 rfl) ?_
  refine t_get (C := cN_TG) (T := cF_TG) (N := 12) (ci := 7) hx hb htw wU_TG hown hK hP 0 (by decide) rfl rfl 4 (by decide) rfl ww_226 rfl mD_TG_cellOf_1 ?_
  refine lv_iload_n hx hb mD_TG_cellOf_4 rfl (lv_at hl 1 rfl) ?_
  refine gc_Vi (As := [.int a]) (rest := []) hx hb hml hown htw hK hP hS 108 (k_Le_holds l D ct ad hI x a) gZ0_ok (fun _ _ _ => trivial) (gA_mono hS.1) (by decide) rfl rfl ww_385 ww_386 ww_387 ww_28 wC_Le_holds mP_Le_holds (by decide) rfl hl.1 rfl (Nat.le_of_ble_eq_true rfl) mD_TG_cellOf_5 ⟨Nat.le_of_ble_eq_true rfl, Nat.le_of_ble_eq_true rfl⟩ (fun r2 x1 H locs hp1 hP _ _ hS => ?_)
  obtain ⟨hq_, hr_⟩ := hp1
  rw [hq_] at hP
  refine lv_if_ne (tgt := 21) hx hb mD_TG_cellOf_8 rfl (fun hc => ?_) (fun hc => ?_)
  · skip
    exfalso; rcases hr_ with ⟨_, h⟩ | ⟨e, _⟩; exact hh h; exact hc e
  · skip
    obtain ⟨sa, hsa⟩ := tO_str h0 hZ 1 rfl
    exact tx_thN hx hb (hl.1.trans hml.symm) hown hls hno hlocks h0 hZ hsa hP0 hP hS (rfl) (by decide) (by decide) (by decide) (by decide) (by decide) (by decide) mD_TG_cellOf_11 mD_TG_cellOf_14 mD_TG_cellOf_15 mD_TG_cellOf_17 mD_TG_cellOf_20

theorem tf_uniq {v : Nat → Nat → Int32} {q r : Nat} (h1 : v (110 + 2 * q) 3 = 0) (h2 : ∀ j, j < q → v (110 + 2 * j) 3 ≠ 0) (h3 : v (110 + 2 * r) 3 = 0) (h4 : ∀ j, j < r → v (110 + 2 * j) 3 ≠ 0) : r = q := by
  rcases Nat.lt_trichotomy r q with h | h | h
  · exact absurd h3 (h2 r h)
  · exact h
  · exact absurd h1 (h4 q h)
theorem tf_m1 {q : Nat} (h : q < 2 ^ 31) : ¬ nI q = (-1 : Int32) := by
  intro e
  have h1 := congrArg Int32.toInt e
  rw [nI_toInt h] at h1
  have h2 : (-1 : Int32).toInt = -1 := by decide
  omega

set_option maxHeartbeats 4000000 in
set_option maxRecDepth 100000 in
theorem k_TG_freeNumber (l : Launch) (D : va_G) (ct : Nat → ClassId) (ad : Nat → Nat) (hI : gw_inj 424 ad) (x : tS) {q : Nat} (hq : q < 120) (hf : x.1 (110 + 2 * q) 3 = 0) (hm : ∀ j, j < q → x.1 (110 + 2 * j) 3 ≠ 0) : gMi l mY_TG_freeNumber mB_TG_freeNumber 2 (some .int) (rF 1 21) D (tT ct) gZ0 424 ad (tD ct ad) [.ref (ad 0)] x (fun r x' => x' = x ∧ r = nI q) := by
  refine gMi_enter (by decide) (Nat.le_of_ble_eq_true rfl) ?_
  intro p e s m below meth c ls hx hb hr htw hown hlocks hml hl hP hK hZ hS
  have hA : ∀ k, k < 424 → gA 424 ad s.heap.size (ad k) := fun _ h => gA_in h
  have hl : lv_has ls 2 [(0, .ref (ad 0))] := hl
  refine lv_aload_n hx hb mD_TG_freeNumber_0 rfl (lv_at hl 0 rfl) ?_
  refine t_get (C := cN_TG) (T := cF_TG) (N := 12) (ci := 7) hx hb htw wU_TG hown hK hP 0 (by decide) rfl rfl 4 (by decide) rfl ww_226 rfl mD_TG_freeNumber_1 ?_
  refine gc_Vi (As := []) (rest := []) hx hb hml hown htw hK hP hS 108 (k_Le_leastFree l D ct ad hI x) gZ0_ok (fun _ _ _ => trivial) (gA_mono hS.1) (by decide) rfl rfl ww_287 ww_288 ww_289 ww_28 wC_Le_leastFree mP_Le_leastFree (by decide) rfl hl.1 rfl (Nat.le_of_ble_eq_true rfl) mD_TG_freeNumber_4 ⟨Nat.le_of_ble_eq_true rfl, Nat.le_of_ble_eq_true rfl⟩ (fun r2 x1 H locs hp1 hP _ _ hS => ?_)
  obtain ⟨hq_, hr_⟩ := hp1
  rw [hq_] at hP
  have er : r2 = nI q := by rcases hr_ with ⟨r0, hr0, e, h1, h2⟩ | ⟨_, h1⟩; rw [e, tf_uniq hf hm h1 h2]; exact absurd hf (h1 q hq)
  subst er
  refine lv_istore_n (lv' := [(1, .int (nI q)), (0, .ref (ad 0))]) hx hb mD_TG_freeNumber_7 rfl hl (by decide) rfl (fun ls hl => ?_)
  refine lv_iload_n hx hb mD_TG_freeNumber_8 rfl (lv_at hl 0 rfl) ?_
  refine lv_iconst (v := (-1)) hx hb mD_TG_freeNumber_9 (by decide) ?_
  refine lv_icmp_ne (tgt := 23) hx hb mD_TG_freeNumber_10 rfl (fun hc => ?_) (fun hc => ?_)
  · skip
    refine lv_iload_n hx hb mD_TG_freeNumber_23 rfl (lv_at hl 0 rfl) ?_
    exact gw_iret hx hb hr hlocks hP hS (⟨rfl, rfl⟩) mD_TG_freeNumber_24 (Nat.zero_le _) (Nat.zero_le _)
  · skip
    exfalso; exact tf_m1 (by omega) hc

set_option maxHeartbeats 4000000 in
set_option maxRecDepth 100000 in
theorem x_TG_freeNumber (l : Launch) (D : va_G) (ct : Nat → ClassId) (ad : Nat → Nat) (hI : gw_inj 424 ad) (x : tS) (hls : l.stackTraces = false) {s0 : State} {zt : Nat → Nat} (h0 : tO s0 zt) (hm : ∀ j, j < 120 → x.1 (110 + 2 * j) 3 ≠ 0) : gX l mY_TG_freeNumber mB_TG_freeNumber 2 (some .int) (rX 6 82) D (tT ct) (tZ s0) 424 ad (tD ct ad) [.ref (ad 0)] x tX_S (fun x' => x' = x) := by
  refine gX_enter (by decide) (Nat.le_of_ble_eq_true rfl) ?_
  intro p e s m below meth c ls hx hb hr htw hown hlocks hml hl hP hK hZ hS hno
  have hA : ∀ k, k < 424 → gA 424 ad s.heap.size (ad k) := fun _ h => gA_in h
  have hl : lv_has ls 2 [(0, .ref (ad 0))] := hl
  have hP0 := hP
  refine lv_aload_n hx hb mD_TG_freeNumber_0 rfl (lv_at hl 0 rfl) ?_
  refine t_get (C := cN_TG) (T := cF_TG) (N := 12) (ci := 7) hx hb htw wU_TG hown hK hP 0 (by decide) rfl rfl 4 (by decide) rfl ww_226 rfl mD_TG_freeNumber_1 ?_
  refine gc_Vi (As := []) (rest := []) hx hb hml hown htw hK hP hS 108 (k_Le_leastFree l D ct ad hI x) gZ0_ok (fun _ _ _ => trivial) (gA_mono hS.1) (by decide) rfl rfl ww_287 ww_288 ww_289 ww_28 wC_Le_leastFree mP_Le_leastFree (by decide) rfl hl.1 rfl (Nat.le_of_ble_eq_true rfl) mD_TG_freeNumber_4 ⟨Nat.le_of_ble_eq_true rfl, Nat.le_of_ble_eq_true rfl⟩ (fun r2 x1 H locs hp1 hP _ _ hS => ?_)
  obtain ⟨hq_, hr_⟩ := hp1
  rw [hq_] at hP
  have er : r2 = (-1 : Int32) := by rcases hr_ with ⟨r0, hr0, e, h1, h2⟩ | ⟨e, _⟩; exact absurd h1 (hm r0 hr0); exact e
  subst er
  refine lv_istore_n (lv' := [(1, .int ((-1 : Int32))), (0, .ref (ad 0))]) hx hb mD_TG_freeNumber_7 rfl hl (by decide) rfl (fun ls hl => ?_)
  refine lv_iload_n hx hb mD_TG_freeNumber_8 rfl (lv_at hl 0 rfl) ?_
  refine lv_iconst (v := (-1)) hx hb mD_TG_freeNumber_9 (by decide) ?_
  refine lv_icmp_ne (tgt := 23) hx hb mD_TG_freeNumber_10 rfl (fun hc => ?_) (fun hc => ?_)
  · skip
    exfalso; exact hc rfl
  · skip
    obtain ⟨sa, hsa⟩ := tO_str h0 hZ 0 rfl
    exact tx_thS hx hb (hl.1.trans hml.symm) hown hls hno hlocks h0 hZ hsa hP0 hP hS (rfl) (by decide) (by decide) (by decide) (by decide) (by decide) (by decide) mD_TG_freeNumber_13 mD_TG_freeNumber_16 mD_TG_freeNumber_17 mD_TG_freeNumber_19 mD_TG_freeNumber_22

set_option maxHeartbeats 4000000 in
set_option maxRecDepth 100000 in
theorem k_TG_checkKind (l : Launch) (D : va_G) (ct : Nat → ClassId) (ad : Nat → Nat) (hI : gw_inj 424 ad) (x : tS) {q : Nat} (hq : q < 8) : gMv l mY_TG_checkKind mB_TG_checkKind 2 none (rF 0 0) D (tT ct) gZ0 424 ad (tD ct ad) [.ref (ad 0), .int (nI q)] x (fun x' => x' = x) := by
  refine gMv_enter (by decide) (Nat.le_of_ble_eq_true rfl) ?_
  intro p e s m below meth c ls hx hb hr htw hown hlocks hml hl hP hK hZ hS
  have hA : ∀ k, k < 424 → gA 424 ad s.heap.size (ad k) := fun _ h => gA_in h
  have hl : lv_has ls 2 [(0, .ref (ad 0)), (1, .int (nI q))] := hl
  refine lv_iload_n hx hb mD_TG_checkKind_0 rfl (lv_at hl 1 rfl) ?_
  refine lv_if_lt (tgt := 10) hx hb mD_TG_checkKind_1 rfl (fun hc => ?_) (fun hc => ?_)
  · skip
    exfalso; exact nI_pos (by omega) hc
  · skip
    refine lv_iload_n hx hb mD_TG_checkKind_4 rfl (lv_at hl 1 rfl) ?_
    refine lv_bipush (v := nI 7) hx hb mD_TG_checkKind_5 (by decide) ?_
    refine lv_icmp_le (tgt := 20) hx hb mD_TG_checkKind_7 rfl (fun hc => ?_) (fun hc => ?_)
    · skip
      exact gw_vret hx hb hr hlocks hP hS (rfl) mD_TG_checkKind_20 (Nat.zero_le _) (Nat.zero_le _)
    · skip
      exfalso; exact hc ((nI_leI (by omega) (by omega)).mpr (by omega))

theorem tk_rng {a : Int32} {N : Nat} (hN : N < 2 ^ 30) (h0 : ¬ a < 0) (h1 : a ≤ nI N) : ∃ q, q ≤ N ∧ a = nI q := by
  obtain ⟨q, h2, h3⟩ := tb_idx (N := N + 1) (by omega) h0 (fun z => by
    have h4 := Int32.le_iff_toInt_le.mp h1
    have h5 := Int32.le_iff_toInt_le.mp z
    rw [nI_toInt (by omega)] at h4 h5
    omega)
  exact ⟨q, by omega, h3⟩

set_option maxHeartbeats 4000000 in
set_option maxRecDepth 100000 in
theorem x_TG_checkKind (l : Launch) (D : va_G) (ct : Nat → ClassId) (ad : Nat → Nat) (hI : gw_inj 424 ad) (x : tS) (hls : l.stackTraces = false) {s0 : State} {zt : Nat → Nat} (h0 : tO s0 zt) (a : Int32) (hh : ¬ ∃ q, q < 8 ∧ a = nI q) : gX l mY_TG_checkKind mB_TG_checkKind 2 none (rX 6 82) D (tT ct) (tZ s0) 424 ad (tD ct ad) [.ref (ad 0), .int a] x tX_N (fun x' => x' = x) := by
  refine gX_enter (by decide) (Nat.le_of_ble_eq_true rfl) ?_
  intro p e s m below meth c ls hx hb hr htw hown hlocks hml hl hP hK hZ hS hno
  have hA : ∀ k, k < 424 → gA 424 ad s.heap.size (ad k) := fun _ h => gA_in h
  have hl : lv_has ls 2 [(0, .ref (ad 0)), (1, .int a)] := hl
  have hP0 := hP
  refine lv_iload_n hx hb mD_TG_checkKind_0 rfl (lv_at hl 1 rfl) ?_
  refine lv_if_lt (tgt := 10) hx hb mD_TG_checkKind_1 rfl (fun h1 => ?_) (fun h1 => ?_)
  · skip
    obtain ⟨sa, hsa⟩ := tO_str h0 hZ 4 rfl
    exact tx_thN hx hb (hl.1.trans hml.symm) hown hls hno hlocks h0 hZ hsa hP0 hP hS (rfl) (by decide) (by decide) (by decide) (by decide) (by decide) (by decide) mD_TG_checkKind_10 mD_TG_checkKind_13 mD_TG_checkKind_14 mD_TG_checkKind_16 mD_TG_checkKind_19
  · skip
    refine lv_iload_n hx hb mD_TG_checkKind_4 rfl (lv_at hl 1 rfl) ?_
    refine lv_bipush (v := nI 7) hx hb mD_TG_checkKind_5 (by decide) ?_
    refine lv_icmp_le (tgt := 20) hx hb mD_TG_checkKind_7 rfl (fun h2 => ?_) (fun h2 => ?_)
    · skip
      exfalso; obtain ⟨q, z1, z2⟩ := tk_rng (by decide) h1 h2; exact hh ⟨q, by omega, z2⟩
    · skip
      obtain ⟨sa, hsa⟩ := tO_str h0 hZ 4 rfl
      exact tx_thN hx hb (hl.1.trans hml.symm) hown hls hno hlocks h0 hZ hsa hP0 hP hS (rfl) (by decide) (by decide) (by decide) (by decide) (by decide) (by decide) mD_TG_checkKind_10 mD_TG_checkKind_13 mD_TG_checkKind_14 mD_TG_checkKind_16 mD_TG_checkKind_19

set_option maxHeartbeats 4000000 in
set_option maxRecDepth 100000 in
theorem k_TG_checkRange (l : Launch) (D : va_G) (ct : Nat → ClassId) (ad : Nat → Nat) (hI : gw_inj 424 ad) (x : tS) {q N : Nat} (hq : q ≤ N) (hN : N < 2 ^ 30) : gMv l mY_TG_checkRange mB_TG_checkRange 3 none (rF 0 0) D (tT ct) gZ0 424 ad (tD ct ad) [.ref (ad 0), .int (nI q), .int (nI N)] x (fun x' => x' = x) := by
  refine gMv_enter (by decide) (Nat.le_of_ble_eq_true rfl) ?_
  intro p e s m below meth c ls hx hb hr htw hown hlocks hml hl hP hK hZ hS
  have hA : ∀ k, k < 424 → gA 424 ad s.heap.size (ad k) := fun _ h => gA_in h
  have hl : lv_has ls 3 [(0, .ref (ad 0)), (1, .int (nI q)), (2, .int (nI N))] := hl
  refine lv_iload_n hx hb mD_TG_checkRange_0 rfl (lv_at hl 1 rfl) ?_
  refine lv_if_lt (tgt := 9) hx hb mD_TG_checkRange_1 rfl (fun hc => ?_) (fun hc => ?_)
  · skip
    exfalso; exact nI_pos (by omega) hc
  · skip
    refine lv_iload_n hx hb mD_TG_checkRange_4 rfl (lv_at hl 1 rfl) ?_
    refine lv_iload_n hx hb mD_TG_checkRange_5 rfl (lv_at hl 2 rfl) ?_
    refine lv_icmp_le (tgt := 19) hx hb mD_TG_checkRange_6 rfl (fun hc => ?_) (fun hc => ?_)
    · skip
      exact gw_vret hx hb hr hlocks hP hS (rfl) mD_TG_checkRange_19 (Nat.zero_le _) (Nat.zero_le _)
    · skip
      exfalso; exact hc ((nI_leI (by omega) (by omega)).mpr (by omega))

set_option maxHeartbeats 4000000 in
set_option maxRecDepth 100000 in
theorem x_TG_checkRange (l : Launch) (D : va_G) (ct : Nat → ClassId) (ad : Nat → Nat) (hI : gw_inj 424 ad) (x : tS) (hls : l.stackTraces = false) {s0 : State} {zt : Nat → Nat} (h0 : tO s0 zt) (a : Int32) {N : Nat} (hN : N < 2 ^ 30) (hh : ¬ ∃ q, q ≤ N ∧ a = nI q) : gX l mY_TG_checkRange mB_TG_checkRange 3 none (rX 6 82) D (tT ct) (tZ s0) 424 ad (tD ct ad) [.ref (ad 0), .int a, .int (nI N)] x tX_A (fun x' => x' = x) := by
  refine gX_enter (by decide) (Nat.le_of_ble_eq_true rfl) ?_
  intro p e s m below meth c ls hx hb hr htw hown hlocks hml hl hP hK hZ hS hno
  have hA : ∀ k, k < 424 → gA 424 ad s.heap.size (ad k) := fun _ h => gA_in h
  have hl : lv_has ls 3 [(0, .ref (ad 0)), (1, .int a), (2, .int (nI N))] := hl
  have hP0 := hP
  refine lv_iload_n hx hb mD_TG_checkRange_0 rfl (lv_at hl 1 rfl) ?_
  refine lv_if_lt (tgt := 9) hx hb mD_TG_checkRange_1 rfl (fun h1 => ?_) (fun h1 => ?_)
  · skip
    obtain ⟨sa, hsa⟩ := tO_str h0 hZ 2 rfl
    exact tx_thA hx hb (hl.1.trans hml.symm) hown hls hno hlocks h0 hZ hsa hP0 hP hS (rfl) (by decide) (by decide) (by decide) (by decide) (by decide) (by decide) mD_TG_checkRange_9 mD_TG_checkRange_12 mD_TG_checkRange_13 mD_TG_checkRange_15 mD_TG_checkRange_18
  · skip
    refine lv_iload_n hx hb mD_TG_checkRange_4 rfl (lv_at hl 1 rfl) ?_
    refine lv_iload_n hx hb mD_TG_checkRange_5 rfl (lv_at hl 2 rfl) ?_
    refine lv_icmp_le (tgt := 19) hx hb mD_TG_checkRange_6 rfl (fun h2 => ?_) (fun h2 => ?_)
    · skip
      exfalso; exact hh (tk_rng hN h1 h2)
    · skip
      obtain ⟨sa, hsa⟩ := tO_str h0 hZ 2 rfl
      exact tx_thA hx hb (hl.1.trans hml.symm) hown hls hno hlocks h0 hZ hsa hP0 hP hS (rfl) (by decide) (by decide) (by decide) (by decide) (by decide) (by decide) mD_TG_checkRange_9 mD_TG_checkRange_12 mD_TG_checkRange_13 mD_TG_checkRange_15 mD_TG_checkRange_18

set_option maxHeartbeats 4000000 in
set_option maxRecDepth 100000 in
theorem k_TG_checkedBound (l : Launch) (D : va_G) (ct : Nat → ClassId) (ad : Nat → Nat) (hI : gw_inj 424 ad) (x : tS) {q : Nat} (hq : q < 1073741824) : gMi l mY_TG_checkedBound mB_TG_checkedBound 3 (some .int) (rF 0 0) D (tT ct) gZ0 424 ad (tD ct ad) [.ref (ad 0), .long (lN q)] x (fun r x' => x' = x ∧ r = nI q) := by
  refine gMi_enter (by decide) (Nat.le_of_ble_eq_true rfl) ?_
  intro p e s m below meth c ls hx hb hr htw hown hlocks hml hl hP hK hZ hS
  have hA : ∀ k, k < 424 → gA 424 ad s.heap.size (ad k) := fun _ h => gA_in h
  have hl : lv_has ls 3 [(0, .ref (ad 0)), (1, .long (lN q))] := hl
  refine lv_lload_n hx hb mD_TG_checkedBound_0 rfl (lv_at hl 1 rfl) ?_
  refine lv_ldc2 hx hb hown (htw _ ww_464) mD_TG_checkedBound_1 ?_
  refine W.lcmp hx hb mD_TG_checkedBound_4 ?_
  refine lv_if_lt (tgt := 18) hx hb mD_TG_checkedBound_5 rfl (fun hc => ?_) (fun hc => ?_)
  · skip
    refine lv_lload_n hx hb mD_TG_checkedBound_18 rfl (lv_at hl 1 rfl) ?_
    refine lv_l2i hx hb mD_TG_checkedBound_19 rfl ?_
    exact gw_iret hx hb hr hlocks hP hS (⟨rfl, lN_i q⟩) mD_TG_checkedBound_20 (Nat.zero_le _) (Nat.zero_le _)
  · skip
    exfalso; exact hc ((tl_ltn (m := 1073741824) (by omega) (by decide)).mpr hq)

set_option maxHeartbeats 4000000 in
set_option maxRecDepth 100000 in
theorem x_TG_checkedBound (l : Launch) (D : va_G) (ct : Nat → ClassId) (ad : Nat → Nat) (hI : gw_inj 424 ad) (x : tS) (hls : l.stackTraces = false) {s0 : State} {zt : Nat → Nat} (h0 : tO s0 zt) {q : Nat} (hq : 1073741824 ≤ q) (hq2 : q < 2 ^ 62) : gX l mY_TG_checkedBound mB_TG_checkedBound 3 (some .int) (rX 6 82) D (tT ct) (tZ s0) 424 ad (tD ct ad) [.ref (ad 0), .long (lN q)] x tX_S (fun x' => x' = x) := by
  refine gX_enter (by decide) (Nat.le_of_ble_eq_true rfl) ?_
  intro p e s m below meth c ls hx hb hr htw hown hlocks hml hl hP hK hZ hS hno
  have hA : ∀ k, k < 424 → gA 424 ad s.heap.size (ad k) := fun _ h => gA_in h
  have hl : lv_has ls 3 [(0, .ref (ad 0)), (1, .long (lN q))] := hl
  have hP0 := hP
  refine lv_lload_n hx hb mD_TG_checkedBound_0 rfl (lv_at hl 1 rfl) ?_
  refine lv_ldc2 hx hb hown (htw _ ww_464) mD_TG_checkedBound_1 ?_
  refine W.lcmp hx hb mD_TG_checkedBound_4 ?_
  refine lv_if_lt (tgt := 18) hx hb mD_TG_checkedBound_5 rfl (fun hc => ?_) (fun hc => ?_)
  · skip
    exfalso; have := (tl_ltn (m := 1073741824) hq2 (by decide)).mp hc; omega
  · skip
    obtain ⟨sa, hsa⟩ := tO_str h0 hZ 3 rfl
    exact tx_thS hx hb (hl.1.trans hml.symm) hown hls hno hlocks h0 hZ hsa hP0 hP hS (rfl) (by decide) (by decide) (by decide) (by decide) (by decide) (by decide) mD_TG_checkedBound_8 mD_TG_checkedBound_11 mD_TG_checkedBound_12 mD_TG_checkedBound_14 mD_TG_checkedBound_17

set_option maxHeartbeats 4000000 in
set_option maxRecDepth 100000 in
theorem k_TG_refuseIf (l : Launch) (D : va_G) (ct : Nat → ClassId) (ad : Nat → Nat) (hI : gw_inj 424 ad) (x : tS)  : gMv l mY_TG_refuseIf mB_TG_refuseIf 2 none (rF 0 0) D (tT ct) gZ0 424 ad (tD ct ad) [.ref (ad 0), .int (nI 0)] x (fun x' => x' = x) := by
  refine gMv_enter (by decide) (Nat.le_of_ble_eq_true rfl) ?_
  intro p e s m below meth c ls hx hb hr htw hown hlocks hml hl hP hK hZ hS
  have hA : ∀ k, k < 424 → gA 424 ad s.heap.size (ad k) := fun _ h => gA_in h
  have hl : lv_has ls 2 [(0, .ref (ad 0)), (1, .int (nI 0))] := hl
  refine lv_iload_n hx hb mD_TG_refuseIf_0 rfl (lv_at hl 1 rfl) ?_
  refine lv_if_eq (tgt := 24) hx hb mD_TG_refuseIf_1 rfl (fun hc => ?_) (fun hc => ?_)
  · skip
    exact gw_vret hx hb hr hlocks hP hS (rfl) mD_TG_refuseIf_24 (Nat.zero_le _) (Nat.zero_le _)
  · skip
    exfalso; exact hc rfl

set_option maxHeartbeats 4000000 in
set_option maxRecDepth 100000 in
theorem x_TG_refuseIf (l : Launch) (D : va_G) (ct : Nat → ClassId) (ad : Nat → Nat) (hI : gw_inj 424 ad) (x : tS) (hls : l.stackTraces = false) {s0 : State} {zt : Nat → Nat} (h0 : tO s0 zt)  : gX l mY_TG_refuseIf mB_TG_refuseIf 2 none (rX 6 82) D (tT ct) (tZ s0) 424 ad (tD ct ad) [.ref (ad 0), .int (nI 1)] x tX_S (fun x' => x'.1 = va_up x.1 0 (upd (x.1 0) 11 (x.1 0 11 + 1))) := by
  refine gX_enter (by decide) (Nat.le_of_ble_eq_true rfl) ?_
  intro p e s m below meth c ls hx hb hr htw hown hlocks hml hl hP hK hZ hS hno
  have hA : ∀ k, k < 424 → gA 424 ad s.heap.size (ad k) := fun _ h => gA_in h
  have hl : lv_has ls 2 [(0, .ref (ad 0)), (1, .int (nI 1))] := hl
  have hP0 := hP
  refine lv_iload_n hx hb mD_TG_refuseIf_0 rfl (lv_at hl 1 rfl) ?_
  refine lv_if_eq (tgt := 24) hx hb mD_TG_refuseIf_1 rfl (fun hc => ?_) (fun hc => ?_)
  · skip
    exfalso; exact absurd hc (by decide)
  · skip
    refine lv_aload_n hx hb mD_TG_refuseIf_4 rfl (lv_at hl 0 rfl) ?_
    refine lv_dup hx hb mD_TG_refuseIf_5 rfl ?_
    refine t_get (C := cN_TG) (T := cF_TG) (N := 12) (ci := 7) hx hb htw wU_TG hown hK hP 0 (by decide) rfl rfl 11 (by decide) rfl ww_233 rfl mD_TG_refuseIf_6 ?_
    refine lv_iconst (v := nI 1) hx hb mD_TG_refuseIf_9 (by decide) ?_
    refine lv_iadd hx hb mD_TG_refuseIf_10 ?_
    refine t_put (C := cN_TG) (T := cF_TG) (N := 12) (ci := 7) hx hb htw wU_TG cT_TG cO_TG cM_TG hown hK hI hA hP hS 0 (by decide) rfl rfl 11 (by decide) rfl ww_233 rfl rfl rfl (Nat.le_of_ble_eq_true rfl) rfl mD_TG_refuseIf_11 (fun H locs hP hS => ?_)
    obtain ⟨x1, hx1⟩ : ∃ z_, z_ = tU x 0 (upd (x.1 0) 11 ((x.1 0 11) + (nI 1))) := ⟨_, rfl⟩
    rw [← hx1] at hP
    obtain ⟨sa, hsa⟩ := tO_str h0 hZ 5 rfl
    exact tx_thS hx hb (hl.1.trans hml.symm) hown hls hno hlocks h0 hZ hsa hP0 hP hS (by rw [hx1]; rfl) (by decide) (by decide) (by decide) (by decide) (by decide) (by decide) mD_TG_refuseIf_14 mD_TG_refuseIf_17 mD_TG_refuseIf_18 mD_TG_refuseIf_20 mD_TG_refuseIf_23
