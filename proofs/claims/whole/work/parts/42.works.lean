/-! Works.work: a gate over two rows. Laid by wip/whole/part_works.py. -/

set_option maxHeartbeats 4000000 in
set_option maxRecDepth 100000 in
theorem k_Wo_work (l : Launch) (D : va_G) (ct : Nat → ClassId) (ad : Nat → Nat) (hI : gw_inj 424 ad) (x : tS) {s0 : State} {zt : Nat → Nat} (h0 : tO s0 zt) {gt k1 k2 kd : Nat} (hgt : gt < 8) (hk1 : tRow k1) (hk2 : tRow k2) (hkd : tFar kd) (hn1 : k1 ≠ 107) (hn2 : k2 ≠ 107) (hk : tKey x.1) : gMv l mY_Wo_work mB_Wo_work 6 none (rF 4 102) D (tT ct) (tZ s0) 424 ad (tD ct ad) [.ref (ad 106), .int (nI gt), .ref (ad k1), .ref (ad k2), .ref (ad kd)] x (fun x' => ∃ g0 gc gw g, x'.1 = va_up (va_up (va_up (va_up x.1 107 g0) 105 gc) 104 gw) kd g ∧ ∀ (v1 v2 : Bool) (b1 b2 : Nat), tp_near (x.1 3) (x.1 k1) v1 b1 → tp_near (x.1 3) (x.1 k2) v2 b2 → ¬ tp_far gt b1 b2 → tp_near (x.1 3) g (tp_truth gt v1 v2) 3186688) := by
  refine gMv_enter (by decide) (Nat.le_of_ble_eq_true rfl) ?_
  intro p e s m below meth c ls hx hb hr htw hown hlocks hml hl hP hK hZ hS
  have hA : ∀ k, k < 424 → gA 424 ad s.heap.size (ad k) := fun _ h => gA_in h
  have hl : lv_has ls 6 [(0, .ref (ad 106)), (1, .int (nI gt)), (2, .ref (ad k1)), (3, .ref (ad k2)), (4, .ref (ad kd))] := hl
  refine gw_nmQ (fun Q hQ => ?_)
  refine lv_iconst (v := nI 0) hx hb mD_Wo_work_0 (by decide) ?_
  refine lv_istore (lv' := [(5, .int (nI 0)), (0, .ref (ad 106)), (1, .int (nI gt)), (2, .ref (ad k1)), (3, .ref (ad k2)), (4, .ref (ad kd))]) hx hb mD_Wo_work_1 hl (by decide) rfl (fun ls hl => ?_)
  have loop : ∀ (d3 : Nat) (n : Nat) (y : tS) (H : Heap) (locs : List Loc) (ls : Array Slot), n + d3 = 9 → lv_has ls 6 [(5, .int (nI n)), (0, .ref (ad 106)), (1, .int (nI gt)), (2, .ref (ad k1)), (3, .ref (ad k2)), (4, .ref (ad kd))] → va_P D cL (gw 424 ad (tD ct ad y)) H → va_S (gA 424 ad s.heap.size) s.heap H locs → (∃ g, y.1 = va_up x.1 107 g ∧ ∀ i, i < n → g i = tW1 gt * x.1 k1 i + tW2 gt * x.1 k2 i) → W p l e (rF 4 102) s m [.ref (ad 106), .int (nI gt), .ref (ad k1), .ref (ad k2), .ref (ad kd)].toArray below meth c H locs 0 0 Q (F0 m 3 ls []) := by
    intro d3
    induction d3 using Nat.strongRecOn with
    | ind d3 ih =>
      intro n y H locs ls hd hl hP hS hinv
      refine lv_iload hx hb mD_Wo_work_3 (lv_at hl 0 rfl) ?_
      refine lv_bipush (v := nI 9) hx hb mD_Wo_work_5 (by decide) ?_
      refine lv_icmp_ge (tgt := 44) hx hb mD_Wo_work_7 rfl (fun hc => ?_) (fun hc => ?_)
      · skip
        have hn : n = 9 := by have := ts_ge (by omega) (by omega) hc; omega
        subst hn
        obtain ⟨g0, hg0, hg1⟩ := hinv
        have e7 : y.1 107 = g0 := by rw [hg0, va_up_self]
        refine lv_aload_n hx hb mD_Wo_work_44 rfl (lv_at hl 1 rfl) ?_
        refine t_get (C := cN_Wo) (T := cF_Wo) (N := 2) (ci := 6) hx hb htw wU_Wo hown hK hP 106 (by decide) rfl rfl 1 (by decide) rfl ww_103 rfl mD_Wo_work_45 ?_
        refine lv_bipush (v := nI 8) hx hb mD_Wo_work_48 (by decide) ?_
        refine lv_dup2_11 hx hb mD_Wo_work_50 rfl rfl ?_
        refine t_iald hx hb hK hP 107 9 (by decide) rfl 8 rfl (by decide) (by decide) mD_Wo_work_51 ?_
        refine va_gets hx hb (tO_z2 h0 hZ) hS hown (htw _ ww_513) (fun _ h => h) mD_Wo_work_52 ?_
        refine lv_iload_n hx hb mD_Wo_work_55 rfl (lv_at hl 2 rfl) ?_
        refine t_ti (f := tW3) hx hb (tO_t2 h0 hZ) hS (g := gt) hgt (by decide) mD_Wo_work_56 ?_
        refine lv_ldc hx hb hown (htw _ ww_515) mD_Wo_work_57 ?_
        refine lv_imul hx hb mD_Wo_work_59 ?_
        refine lv_iadd hx hb mD_Wo_work_60 ?_
        refine t_iast hx hb hK hI hA hP hS 107 9 (by decide) (fun _ => rfl) 8 rfl (by decide) (by decide) mD_Wo_work_61 (fun H locs hP hS => ?_)
        obtain ⟨x1, hx1⟩ : ∃ z, z = tU y 107 (upd (y.1 107) 8 ((y.1 107 8) + ((tW3 gt) * ((536870912 : Int32))))) := ⟨_, rfl⟩
        rw [← hx1] at hP
        have e3 : ∀ k, k ≠ 107 → x1.1 k = x.1 k := fun k hk => by rw [hx1, tU_n hk, hg0, va_up_ne _ _ hk]
        have e4 : x1.1 107 = upd g0 8 (g0 8 + tW3 gt * 536870912) := by rw [hx1, tU_1, e7]
        have hkey : tKey x1.1 := tKey_eq hk (fun k h => e3 k (by omega))
        refine lv_aload_n hx hb mD_Wo_work_62 rfl (lv_at hl 1 rfl) ?_
        refine t_get (C := cN_Wo) (T := cF_Wo) (N := 2) (ci := 6) hx hb htw wU_Wo hown hK hP 106 (by decide) rfl rfl 0 (by decide) rfl ww_102 rfl mD_Wo_work_63 ?_
        refine lv_aload_n hx hb mD_Wo_work_66 rfl (lv_at hl 1 rfl) ?_
        refine t_get (C := cN_Wo) (T := cF_Wo) (N := 2) (ci := 6) hx hb htw wU_Wo hown hK hP 106 (by decide) rfl rfl 1 (by decide) rfl ww_103 rfl mD_Wo_work_67 ?_
        refine lv_aload hx hb mD_Wo_work_70 (lv_at hl 5 rfl) ?_
        refine gc_Vv (As := [.ref (ad 107), .ref (ad kd)]) (rest := []) hx hb hml hown htw hK hP hS 5 (k_Re_refresh l D ct ad hI x1 (kr := 107) (kd := kd) (Or.inr (Or.inl rfl)) hkd hkey) gZ0_ok (fun _ _ _ => trivial) (gA_mono hS.1) (by decide) rfl rfl ww_516 ww_517 ww_518 ww_26 wC_Re_refresh mP_Re_refresh (by decide) rfl hl.1 rfl (Nat.le_of_ble_eq_true rfl) mD_Wo_work_72 ⟨Nat.le_of_ble_eq_true rfl, Nat.le_of_ble_eq_true rfl⟩ (fun x2 H locs hp2 hP _ _ hS => ?_)
        obtain ⟨gc, gw0, g, eg, hg⟩ := hp2
        have e5 : ∃ h0 : Nat → Int32, x1.1 = va_up x.1 107 h0 := ⟨upd g0 8 (g0 8 + tW3 gt * 536870912), by rw [hx1, tU_f, e7, hg0, bx_uu]⟩
        obtain ⟨h0_, e5⟩ := e5
        subst hQ
        exact gw_vret hx hb hr hlocks hP hS (⟨h0_, gc, gw0, g, by rw [eg, e5], fun v1 v2 b1 b2 q1 q2 q3 => by obtain ⟨pz, z1, z2⟩ := tp_gate_sum (r := upd g0 8 (g0 8 + tW3 gt * 536870912)) hgt q1 q2 q3 (fun i hi => by rw [pk_un (by omega)]; exact hg1 i (by omega)) (by rw [pk_us, hg1 8 (by omega)]; rfl); have z3 := hg pz (tp_truth gt v1 v2) (by rw [e3 3 (by decide), e4]; exact z1) z2; rw [e3 3 (by decide)] at z3; exact z3⟩) mD_Wo_work_75 (Nat.zero_le _) (Nat.zero_le _)
      · skip
        have hn_n : n < 9 := ts_lt (by omega) (by omega) hc
        refine lv_aload_n hx hb mD_Wo_work_10 rfl (lv_at hl 1 rfl) ?_
        refine t_get (C := cN_Wo) (T := cF_Wo) (N := 2) (ci := 6) hx hb htw wU_Wo hown hK hP 106 (by decide) rfl rfl 1 (by decide) rfl ww_103 rfl mD_Wo_work_11 ?_
        refine lv_iload hx hb mD_Wo_work_14 (lv_at hl 0 rfl) ?_
        refine va_gets hx hb (tO_z0 h0 hZ) hS hown (htw _ ww_509) (fun _ h => h) mD_Wo_work_16 ?_
        refine lv_iload_n hx hb mD_Wo_work_19 rfl (lv_at hl 2 rfl) ?_
        refine t_ti (f := tW1) hx hb (tO_t0 h0 hZ) hS (g := gt) hgt (by decide) mD_Wo_work_20 ?_
        refine lv_aload_n hx hb mD_Wo_work_21 rfl (lv_at hl 3 rfl) ?_
        refine lv_iload hx hb mD_Wo_work_22 (lv_at hl 0 rfl) ?_
        refine t_iald hx hb hK hP k1 9 (tRow_lt hk1) (tE_row hk1) n rfl (by omega) (by decide) mD_Wo_work_24 ?_
        refine lv_imul hx hb mD_Wo_work_25 ?_
        refine va_gets hx hb (tO_z1 h0 hZ) hS hown (htw _ ww_511) (fun _ h => h) mD_Wo_work_26 ?_
        refine lv_iload_n hx hb mD_Wo_work_29 rfl (lv_at hl 2 rfl) ?_
        refine t_ti (f := tW2) hx hb (tO_t1 h0 hZ) hS (g := gt) hgt (by decide) mD_Wo_work_30 ?_
        refine lv_aload_n hx hb mD_Wo_work_31 rfl (lv_at hl 4 rfl) ?_
        refine lv_iload hx hb mD_Wo_work_32 (lv_at hl 0 rfl) ?_
        refine t_iald hx hb hK hP k2 9 (tRow_lt hk2) (tE_row hk2) n rfl (by omega) (by decide) mD_Wo_work_34 ?_
        refine lv_imul hx hb mD_Wo_work_35 ?_
        refine lv_iadd hx hb mD_Wo_work_36 ?_
        refine t_iast hx hb hK hI hA hP hS 107 9 (by decide) (fun _ => rfl) n rfl (by omega) (by decide) mD_Wo_work_37 (fun H locs hP hS => ?_)
        obtain ⟨x4, hx4⟩ : ∃ z, z = tU y 107 (upd (y.1 107) n (((tW1 gt) * (y.1 k1 n)) + ((tW2 gt) * (y.1 k2 n)))) := ⟨_, rfl⟩
        rw [← hx4] at hP
        refine lv_iinc (k := 0) (v := nI (n + 1)) (lv' := [(5, .int (nI (n + 1))), (0, .ref (ad 106)), (1, .int (nI gt)), (2, .ref (ad k1)), (3, .ref (ad k2)), (4, .ref (ad kd))]) hx hb mD_Wo_work_38 hl rfl (by rw [lit1, nI_1]) (by decide) rfl (fun ls hl => ?_)
        refine lv_goto (tgt := 3) hx hb mD_Wo_work_41 rfl ?_
        exact ih (d3 - 1) (by omega) (n + 1) x4 _ _ _ (by omega) (lv_sub hl [0, 1, 2, 3, 4, 5] rfl) hP hS (by obtain ⟨g, hg, h1⟩ := hinv; have e1 : y.1 k1 = x.1 k1 := (by rw [hg, va_up_ne _ _ hn1]); have e2 : y.1 k2 = x.1 k2 := (by rw [hg, va_up_ne _ _ hn2]); have ed : y.1 107 = g := (by rw [hg, va_up_self]); exact ⟨upd g n (tW1 gt * x.1 k1 n + tW2 gt * x.1 k2 n), by rw [hx4, tU_f, ed, e1, e2, hg, bx_uu], fun i hi => by by_cases q : i = n; rw [q, pk_us]; rw [pk_un q]; exact h1 i (by omega)⟩)
  exact loop 9 0 x _ _ _ (by omega) hl hP hS ⟨x.1 107, va_up_same.symm, fun _ h => absurd h (Nat.not_lt_zero _)⟩
