/-! TorusGates' public methods, second part: blur, pile, line. Laid by wip/whole/part_tg4.py. -/
theorem tn_blur {v : Int32} {b n : Nat} (e : v = nI b) (hb : b < 1073741824) (hn : n ≤ 1000) : v.toInt64 + (16 : Int64) * (nI n).toInt64 = lN (b + 16 * n) := by
  rw [e, nI_l (by omega), nI_l (by omega), show (16 : Int64) = lN 16 from rfl, lN_mul, lN_add]
theorem tn_pile {v : Int32} {b k : Nat} (e : v = nI b) (hb : b < 1073741824) (hk : k ≤ 100) : v.toInt64 * (nI (8 * k + 1)).toInt64 = lN (b * (8 * k + 1)) := by
  rw [e, nI_l (by omega), nI_l (by omega), lN_mul]
theorem tn_plt {b k : Nat} (hb : b < 1073741824) (hk : k ≤ 100) : b * (8 * k + 1) < 2 ^ 62 := by
  have h : b * (8 * k + 1) ≤ 1073741824 * 801 := Nat.mul_le_mul (by omega) (by omega)
  omega
theorem tn_s0 (w : Int32) : w - nI 0 = w := by
  show w - 0 = w
  exact Int32.sub_zero w
theorem tr_423 : tRow 423 := by unfold tRow; omega

set_option maxHeartbeats 4000000 in
set_option maxRecDepth 100000 in
theorem k_TG_blur (l : Launch) (D : va_G) (ct : Nat → ClassId) (ad : Nat → Nat) (hI : gw_inj 424 ad) (x : tS) (α : tA) (hR : tR α x.1) {u : Nat} (hu : u < 120) (hut : aT α u = true) {n : Nat} (hn : n ≤ 1000) (hbd : aB α u + 16 * n < 1073741824) : gMi l mY_TG_blur mB_TG_blur 6 (some .int) (rF 3 69) D (tT ct) gZ0 424 ad (tD ct ad) [.ref (ad 0), .int (nI u), .int (nI n)] x (fun r x' => r = nI (aB α u + 16 * n) ∧ tR (aBound α u (aB α u + 16 * n)) x'.1) := by
  refine gMi_enter (by decide) (Nat.le_of_ble_eq_true rfl) ?_
  intro p e s m below meth c ls hx hb hr htw hown hlocks hml hl hP hK hZ hS
  have hA : ∀ k, k < 424 → gA 424 ad s.heap.size (ad k) := fun _ h => gA_in h
  have hl : lv_has ls 6 [(0, .ref (ad 0)), (1, .int (nI u)), (2, .int (nI n))] := hl
  refine gw_nmQ (fun Q hQ => ?_)
  refine lv_aload_n hx hb mD_TG_blur_0 rfl (lv_at hl 0 rfl) ?_
  refine lv_iload_n hx hb mD_TG_blur_1 rfl (lv_at hl 1 rfl) ?_
  refine gc_Vr (As := [.int (nI u)]) (rest := []) hx hb hml hown htw hK hP hS 0 (k_TG_cellOf l D ct ad hI x (q := u) hu (tR_th hR hu hut)) gZ0_ok (fun _ _ _ => trivial) (gA_mono hS.1) (by decide) rfl rfl ww_381 ww_383 ww_5 ww_23 wC_TG_cellOf mP_TG_cellOf (by decide) rfl hl.1 rfl (Nat.le_of_ble_eq_true rfl) mD_TG_blur_2 ⟨Nat.le_of_ble_eq_true rfl, Nat.le_of_ble_eq_true rfl⟩ (fun r2 x1 H locs hp1 hP _ _ hS => ?_)
  obtain ⟨ra, hq_⟩ := hp1
  subst ra
  rw [hq_] at hP
  refine lv_astore_n (lv' := [(3, .ref (ad ((110 + 2 * u)))), (0, .ref (ad 0)), (1, .int (nI u)), (2, .int (nI n))]) hx hb mD_TG_blur_5 rfl hl (by decide) rfl (fun ls hl => ?_)
  have hu0 := (hR.2.1 u hu).2 hut
  have hkc := tCe_led hu
  refine lv_aload_n hx hb mD_TG_blur_6 rfl (lv_at hl 1 rfl) ?_
  refine lv_iload_n hx hb mD_TG_blur_7 rfl (lv_at hl 3 rfl) ?_
  refine lv_sipush (v := nI 1000) hx hb mD_TG_blur_8 (by decide) ?_
  refine gc_Vv (As := [.int (nI n), .int (nI 1000)]) (rest := []) hx hb hml hown htw hK hP hS 0 (k_TG_checkRange l D ct ad hI x (q := n) (N := 1000) hn (by decide)) gZ0_ok (fun _ _ _ => trivial) (gA_mono hS.1) (by decide) rfl rfl ww_439 ww_441 ww_6 ww_23 wC_TG_checkRange mP_TG_checkRange (by decide) rfl hl.1 rfl (Nat.le_of_ble_eq_true rfl) mD_TG_blur_11 ⟨Nat.le_of_ble_eq_true rfl, Nat.le_of_ble_eq_true rfl⟩ (fun x3 H locs hp3 hP _ _ hS => ?_)
  have hq_ := hp3
  rw [hq_] at hP
  refine lv_aload_n hx hb mD_TG_blur_14 rfl (lv_at hl 1 rfl) ?_
  refine lv_aload_n hx hb mD_TG_blur_15 rfl (lv_at hl 0 rfl) ?_
  refine t_get (C := cN_Ce) (T := cF_Ce) (N := 4) (ci := 0) hx hb htw wU_Ce hown hK hP ((110 + 2 * u)) (tCe_lt (tCe_led (c := u) hu)) (tE_cell (tCe_led (c := u) hu)) rfl 1 (by decide) rfl ww_125 rfl mD_TG_blur_16 ?_
  refine lv_i2l hx hb mD_TG_blur_19 rfl ?_
  refine lv_ldc2 hx hb hown (htw _ ww_459) mD_TG_blur_20 ?_
  refine lv_iload_n hx hb mD_TG_blur_23 rfl (lv_at hl 3 rfl) ?_
  refine lv_i2l hx hb mD_TG_blur_24 rfl ?_
  refine lv_lmul hx hb mD_TG_blur_25 ?_
  refine lv_ladd hx hb mD_TG_blur_26 ?_
  rw [tn_blur hu0.2.1 hu0.1 hn]
  refine gc_Vi (As := [.long (lN (aB α u + 16 * n))]) (rest := []) hx hb hml hown htw hK hP hS 0 (k_TG_checkedBound l D ct ad hI x (q := aB α u + 16 * n) hbd) gZ0_ok (fun _ _ _ => trivial) (gA_mono hS.1) (by decide) rfl rfl ww_460 ww_462 ww_7 ww_23 wC_TG_checkedBound mP_TG_checkedBound (by decide) rfl hl.1 rfl (Nat.le_of_ble_eq_true rfl) mD_TG_blur_27 ⟨Nat.le_of_ble_eq_true rfl, Nat.le_of_ble_eq_true rfl⟩ (fun r6 x5 H locs hp5 hP _ _ hS => ?_)
  obtain ⟨hq_, rfl⟩ := hp5
  rw [hq_] at hP
  refine lv_istore (lv' := [(4, .int (nI (aB α u + 16 * n))), (3, .ref (ad ((110 + 2 * u)))), (0, .ref (ad 0)), (1, .int (nI u)), (2, .int (nI n))]) hx hb mD_TG_blur_30 hl (by decide) rfl (fun ls hl => ?_)
  refine lv_iconst (v := nI 0) hx hb mD_TG_blur_32 (by decide) ?_
  refine lv_istore (lv' := [(5, .int (nI 0)), (4, .int (nI (aB α u + 16 * n))), (3, .ref (ad ((110 + 2 * u)))), (0, .ref (ad 0)), (1, .int (nI u)), (2, .int (nI n))]) hx hb mD_TG_blur_33 hl (by decide) rfl (fun ls hl => ?_)
  have loop : ∀ (d35 : Nat) (i : Nat) (y : tS) (H : Heap) (locs : List Loc) (ls : Array Slot), i + d35 = n → lv_has ls 6 [(5, .int (nI i)), (4, .int (nI (aB α u + 16 * n))), (3, .ref (ad ((110 + 2 * u)))), (0, .ref (ad 0)), (1, .int (nI u)), (2, .int (nI n))] → va_P D cL (gw 424 ad (tD ct ad y)) H → va_S (gA 424 ad s.heap.size) s.heap H locs → (∃ gz g, y.1 = va_up (va_up x.1 423 gz) (110 + 2 * u + 1) g ∧ tp_near (x.1 3) g (aV α u) (aB α u + 16 * i)) → W p l e (rF 3 69) s m [.ref (ad 0), .int (nI u), .int (nI n)].toArray below meth c H locs 0 0 Q (F0 m 35 ls []) := by
    intro d35
    induction d35 using Nat.strongRecOn with
    | ind d35 ih =>
      intro i y H locs ls hd hl hP hS hinv
      refine lv_iload hx hb mD_TG_blur_35 (lv_at hl 0 rfl) ?_
      refine lv_iload_n hx hb mD_TG_blur_37 rfl (lv_at hl 5 rfl) ?_
      refine lv_icmp_ge (tgt := 72) hx hb mD_TG_blur_38 rfl (fun hc => ?_) (fun hc => ?_)
      · skip
        have hin : i = n := by have := ts_ge (by omega) (by omega) hc; omega
        obtain ⟨gz, gy, ey, hy⟩ := hinv
        rw [hin] at hy
        refine lv_aload_n hx hb mD_TG_blur_72 rfl (lv_at hl 2 rfl) ?_
        refine lv_iload hx hb mD_TG_blur_73 (lv_at hl 1 rfl) ?_
        refine t_put (C := cN_Ce) (T := cF_Ce) (N := 4) (ci := 0) hx hb htw wU_Ce cT_Ce cO_Ce cM_Ce hown hK hI hA hP hS ((110 + 2 * u)) (tCe_lt (tCe_led (c := u) hu)) (tE_cell (tCe_led (c := u) hu)) rfl 1 (by decide) rfl ww_125 rfl rfl rfl (Nat.le_of_ble_eq_true rfl) (by rw [tE_cell (tCe_led (c := u) hu)]; rfl) mD_TG_blur_75 (fun H locs hP hS => ?_)
        obtain ⟨x7, hx7⟩ : ∃ z_, z_ = tU y ((110 + 2 * u)) (upd (y.1 ((110 + 2 * u))) 1 (nI (aB α u + 16 * n))) := ⟨_, rfl⟩
        rw [← hx7] at hP
        refine lv_iload hx hb mD_TG_blur_78 (lv_at hl 1 rfl) ?_
        subst hQ
        exact gw_iret hx hb hr hlocks hP hS (have hne : (110 + 2 * u) + 1 ≠ 110 + 2 * u := Nat.succ_ne_self _; have ek : y.1 (110 + 2 * u) = x.1 (110 + 2 * u) := (by rw [ey, va_up_ne _ _ hne.symm, va_up_ne _ _ (by omega)]); ⟨rfl, tR_bound hR hu hut (fun k a1 a2 a3 => by rw [hx7, tU_n a1, ey, va_up_ne _ _ a2, va_up_ne _ _ a3]) (by rw [hx7, tU_1, pk_un (by decide), ek]) ⟨hbd, by rw [hx7, tU_1, pk_us], by rw [hx7, tU_1, pk_un (by decide), ek]; exact hu0.2.2.1, by rw [hx7, tU_n hne, tU_n (by omega), ey, va_up_self, va_up_ne _ _ (by omega), va_up_ne _ _ (by omega)]; exact hy⟩⟩) mD_TG_blur_80 (Nat.zero_le _) (Nat.zero_le _)
      · skip
        have hn_i : i < n := ts_lt (by omega) (by omega) hc
        refine lv_aload_n hx hb mD_TG_blur_41 rfl (lv_at hl 3 rfl) ?_
        refine t_get (C := cN_TG) (T := cF_TG) (N := 12) (ci := 7) hx hb htw wU_TG hown hK hP 0 (by decide) rfl rfl 1 (by decide) rfl ww_223 rfl mD_TG_blur_42 ?_
        refine lv_iconst (v := nI 0) hx hb mD_TG_blur_45 (by decide) ?_
        refine lv_aload_n hx hb mD_TG_blur_46 rfl (lv_at hl 3 rfl) ?_
        refine t_get (C := cN_TG) (T := cF_TG) (N := 12) (ci := 7) hx hb htw wU_TG hown hK hP 0 (by decide) rfl rfl 9 (by decide) rfl ww_231 rfl mD_TG_blur_47 ?_
        refine lv_iconst (v := nI 5) hx hb mD_TG_blur_50 (by decide) ?_
        refine lv_aload_n hx hb mD_TG_blur_51 rfl (lv_at hl 3 rfl) ?_
        refine t_get (C := cN_TG) (T := cF_TG) (N := 12) (ci := 7) hx hb htw wU_TG hown hK hP 0 (by decide) rfl rfl 0 (by decide) rfl ww_222 rfl mD_TG_blur_52 ?_
        refine gc_Vv (As := [.int (nI 0), .ref (ad 423), .int (nI 5), .ref (ad 1)]) (rest := []) hx hb hml hown htw hK hP hS 2 (k_Se_hide5 l D ct ad hI y (nI 0) (k := 423) tr_423) gZ0_ok (fun _ _ _ => trivial) (gA_mono hS.1) (by decide) rfl rfl ww_372 ww_219 ww_220 ww_25 wC_Se_hide mP_Se_hide (by decide) rfl hl.1 rfl (Nat.le_of_ble_eq_true rfl) mD_TG_blur_55 ⟨Nat.le_of_ble_eq_true rfl, Nat.le_of_ble_eq_true rfl⟩ (fun x8 H locs hp8 hP _ _ hS => ?_)
        obtain ⟨g1, e1, hg1⟩ := hp8
        obtain ⟨gz, gy, ey, hy⟩ := hinv
        have e3 : y.1 3 = x.1 3 := by rw [ey, va_up_ne _ _ (by omega), va_up_ne _ _ (by omega)]
        have hg1 : tp_sm 16 (tp_place (x.1 3) g1) := by rw [e3, tn_s0] at hg1; exact hg1
        refine lv_aload_n hx hb mD_TG_blur_58 rfl (lv_at hl 2 rfl) ?_
        refine lv_aload_n hx hb mD_TG_blur_59 rfl (lv_at hl 3 rfl) ?_
        refine t_get (C := cN_TG) (T := cF_TG) (N := 12) (ci := 7) hx hb htw wU_TG hown hK hP 0 (by decide) rfl rfl 9 (by decide) rfl ww_231 rfl mD_TG_blur_60 ?_
        refine gc_Vv (As := [.ref (ad 423)]) (rest := []) hx hb hml hown htw hK hP hS ((110 + 2 * u)) (k_Ce_addRow l D ct ad hI x8 (kc := 110 + 2 * u) (ko := 423) hkc tr_423 (by omega)) gZ0_ok (fun _ _ _ => trivial) (gA_mono hS.1) (tCe_lt (tCe_led (c := u) hu)) (tE_cell (tCe_led (c := u) hu)) rfl ww_466 ww_467 ww_468 ww_29 wC_Ce_addRow mP_Ce_addRow (by decide) rfl hl.1 rfl (Nat.le_of_ble_eq_true rfl) mD_TG_blur_63 ⟨Nat.le_of_ble_eq_true rfl, Nat.le_of_ble_eq_true rfl⟩ (fun x10 H locs hp10 hP _ _ hS => ?_)
        obtain ⟨g2, e2, hg2⟩ := hp10
        refine lv_iinc (k := 0) (v := nI (i + 1)) (lv' := [(5, .int (nI (i + 1))), (4, .int (nI (aB α u + 16 * n))), (3, .ref (ad ((110 + 2 * u)))), (0, .ref (ad 0)), (1, .int (nI u)), (2, .int (nI n))]) hx hb mD_TG_blur_66 hl rfl (by rw [lit1, nI_1]) (by decide) rfl (fun ls hl => ?_)
        refine lv_goto (tgt := 35) hx hb mD_TG_blur_69 rfl ?_
        exact ih (d35 - 1) (by omega) (i + 1) x10 _ _ _ (by omega) (lv_sub hl [0, 1, 2, 3, 4, 5] rfl) hP hS ⟨g1, g2, by rw [e2, e1, ey, tb_up2 (by omega), tb_up2 (by omega)], tp_near_add (bd := aB α u + 16 * i) (n := 16) hy hg1 (fun i hi => by rw [hg2 i hi, e1, va_up_ne _ _ (by omega), va_up_self, ey, va_up_self])⟩
  exact loop n 0 x _ _ _ (by omega) hl hP hS ⟨x.1 423, x.1 (110 + 2 * u + 1), by rw [va_up_same, va_up_same], hu0.2.2.2⟩

set_option maxHeartbeats 4000000 in
set_option maxRecDepth 100000 in
theorem x_TG_blur1 (l : Launch) (D : va_G) (ct : Nat → ClassId) (ad : Nat → Nat) (hI : gw_inj 424 ad) (x : tS) (hls : l.stackTraces = false) {s0 : State} {zt : Nat → Nat} (h0 : tO s0 zt) (α : tA) (hR : tR α x.1) (a b : Int32) (hh : ¬ aHas α a) : gX l mY_TG_blur mB_TG_blur 6 (some .int) (rX 7 104) D (tT ct) (tZ s0) 424 ad (tD ct ad) [.ref (ad 0), .int a, .int b] x tX_N (fun x' => tR α x'.1) := by
  refine gX_enter (by decide) (Nat.le_of_ble_eq_true rfl) ?_
  intro p e s m below meth c ls hx hb hr htw hown hlocks hml hl hP hK hZ hS hno
  have hA : ∀ k, k < 424 → gA 424 ad s.heap.size (ad k) := fun _ h => gA_in h
  have hl : lv_has ls 6 [(0, .ref (ad 0)), (1, .int a), (2, .int b)] := hl
  have hP0 := hP
  refine lv_aload_n hx hb mD_TG_blur_0 rfl (lv_at hl 0 rfl) ?_
  refine lv_iload_n hx hb mD_TG_blur_1 rfl (lv_at hl 1 rfl) ?_
  refine tx_call (As := [.int a]) (rest := []) hx hb hml hown htw hK hP hS 0 (x_TG_cellOf l D ct ad hI x hls h0 a (fun q => hh ((tR_has hR _).mp q))) (tZ_ok s0) (tZ_at hZ hS) (gA_mono hS.1) (by decide) rfl rfl ww_381 ww_383 ww_5 ww_23 wC_TG_cellOf mP_TG_cellOf (by decide) rfl hl.1 rfl (Nat.le_of_ble_eq_true rfl) mD_TG_blur_2 ⟨Nat.le_of_ble_eq_true rfl, Nat.le_of_ble_eq_true rfl⟩ (fun q ce x1 H locs hp hP _ _ hS hce hcv hcl => ?_)
  exact tx_out hno hlocks hP hS (hp ▸ hR) hce hcv hcl (by decide) (by decide)

set_option maxHeartbeats 4000000 in
set_option maxRecDepth 100000 in
theorem x_TG_blur2 (l : Launch) (D : va_G) (ct : Nat → ClassId) (ad : Nat → Nat) (hI : gw_inj 424 ad) (x : tS) (hls : l.stackTraces = false) {s0 : State} {zt : Nat → Nat} (h0 : tO s0 zt) (α : tA) (hR : tR α x.1) {u : Nat} (hu : u < 120) (hut : aT α u = true) (b : Int32) (hn : ¬ ∃ q, q ≤ 1000 ∧ b = nI q) : gX l mY_TG_blur mB_TG_blur 6 (some .int) (rX 7 104) D (tT ct) (tZ s0) 424 ad (tD ct ad) [.ref (ad 0), .int (nI u), .int b] x tX_A (fun x' => tR α x'.1) := by
  refine gX_enter (by decide) (Nat.le_of_ble_eq_true rfl) ?_
  intro p e s m below meth c ls hx hb hr htw hown hlocks hml hl hP hK hZ hS hno
  have hA : ∀ k, k < 424 → gA 424 ad s.heap.size (ad k) := fun _ h => gA_in h
  have hl : lv_has ls 6 [(0, .ref (ad 0)), (1, .int (nI u)), (2, .int b)] := hl
  have hP0 := hP
  refine lv_aload_n hx hb mD_TG_blur_0 rfl (lv_at hl 0 rfl) ?_
  refine lv_iload_n hx hb mD_TG_blur_1 rfl (lv_at hl 1 rfl) ?_
  refine gc_Vr (As := [.int (nI u)]) (rest := []) hx hb hml hown htw hK hP hS 0 (k_TG_cellOf l D ct ad hI x (q := u) hu (tR_th hR hu hut)) gZ0_ok (fun _ _ _ => trivial) (gA_mono hS.1) (by decide) rfl rfl ww_381 ww_383 ww_5 ww_23 wC_TG_cellOf mP_TG_cellOf (by decide) rfl hl.1 rfl (Nat.le_of_ble_eq_true rfl) mD_TG_blur_2 ⟨Nat.le_of_ble_eq_true rfl, Nat.le_of_ble_eq_true rfl⟩ (fun r2 x1 H locs hp1 hP _ _ hS => ?_)
  obtain ⟨ra, hq_⟩ := hp1
  subst ra
  rw [hq_] at hP
  refine lv_astore_n (lv' := [(3, .ref (ad ((110 + 2 * u)))), (0, .ref (ad 0)), (1, .int (nI u)), (2, .int b)]) hx hb mD_TG_blur_5 rfl hl (by decide) rfl (fun ls hl => ?_)
  refine lv_aload_n hx hb mD_TG_blur_6 rfl (lv_at hl 1 rfl) ?_
  refine lv_iload_n hx hb mD_TG_blur_7 rfl (lv_at hl 3 rfl) ?_
  refine lv_sipush (v := nI 1000) hx hb mD_TG_blur_8 (by decide) ?_
  refine tx_call (As := [.int b, .int (nI 1000)]) (rest := []) hx hb hml hown htw hK hP hS 0 (x_TG_checkRange l D ct ad hI x hls h0 b (N := 1000) (by decide) hn) (tZ_ok s0) (tZ_at hZ hS) (gA_mono hS.1) (by decide) rfl rfl ww_439 ww_441 ww_6 ww_23 wC_TG_checkRange mP_TG_checkRange (by decide) rfl hl.1 rfl (Nat.le_of_ble_eq_true rfl) mD_TG_blur_11 ⟨Nat.le_of_ble_eq_true rfl, Nat.le_of_ble_eq_true rfl⟩ (fun q ce x3 H locs hp hP _ _ hS hce hcv hcl => ?_)
  exact tx_out hno hlocks hP hS (hp ▸ hR) hce hcv hcl (by decide) (by decide)

set_option maxHeartbeats 4000000 in
set_option maxRecDepth 100000 in
theorem x_TG_blur3 (l : Launch) (D : va_G) (ct : Nat → ClassId) (ad : Nat → Nat) (hI : gw_inj 424 ad) (x : tS) (hls : l.stackTraces = false) {s0 : State} {zt : Nat → Nat} (h0 : tO s0 zt) (α : tA) (hR : tR α x.1) {u : Nat} (hu : u < 120) (hut : aT α u = true) {n : Nat} (hn : n ≤ 1000) (hbd : 1073741824 ≤ aB α u + 16 * n) : gX l mY_TG_blur mB_TG_blur 6 (some .int) (rX 7 104) D (tT ct) (tZ s0) 424 ad (tD ct ad) [.ref (ad 0), .int (nI u), .int (nI n)] x tX_S (fun x' => tR α x'.1) := by
  refine gX_enter (by decide) (Nat.le_of_ble_eq_true rfl) ?_
  intro p e s m below meth c ls hx hb hr htw hown hlocks hml hl hP hK hZ hS hno
  have hA : ∀ k, k < 424 → gA 424 ad s.heap.size (ad k) := fun _ h => gA_in h
  have hl : lv_has ls 6 [(0, .ref (ad 0)), (1, .int (nI u)), (2, .int (nI n))] := hl
  have hP0 := hP
  refine lv_aload_n hx hb mD_TG_blur_0 rfl (lv_at hl 0 rfl) ?_
  refine lv_iload_n hx hb mD_TG_blur_1 rfl (lv_at hl 1 rfl) ?_
  refine gc_Vr (As := [.int (nI u)]) (rest := []) hx hb hml hown htw hK hP hS 0 (k_TG_cellOf l D ct ad hI x (q := u) hu (tR_th hR hu hut)) gZ0_ok (fun _ _ _ => trivial) (gA_mono hS.1) (by decide) rfl rfl ww_381 ww_383 ww_5 ww_23 wC_TG_cellOf mP_TG_cellOf (by decide) rfl hl.1 rfl (Nat.le_of_ble_eq_true rfl) mD_TG_blur_2 ⟨Nat.le_of_ble_eq_true rfl, Nat.le_of_ble_eq_true rfl⟩ (fun r2 x1 H locs hp1 hP _ _ hS => ?_)
  obtain ⟨ra, hq_⟩ := hp1
  subst ra
  rw [hq_] at hP
  refine lv_astore_n (lv' := [(3, .ref (ad ((110 + 2 * u)))), (0, .ref (ad 0)), (1, .int (nI u)), (2, .int (nI n))]) hx hb mD_TG_blur_5 rfl hl (by decide) rfl (fun ls hl => ?_)
  have hu0 := (hR.2.1 u hu).2 hut
  have hkc := tCe_led hu
  refine lv_aload_n hx hb mD_TG_blur_6 rfl (lv_at hl 1 rfl) ?_
  refine lv_iload_n hx hb mD_TG_blur_7 rfl (lv_at hl 3 rfl) ?_
  refine lv_sipush (v := nI 1000) hx hb mD_TG_blur_8 (by decide) ?_
  refine gc_Vv (As := [.int (nI n), .int (nI 1000)]) (rest := []) hx hb hml hown htw hK hP hS 0 (k_TG_checkRange l D ct ad hI x (q := n) (N := 1000) hn (by decide)) gZ0_ok (fun _ _ _ => trivial) (gA_mono hS.1) (by decide) rfl rfl ww_439 ww_441 ww_6 ww_23 wC_TG_checkRange mP_TG_checkRange (by decide) rfl hl.1 rfl (Nat.le_of_ble_eq_true rfl) mD_TG_blur_11 ⟨Nat.le_of_ble_eq_true rfl, Nat.le_of_ble_eq_true rfl⟩ (fun x3 H locs hp3 hP _ _ hS => ?_)
  have hq_ := hp3
  rw [hq_] at hP
  refine lv_aload_n hx hb mD_TG_blur_14 rfl (lv_at hl 1 rfl) ?_
  refine lv_aload_n hx hb mD_TG_blur_15 rfl (lv_at hl 0 rfl) ?_
  refine t_get (C := cN_Ce) (T := cF_Ce) (N := 4) (ci := 0) hx hb htw wU_Ce hown hK hP ((110 + 2 * u)) (tCe_lt (tCe_led (c := u) hu)) (tE_cell (tCe_led (c := u) hu)) rfl 1 (by decide) rfl ww_125 rfl mD_TG_blur_16 ?_
  refine lv_i2l hx hb mD_TG_blur_19 rfl ?_
  refine lv_ldc2 hx hb hown (htw _ ww_459) mD_TG_blur_20 ?_
  refine lv_iload_n hx hb mD_TG_blur_23 rfl (lv_at hl 3 rfl) ?_
  refine lv_i2l hx hb mD_TG_blur_24 rfl ?_
  refine lv_lmul hx hb mD_TG_blur_25 ?_
  refine lv_ladd hx hb mD_TG_blur_26 ?_
  rw [tn_blur hu0.2.1 hu0.1 hn]
  refine tx_call (As := [.long (lN (aB α u + 16 * n))]) (rest := []) hx hb hml hown htw hK hP hS 0 (x_TG_checkedBound l D ct ad hI x hls h0 (q := aB α u + 16 * n) hbd (by have := hu0.1; omega)) (tZ_ok s0) (tZ_at hZ hS) (gA_mono hS.1) (by decide) rfl rfl ww_460 ww_462 ww_7 ww_23 wC_TG_checkedBound mP_TG_checkedBound (by decide) rfl hl.1 rfl (Nat.le_of_ble_eq_true rfl) mD_TG_blur_27 ⟨Nat.le_of_ble_eq_true rfl, Nat.le_of_ble_eq_true rfl⟩ (fun q ce x5 H locs hp hP _ _ hS hce hcv hcl => ?_)
  exact tx_out hno hlocks hP hS (hp ▸ hR) hce hcv hcl (by decide) (by decide)

set_option maxHeartbeats 4000000 in
set_option maxRecDepth 100000 in
theorem k_TG_pile (l : Launch) (D : va_G) (ct : Nat → ClassId) (ad : Nat → Nat) (hI : gw_inj 424 ad) (x : tS) (α : tA) (hR : tR α x.1) {u : Nat} (hu : u < 120) (hut : aT α u = true) {k : Nat} (hn : k ≤ 100) (hbd : aB α u * (8 * k + 1) < 1073741824) : gMi l mY_TG_pile mB_TG_pile 6 (some .int) (rF 2 42) D (tT ct) gZ0 424 ad (tD ct ad) [.ref (ad 0), .int (nI u), .int (nI k)] x (fun r x' => r = nI (aB α u * (8 * k + 1)) ∧ tR (aBound α u (aB α u * (8 * k + 1))) x'.1) := by
  refine gMi_enter (by decide) (Nat.le_of_ble_eq_true rfl) ?_
  intro p e s m below meth c ls hx hb hr htw hown hlocks hml hl hP hK hZ hS
  have hA : ∀ k, k < 424 → gA 424 ad s.heap.size (ad k) := fun _ h => gA_in h
  have hl : lv_has ls 6 [(0, .ref (ad 0)), (1, .int (nI u)), (2, .int (nI k))] := hl
  refine lv_aload_n hx hb mD_TG_pile_0 rfl (lv_at hl 0 rfl) ?_
  refine lv_iload_n hx hb mD_TG_pile_1 rfl (lv_at hl 1 rfl) ?_
  refine gc_Vr (As := [.int (nI u)]) (rest := []) hx hb hml hown htw hK hP hS 0 (k_TG_cellOf l D ct ad hI x (q := u) hu (tR_th hR hu hut)) gZ0_ok (fun _ _ _ => trivial) (gA_mono hS.1) (by decide) rfl rfl ww_381 ww_383 ww_5 ww_23 wC_TG_cellOf mP_TG_cellOf (by decide) rfl hl.1 rfl (Nat.le_of_ble_eq_true rfl) mD_TG_pile_2 ⟨Nat.le_of_ble_eq_true rfl, Nat.le_of_ble_eq_true rfl⟩ (fun r2 x1 H locs hp1 hP _ _ hS => ?_)
  obtain ⟨ra, hq_⟩ := hp1
  subst ra
  rw [hq_] at hP
  refine lv_astore_n (lv' := [(3, .ref (ad ((110 + 2 * u)))), (0, .ref (ad 0)), (1, .int (nI u)), (2, .int (nI k))]) hx hb mD_TG_pile_5 rfl hl (by decide) rfl (fun ls hl => ?_)
  have hu0 := (hR.2.1 u hu).2 hut
  have hkc := tCe_led hu
  refine lv_aload_n hx hb mD_TG_pile_6 rfl (lv_at hl 1 rfl) ?_
  refine lv_iload_n hx hb mD_TG_pile_7 rfl (lv_at hl 3 rfl) ?_
  refine lv_bipush (v := nI 100) hx hb mD_TG_pile_8 (by decide) ?_
  refine gc_Vv (As := [.int (nI k), .int (nI 100)]) (rest := []) hx hb hml hown htw hK hP hS 0 (k_TG_checkRange l D ct ad hI x (q := k) (N := 100) hn (by decide)) gZ0_ok (fun _ _ _ => trivial) (gA_mono hS.1) (by decide) rfl rfl ww_439 ww_441 ww_6 ww_23 wC_TG_checkRange mP_TG_checkRange (by decide) rfl hl.1 rfl (Nat.le_of_ble_eq_true rfl) mD_TG_pile_10 ⟨Nat.le_of_ble_eq_true rfl, Nat.le_of_ble_eq_true rfl⟩ (fun x3 H locs hp3 hP _ _ hS => ?_)
  have hq_ := hp3
  rw [hq_] at hP
  refine lv_bipush (v := nI 8) hx hb mD_TG_pile_13 (by decide) ?_
  refine lv_iload_n hx hb mD_TG_pile_15 rfl (lv_at hl 3 rfl) ?_
  refine lv_imul hx hb mD_TG_pile_16 ?_
  refine lv_iconst (v := nI 1) hx hb mD_TG_pile_17 (by decide) ?_
  refine lv_iadd hx hb mD_TG_pile_18 ?_
  rw [tn_8k]
  refine lv_istore (lv' := [(4, .int (nI (8 * k + 1))), (3, .ref (ad ((110 + 2 * u)))), (0, .ref (ad 0)), (1, .int (nI u)), (2, .int (nI k))]) hx hb mD_TG_pile_19 hl (by decide) rfl (fun ls hl => ?_)
  refine lv_aload_n hx hb mD_TG_pile_21 rfl (lv_at hl 2 rfl) ?_
  refine lv_aload_n hx hb mD_TG_pile_22 rfl (lv_at hl 1 rfl) ?_
  refine t_get (C := cN_Ce) (T := cF_Ce) (N := 4) (ci := 0) hx hb htw wU_Ce hown hK hP ((110 + 2 * u)) (tCe_lt (tCe_led (c := u) hu)) (tE_cell (tCe_led (c := u) hu)) rfl 1 (by decide) rfl ww_125 rfl mD_TG_pile_23 ?_
  refine lv_i2l hx hb mD_TG_pile_26 rfl ?_
  refine lv_iload hx hb mD_TG_pile_27 (lv_at hl 0 rfl) ?_
  refine lv_i2l hx hb mD_TG_pile_29 rfl ?_
  refine lv_lmul hx hb mD_TG_pile_30 ?_
  rw [tn_pile hu0.2.1 hu0.1 hn]
  refine gc_Vi (As := [.long (lN (aB α u * (8 * k + 1)))]) (rest := []) hx hb hml hown htw hK hP hS 0 (k_TG_checkedBound l D ct ad hI x (q := aB α u * (8 * k + 1)) hbd) gZ0_ok (fun _ _ _ => trivial) (gA_mono hS.1) (by decide) rfl rfl ww_460 ww_462 ww_7 ww_23 wC_TG_checkedBound mP_TG_checkedBound (by decide) rfl hl.1 rfl (Nat.le_of_ble_eq_true rfl) mD_TG_pile_31 ⟨Nat.le_of_ble_eq_true rfl, Nat.le_of_ble_eq_true rfl⟩ (fun r6 x5 H locs hp5 hP _ _ hS => ?_)
  obtain ⟨hq_, rfl⟩ := hp5
  rw [hq_] at hP
  refine lv_istore (lv' := [(5, .int (nI (aB α u * (8 * k + 1)))), (4, .int (nI (8 * k + 1))), (3, .ref (ad ((110 + 2 * u)))), (0, .ref (ad 0)), (1, .int (nI u)), (2, .int (nI k))]) hx hb mD_TG_pile_34 hl (by decide) rfl (fun ls hl => ?_)
  refine lv_aload_n hx hb mD_TG_pile_36 rfl (lv_at hl 2 rfl) ?_
  refine lv_iload hx hb mD_TG_pile_37 (lv_at hl 1 rfl) ?_
  refine gc_Vv (As := [.int (nI (8 * k + 1))]) (rest := []) hx hb hml hown htw hK hP hS ((110 + 2 * u)) (k_Ce_multiply l D ct ad hI x (kc := 110 + 2 * u) hkc (nI (8 * k + 1))) gZ0_ok (fun _ _ _ => trivial) (gA_mono hS.1) (tCe_lt (tCe_led (c := u) hu)) (tE_cell (tCe_led (c := u) hu)) rfl ww_477 ww_428 ww_429 ww_29 wC_Ce_multiply mP_Ce_multiply (by decide) rfl hl.1 rfl (Nat.le_of_ble_eq_true rfl) mD_TG_pile_39 ⟨Nat.le_of_ble_eq_true rfl, Nat.le_of_ble_eq_true rfl⟩ (fun x7 H locs hp7 hP _ _ hS => ?_)
  obtain ⟨g, ey, hy⟩ := hp7
  refine lv_aload_n hx hb mD_TG_pile_42 rfl (lv_at hl 2 rfl) ?_
  refine lv_iload hx hb mD_TG_pile_43 (lv_at hl 0 rfl) ?_
  refine t_put (C := cN_Ce) (T := cF_Ce) (N := 4) (ci := 0) hx hb htw wU_Ce cT_Ce cO_Ce cM_Ce hown hK hI hA hP hS ((110 + 2 * u)) (tCe_lt (tCe_led (c := u) hu)) (tE_cell (tCe_led (c := u) hu)) rfl 1 (by decide) rfl ww_125 rfl rfl rfl (Nat.le_of_ble_eq_true rfl) (by rw [tE_cell (tCe_led (c := u) hu)]; rfl) mD_TG_pile_45 (fun H locs hP hS => ?_)
  obtain ⟨x9, hx9⟩ : ∃ z_, z_ = tU x7 ((110 + 2 * u)) (upd (x7.1 ((110 + 2 * u))) 1 (nI (aB α u * (8 * k + 1)))) := ⟨_, rfl⟩
  rw [← hx9] at hP
  refine lv_iload hx hb mD_TG_pile_48 (lv_at hl 0 rfl) ?_
  exact gw_iret hx hb hr hlocks hP hS (have hne : (110 + 2 * u) + 1 ≠ 110 + 2 * u := Nat.succ_ne_self _; ⟨rfl, tR_bound hR hu hut (fun k a1 a2 a3 => by rw [hx9, tU_n a1, ey, va_up_ne _ _ a2]) (by rw [hx9, tU_1, pk_un (by decide), ey, va_up_ne _ _ hne.symm]) ⟨hbd, by rw [hx9, tU_1, pk_us], by rw [hx9, tU_1, pk_un (by decide), ey, va_up_ne _ _ hne.symm]; exact hu0.2.2.1, by rw [hx9, tU_n hne, tU_n (by omega), ey, va_up_self, va_up_ne _ _ (by omega)]; exact tp_near_pile hu0.2.2.2 (fun i hi => by rw [hy i hi, tn_of])⟩⟩) mD_TG_pile_50 (Nat.zero_le _) (Nat.zero_le _)

set_option maxHeartbeats 4000000 in
set_option maxRecDepth 100000 in
theorem x_TG_pile1 (l : Launch) (D : va_G) (ct : Nat → ClassId) (ad : Nat → Nat) (hI : gw_inj 424 ad) (x : tS) (hls : l.stackTraces = false) {s0 : State} {zt : Nat → Nat} (h0 : tO s0 zt) (α : tA) (hR : tR α x.1) (a b : Int32) (hh : ¬ aHas α a) : gX l mY_TG_pile mB_TG_pile 6 (some .int) (rX 7 104) D (tT ct) (tZ s0) 424 ad (tD ct ad) [.ref (ad 0), .int a, .int b] x tX_N (fun x' => tR α x'.1) := by
  refine gX_enter (by decide) (Nat.le_of_ble_eq_true rfl) ?_
  intro p e s m below meth c ls hx hb hr htw hown hlocks hml hl hP hK hZ hS hno
  have hA : ∀ k, k < 424 → gA 424 ad s.heap.size (ad k) := fun _ h => gA_in h
  have hl : lv_has ls 6 [(0, .ref (ad 0)), (1, .int a), (2, .int b)] := hl
  have hP0 := hP
  refine lv_aload_n hx hb mD_TG_pile_0 rfl (lv_at hl 0 rfl) ?_
  refine lv_iload_n hx hb mD_TG_pile_1 rfl (lv_at hl 1 rfl) ?_
  refine tx_call (As := [.int a]) (rest := []) hx hb hml hown htw hK hP hS 0 (x_TG_cellOf l D ct ad hI x hls h0 a (fun q => hh ((tR_has hR _).mp q))) (tZ_ok s0) (tZ_at hZ hS) (gA_mono hS.1) (by decide) rfl rfl ww_381 ww_383 ww_5 ww_23 wC_TG_cellOf mP_TG_cellOf (by decide) rfl hl.1 rfl (Nat.le_of_ble_eq_true rfl) mD_TG_pile_2 ⟨Nat.le_of_ble_eq_true rfl, Nat.le_of_ble_eq_true rfl⟩ (fun q ce x1 H locs hp hP _ _ hS hce hcv hcl => ?_)
  exact tx_out hno hlocks hP hS (hp ▸ hR) hce hcv hcl (by decide) (by decide)

set_option maxHeartbeats 4000000 in
set_option maxRecDepth 100000 in
theorem x_TG_pile2 (l : Launch) (D : va_G) (ct : Nat → ClassId) (ad : Nat → Nat) (hI : gw_inj 424 ad) (x : tS) (hls : l.stackTraces = false) {s0 : State} {zt : Nat → Nat} (h0 : tO s0 zt) (α : tA) (hR : tR α x.1) {u : Nat} (hu : u < 120) (hut : aT α u = true) (b : Int32) (hn : ¬ ∃ q, q ≤ 100 ∧ b = nI q) : gX l mY_TG_pile mB_TG_pile 6 (some .int) (rX 7 104) D (tT ct) (tZ s0) 424 ad (tD ct ad) [.ref (ad 0), .int (nI u), .int b] x tX_A (fun x' => tR α x'.1) := by
  refine gX_enter (by decide) (Nat.le_of_ble_eq_true rfl) ?_
  intro p e s m below meth c ls hx hb hr htw hown hlocks hml hl hP hK hZ hS hno
  have hA : ∀ k, k < 424 → gA 424 ad s.heap.size (ad k) := fun _ h => gA_in h
  have hl : lv_has ls 6 [(0, .ref (ad 0)), (1, .int (nI u)), (2, .int b)] := hl
  have hP0 := hP
  refine lv_aload_n hx hb mD_TG_pile_0 rfl (lv_at hl 0 rfl) ?_
  refine lv_iload_n hx hb mD_TG_pile_1 rfl (lv_at hl 1 rfl) ?_
  refine gc_Vr (As := [.int (nI u)]) (rest := []) hx hb hml hown htw hK hP hS 0 (k_TG_cellOf l D ct ad hI x (q := u) hu (tR_th hR hu hut)) gZ0_ok (fun _ _ _ => trivial) (gA_mono hS.1) (by decide) rfl rfl ww_381 ww_383 ww_5 ww_23 wC_TG_cellOf mP_TG_cellOf (by decide) rfl hl.1 rfl (Nat.le_of_ble_eq_true rfl) mD_TG_pile_2 ⟨Nat.le_of_ble_eq_true rfl, Nat.le_of_ble_eq_true rfl⟩ (fun r2 x1 H locs hp1 hP _ _ hS => ?_)
  obtain ⟨ra, hq_⟩ := hp1
  subst ra
  rw [hq_] at hP
  refine lv_astore_n (lv' := [(3, .ref (ad ((110 + 2 * u)))), (0, .ref (ad 0)), (1, .int (nI u)), (2, .int b)]) hx hb mD_TG_pile_5 rfl hl (by decide) rfl (fun ls hl => ?_)
  refine lv_aload_n hx hb mD_TG_pile_6 rfl (lv_at hl 1 rfl) ?_
  refine lv_iload_n hx hb mD_TG_pile_7 rfl (lv_at hl 3 rfl) ?_
  refine lv_bipush (v := nI 100) hx hb mD_TG_pile_8 (by decide) ?_
  refine tx_call (As := [.int b, .int (nI 100)]) (rest := []) hx hb hml hown htw hK hP hS 0 (x_TG_checkRange l D ct ad hI x hls h0 b (N := 100) (by decide) hn) (tZ_ok s0) (tZ_at hZ hS) (gA_mono hS.1) (by decide) rfl rfl ww_439 ww_441 ww_6 ww_23 wC_TG_checkRange mP_TG_checkRange (by decide) rfl hl.1 rfl (Nat.le_of_ble_eq_true rfl) mD_TG_pile_10 ⟨Nat.le_of_ble_eq_true rfl, Nat.le_of_ble_eq_true rfl⟩ (fun q ce x3 H locs hp hP _ _ hS hce hcv hcl => ?_)
  exact tx_out hno hlocks hP hS (hp ▸ hR) hce hcv hcl (by decide) (by decide)

set_option maxHeartbeats 4000000 in
set_option maxRecDepth 100000 in
theorem x_TG_pile3 (l : Launch) (D : va_G) (ct : Nat → ClassId) (ad : Nat → Nat) (hI : gw_inj 424 ad) (x : tS) (hls : l.stackTraces = false) {s0 : State} {zt : Nat → Nat} (h0 : tO s0 zt) (α : tA) (hR : tR α x.1) {u : Nat} (hu : u < 120) (hut : aT α u = true) {k : Nat} (hn : k ≤ 100) (hbd : 1073741824 ≤ aB α u * (8 * k + 1)) : gX l mY_TG_pile mB_TG_pile 6 (some .int) (rX 7 104) D (tT ct) (tZ s0) 424 ad (tD ct ad) [.ref (ad 0), .int (nI u), .int (nI k)] x tX_S (fun x' => tR α x'.1) := by
  refine gX_enter (by decide) (Nat.le_of_ble_eq_true rfl) ?_
  intro p e s m below meth c ls hx hb hr htw hown hlocks hml hl hP hK hZ hS hno
  have hA : ∀ k, k < 424 → gA 424 ad s.heap.size (ad k) := fun _ h => gA_in h
  have hl : lv_has ls 6 [(0, .ref (ad 0)), (1, .int (nI u)), (2, .int (nI k))] := hl
  have hP0 := hP
  refine lv_aload_n hx hb mD_TG_pile_0 rfl (lv_at hl 0 rfl) ?_
  refine lv_iload_n hx hb mD_TG_pile_1 rfl (lv_at hl 1 rfl) ?_
  refine gc_Vr (As := [.int (nI u)]) (rest := []) hx hb hml hown htw hK hP hS 0 (k_TG_cellOf l D ct ad hI x (q := u) hu (tR_th hR hu hut)) gZ0_ok (fun _ _ _ => trivial) (gA_mono hS.1) (by decide) rfl rfl ww_381 ww_383 ww_5 ww_23 wC_TG_cellOf mP_TG_cellOf (by decide) rfl hl.1 rfl (Nat.le_of_ble_eq_true rfl) mD_TG_pile_2 ⟨Nat.le_of_ble_eq_true rfl, Nat.le_of_ble_eq_true rfl⟩ (fun r2 x1 H locs hp1 hP _ _ hS => ?_)
  obtain ⟨ra, hq_⟩ := hp1
  subst ra
  rw [hq_] at hP
  refine lv_astore_n (lv' := [(3, .ref (ad ((110 + 2 * u)))), (0, .ref (ad 0)), (1, .int (nI u)), (2, .int (nI k))]) hx hb mD_TG_pile_5 rfl hl (by decide) rfl (fun ls hl => ?_)
  have hu0 := (hR.2.1 u hu).2 hut
  have hkc := tCe_led hu
  refine lv_aload_n hx hb mD_TG_pile_6 rfl (lv_at hl 1 rfl) ?_
  refine lv_iload_n hx hb mD_TG_pile_7 rfl (lv_at hl 3 rfl) ?_
  refine lv_bipush (v := nI 100) hx hb mD_TG_pile_8 (by decide) ?_
  refine gc_Vv (As := [.int (nI k), .int (nI 100)]) (rest := []) hx hb hml hown htw hK hP hS 0 (k_TG_checkRange l D ct ad hI x (q := k) (N := 100) hn (by decide)) gZ0_ok (fun _ _ _ => trivial) (gA_mono hS.1) (by decide) rfl rfl ww_439 ww_441 ww_6 ww_23 wC_TG_checkRange mP_TG_checkRange (by decide) rfl hl.1 rfl (Nat.le_of_ble_eq_true rfl) mD_TG_pile_10 ⟨Nat.le_of_ble_eq_true rfl, Nat.le_of_ble_eq_true rfl⟩ (fun x3 H locs hp3 hP _ _ hS => ?_)
  have hq_ := hp3
  rw [hq_] at hP
  refine lv_bipush (v := nI 8) hx hb mD_TG_pile_13 (by decide) ?_
  refine lv_iload_n hx hb mD_TG_pile_15 rfl (lv_at hl 3 rfl) ?_
  refine lv_imul hx hb mD_TG_pile_16 ?_
  refine lv_iconst (v := nI 1) hx hb mD_TG_pile_17 (by decide) ?_
  refine lv_iadd hx hb mD_TG_pile_18 ?_
  rw [tn_8k]
  refine lv_istore (lv' := [(4, .int (nI (8 * k + 1))), (3, .ref (ad ((110 + 2 * u)))), (0, .ref (ad 0)), (1, .int (nI u)), (2, .int (nI k))]) hx hb mD_TG_pile_19 hl (by decide) rfl (fun ls hl => ?_)
  refine lv_aload_n hx hb mD_TG_pile_21 rfl (lv_at hl 2 rfl) ?_
  refine lv_aload_n hx hb mD_TG_pile_22 rfl (lv_at hl 1 rfl) ?_
  refine t_get (C := cN_Ce) (T := cF_Ce) (N := 4) (ci := 0) hx hb htw wU_Ce hown hK hP ((110 + 2 * u)) (tCe_lt (tCe_led (c := u) hu)) (tE_cell (tCe_led (c := u) hu)) rfl 1 (by decide) rfl ww_125 rfl mD_TG_pile_23 ?_
  refine lv_i2l hx hb mD_TG_pile_26 rfl ?_
  refine lv_iload hx hb mD_TG_pile_27 (lv_at hl 0 rfl) ?_
  refine lv_i2l hx hb mD_TG_pile_29 rfl ?_
  refine lv_lmul hx hb mD_TG_pile_30 ?_
  rw [tn_pile hu0.2.1 hu0.1 hn]
  refine tx_call (As := [.long (lN (aB α u * (8 * k + 1)))]) (rest := []) hx hb hml hown htw hK hP hS 0 (x_TG_checkedBound l D ct ad hI x hls h0 (q := aB α u * (8 * k + 1)) hbd (tn_plt hu0.1 hn)) (tZ_ok s0) (tZ_at hZ hS) (gA_mono hS.1) (by decide) rfl rfl ww_460 ww_462 ww_7 ww_23 wC_TG_checkedBound mP_TG_checkedBound (by decide) rfl hl.1 rfl (Nat.le_of_ble_eq_true rfl) mD_TG_pile_31 ⟨Nat.le_of_ble_eq_true rfl, Nat.le_of_ble_eq_true rfl⟩ (fun q ce x5 H locs hp hP _ _ hS hce hcv hcl => ?_)
  exact tx_out hno hlocks hP hS (hp ▸ hR) hce hcv hcl (by decide) (by decide)

set_option maxHeartbeats 4000000 in
set_option maxRecDepth 100000 in
theorem k_TG_line (l : Launch) (D : va_G) (ct : Nat → ClassId) (ad : Nat → Nat) (hI : gw_inj 424 ad) (x : tS) (α : tA) (hR : tR α x.1) {gt p1 p2 : Nat} (hgt : gt < 8) (ha1 : p1 < 8 + aZ α) (ha2 : p2 < 8 + aZ α) (hz : aZ α < 24) : gMi l mY_TG_line mB_TG_line 4 (some .int) (rF 1 23) D (tT ct) gZ0 424 ad (tD ct ad) [.ref (ad 0), .int (nI gt), .int (nI p1), .int (nI p2)] x (fun r x' => r = nI (8 + aZ α) ∧ tR (aLine α (gt, p1, p2)) x'.1) := by
  refine gMi_enter (by decide) (Nat.le_of_ble_eq_true rfl) ?_
  intro p e s m below meth c ls hx hb hr htw hown hlocks hml hl hP hK hZ hS
  have hA : ∀ k, k < 424 → gA 424 ad s.heap.size (ad k) := fun _ h => gA_in h
  have hl : lv_has ls 4 [(0, .ref (ad 0)), (1, .int (nI gt)), (2, .int (nI p1)), (3, .int (nI p2))] := hl
  refine lv_aload_n hx hb mD_TG_line_0 rfl (lv_at hl 0 rfl) ?_
  refine lv_iload_n hx hb mD_TG_line_1 rfl (lv_at hl 1 rfl) ?_
  refine gc_Vv (As := [.int (nI gt)]) (rest := []) hx hb hml hown htw hK hP hS 0 (k_TG_checkKind l D ct ad hI x (q := gt) hgt) gZ0_ok (fun _ _ _ => trivial) (gA_mono hS.1) (by decide) rfl rfl ww_485 ww_487 ww_8 ww_23 wC_TG_checkKind mP_TG_checkKind (by decide) rfl hl.1 rfl (Nat.le_of_ble_eq_true rfl) mD_TG_line_2 ⟨Nat.le_of_ble_eq_true rfl, Nat.le_of_ble_eq_true rfl⟩ (fun x1 H locs hp1 hP _ _ hS => ?_)
  have hq_ := hp1
  rw [hq_] at hP
  refine lv_aload_n hx hb mD_TG_line_5 rfl (lv_at hl 0 rfl) ?_
  refine t_get (C := cN_TG) (T := cF_TG) (N := 12) (ci := 7) hx hb htw wU_TG hown hK hP 0 (by decide) rfl rfl 5 (by decide) rfl ww_227 rfl mD_TG_line_6 ?_
  refine lv_iload_n hx hb mD_TG_line_9 rfl (lv_at hl 2 rfl) ?_
  refine gc_Vi (As := [.int (nI p1)]) (rest := []) hx hb hml hown htw hK hP hS 350 (k_Ci_isAhead l D ct ad hI x (nI p1) hR.2.2.2.1.2.1 hR.2.2.2.1.1) gZ0_ok (fun _ _ _ => trivial) (gA_mono hS.1) (by decide) rfl rfl ww_598 ww_599 ww_600 ww_30 wC_Ci_isAhead mP_Ci_isAhead (by decide) rfl hl.1 rfl (Nat.le_of_ble_eq_true rfl) mD_TG_line_10 ⟨Nat.le_of_ble_eq_true rfl, Nat.le_of_ble_eq_true rfl⟩ (fun r4 x3 H locs hp3 hP _ _ hS => ?_)
  obtain ⟨hq_, r1⟩ := hp3
  rw [hq_] at hP
  refine lv_if_eq (tgt := 27) hx hb mD_TG_line_13 rfl (fun hc => ?_) (fun hc => ?_)
  · skip
    exfalso; rcases r1 with ⟨e, _⟩ | ⟨_, h⟩; exact absurd (e.symm.trans hc) (by decide); exact h ⟨p1, ha1, rfl⟩
  · skip
    refine lv_aload_n hx hb mD_TG_line_16 rfl (lv_at hl 0 rfl) ?_
    refine t_get (C := cN_TG) (T := cF_TG) (N := 12) (ci := 7) hx hb htw wU_TG hown hK hP 0 (by decide) rfl rfl 5 (by decide) rfl ww_227 rfl mD_TG_line_17 ?_
    refine lv_iload_n hx hb mD_TG_line_20 rfl (lv_at hl 3 rfl) ?_
    refine gc_Vi (As := [.int (nI p2)]) (rest := []) hx hb hml hown htw hK hP hS 350 (k_Ci_isAhead l D ct ad hI x (nI p2) hR.2.2.2.1.2.1 hR.2.2.2.1.1) gZ0_ok (fun _ _ _ => trivial) (gA_mono hS.1) (by decide) rfl rfl ww_598 ww_599 ww_600 ww_30 wC_Ci_isAhead mP_Ci_isAhead (by decide) rfl hl.1 rfl (Nat.le_of_ble_eq_true rfl) mD_TG_line_21 ⟨Nat.le_of_ble_eq_true rfl, Nat.le_of_ble_eq_true rfl⟩ (fun r6 x5 H locs hp5 hP _ _ hS => ?_)
    obtain ⟨hq_, r2⟩ := hp5
    rw [hq_] at hP
    refine lv_if_ne (tgt := 37) hx hb mD_TG_line_24 rfl (fun hc => ?_) (fun hc => ?_)
    · skip
      refine lv_aload_n hx hb mD_TG_line_37 rfl (lv_at hl 0 rfl) ?_
      refine t_get (C := cN_TG) (T := cF_TG) (N := 12) (ci := 7) hx hb htw wU_TG hown hK hP 0 (by decide) rfl rfl 5 (by decide) rfl ww_227 rfl mD_TG_line_38 ?_
      refine t_get (C := cN_Ci) (T := cF_Ci) (N := 4) (ci := 1) hx hb htw wU_Ci hown hK hP 350 (by decide) rfl rfl 3 (by decide) rfl ww_161 rfl mD_TG_line_41 ?_
      refine lv_bipush (v := nI 24) hx hb mD_TG_line_44 (by decide) ?_
      refine lv_icmp_ne (tgt := 59) hx hb mD_TG_line_46 rfl (fun hc => ?_) (fun hc => ?_)
      · skip
        refine lv_aload_n hx hb mD_TG_line_59 rfl (lv_at hl 0 rfl) ?_
        refine t_get (C := cN_TG) (T := cF_TG) (N := 12) (ci := 7) hx hb htw wU_TG hown hK hP 0 (by decide) rfl rfl 5 (by decide) rfl ww_227 rfl mD_TG_line_60 ?_
        refine lv_iload_n hx hb mD_TG_line_63 rfl (lv_at hl 1 rfl) ?_
        refine lv_iload_n hx hb mD_TG_line_64 rfl (lv_at hl 2 rfl) ?_
        refine lv_iload_n hx hb mD_TG_line_65 rfl (lv_at hl 3 rfl) ?_
        refine gc_Vi (As := [.int (nI gt), .int (nI p1), .int (nI p2)]) (rest := []) hx hb hml hown htw hK hP hS 350 (k_Ci_add l D ct ad hI x (nI gt) (nI p1) (nI p2) hR.2.2.2.1.2.1 hz) gZ0_ok (fun _ _ _ => trivial) (gA_mono hS.1) (by decide) rfl rfl ww_604 ww_605 ww_606 ww_30 wC_Ci_add mP_Ci_add (by decide) rfl hl.1 rfl (Nat.le_of_ble_eq_true rfl) mD_TG_line_66 ⟨Nat.le_of_ble_eq_true rfl, Nat.le_of_ble_eq_true rfl⟩ (fun r8 x7 H locs hp7 hP _ _ hS => ?_)
        obtain ⟨rfl, e1⟩ := hp7
        exact gw_iret hx hb hr hlocks hP hS (⟨rfl, tR_line (ln := (gt, p1, p2)) hR hz hgt ha1 ha2 e1⟩) mD_TG_line_69 (Nat.zero_le _) (Nat.zero_le _)
      · skip
        exfalso; rw [hR.2.2.2.1.2.1] at hc; have := (nI_eq (by omega) (by omega)).mp hc; omega
    · skip
      exfalso; rcases r2 with ⟨e, _⟩ | ⟨_, h⟩; exact absurd (e.symm.trans hc) (by decide); exact h ⟨p2, ha2, rfl⟩

set_option maxHeartbeats 4000000 in
set_option maxRecDepth 100000 in
theorem x_TG_line1 (l : Launch) (D : va_G) (ct : Nat → ClassId) (ad : Nat → Nat) (hI : gw_inj 424 ad) (x : tS) (hls : l.stackTraces = false) {s0 : State} {zt : Nat → Nat} (h0 : tO s0 zt) (α : tA) (hR : tR α x.1) (a b c_ : Int32) (hh : ¬ ∃ q, q < 8 ∧ a = nI q) : gX l mY_TG_line mB_TG_line 4 (some .int) (rX 7 103) D (tT ct) (tZ s0) 424 ad (tD ct ad) [.ref (ad 0), .int a, .int b, .int c_] x tX_N (fun x' => tR α x'.1) := by
  refine gX_enter (by decide) (Nat.le_of_ble_eq_true rfl) ?_
  intro p e s m below meth c ls hx hb hr htw hown hlocks hml hl hP hK hZ hS hno
  have hA : ∀ k, k < 424 → gA 424 ad s.heap.size (ad k) := fun _ h => gA_in h
  have hl : lv_has ls 4 [(0, .ref (ad 0)), (1, .int a), (2, .int b), (3, .int c_)] := hl
  have hP0 := hP
  refine lv_aload_n hx hb mD_TG_line_0 rfl (lv_at hl 0 rfl) ?_
  refine lv_iload_n hx hb mD_TG_line_1 rfl (lv_at hl 1 rfl) ?_
  refine tx_call (As := [.int a]) (rest := []) hx hb hml hown htw hK hP hS 0 (x_TG_checkKind l D ct ad hI x hls h0 a hh) (tZ_ok s0) (tZ_at hZ hS) (gA_mono hS.1) (by decide) rfl rfl ww_485 ww_487 ww_8 ww_23 wC_TG_checkKind mP_TG_checkKind (by decide) rfl hl.1 rfl (Nat.le_of_ble_eq_true rfl) mD_TG_line_2 ⟨Nat.le_of_ble_eq_true rfl, Nat.le_of_ble_eq_true rfl⟩ (fun q ce x1 H locs hp hP _ _ hS hce hcv hcl => ?_)
  exact tx_out hno hlocks hP hS (hp ▸ hR) hce hcv hcl (by decide) (by decide)

set_option maxHeartbeats 4000000 in
set_option maxRecDepth 100000 in
theorem x_TG_line2 (l : Launch) (D : va_G) (ct : Nat → ClassId) (ad : Nat → Nat) (hI : gw_inj 424 ad) (x : tS) (hls : l.stackTraces = false) {s0 : State} {zt : Nat → Nat} (h0 : tO s0 zt) (α : tA) (hR : tR α x.1) {gt : Nat} (hgt : gt < 8) (b c_ : Int32) (hh : ¬ ∃ q, q < 8 + aZ α ∧ b = nI q) : gX l mY_TG_line mB_TG_line 4 (some .int) (rX 7 103) D (tT ct) (tZ s0) 424 ad (tD ct ad) [.ref (ad 0), .int (nI gt), .int b, .int c_] x tX_N (fun x' => tR α x'.1) := by
  refine gX_enter (by decide) (Nat.le_of_ble_eq_true rfl) ?_
  intro p e s m below meth c ls hx hb hr htw hown hlocks hml hl hP hK hZ hS hno
  have hA : ∀ k, k < 424 → gA 424 ad s.heap.size (ad k) := fun _ h => gA_in h
  have hl : lv_has ls 4 [(0, .ref (ad 0)), (1, .int (nI gt)), (2, .int b), (3, .int c_)] := hl
  have hP0 := hP
  refine lv_aload_n hx hb mD_TG_line_0 rfl (lv_at hl 0 rfl) ?_
  refine lv_iload_n hx hb mD_TG_line_1 rfl (lv_at hl 1 rfl) ?_
  refine gc_Vv (As := [.int (nI gt)]) (rest := []) hx hb hml hown htw hK hP hS 0 (k_TG_checkKind l D ct ad hI x (q := gt) hgt) gZ0_ok (fun _ _ _ => trivial) (gA_mono hS.1) (by decide) rfl rfl ww_485 ww_487 ww_8 ww_23 wC_TG_checkKind mP_TG_checkKind (by decide) rfl hl.1 rfl (Nat.le_of_ble_eq_true rfl) mD_TG_line_2 ⟨Nat.le_of_ble_eq_true rfl, Nat.le_of_ble_eq_true rfl⟩ (fun x1 H locs hp1 hP _ _ hS => ?_)
  have hq_ := hp1
  rw [hq_] at hP
  refine lv_aload_n hx hb mD_TG_line_5 rfl (lv_at hl 0 rfl) ?_
  refine t_get (C := cN_TG) (T := cF_TG) (N := 12) (ci := 7) hx hb htw wU_TG hown hK hP 0 (by decide) rfl rfl 5 (by decide) rfl ww_227 rfl mD_TG_line_6 ?_
  refine lv_iload_n hx hb mD_TG_line_9 rfl (lv_at hl 2 rfl) ?_
  refine gc_Vi (As := [.int b]) (rest := []) hx hb hml hown htw hK hP hS 350 (k_Ci_isAhead l D ct ad hI x b hR.2.2.2.1.2.1 hR.2.2.2.1.1) gZ0_ok (fun _ _ _ => trivial) (gA_mono hS.1) (by decide) rfl rfl ww_598 ww_599 ww_600 ww_30 wC_Ci_isAhead mP_Ci_isAhead (by decide) rfl hl.1 rfl (Nat.le_of_ble_eq_true rfl) mD_TG_line_10 ⟨Nat.le_of_ble_eq_true rfl, Nat.le_of_ble_eq_true rfl⟩ (fun r4 x3 H locs hp3 hP _ _ hS => ?_)
  obtain ⟨hq_, r1⟩ := hp3
  rw [hq_] at hP
  refine lv_if_eq (tgt := 27) hx hb mD_TG_line_13 rfl (fun hc => ?_) (fun hc => ?_)
  · skip
    obtain ⟨sa, hsa⟩ := tO_str h0 hZ 7 rfl
    exact tx_thN hx hb (hl.1.trans hml.symm) hown hls hno hlocks h0 hZ hsa hP0 hP hS (hR) (by decide) (by decide) (by decide) (by decide) (by decide) (by decide) mD_TG_line_27 mD_TG_line_30 mD_TG_line_31 mD_TG_line_33 mD_TG_line_36
  · skip
    exfalso; rcases r1 with ⟨_, h⟩ | ⟨e, _⟩; exact hh h; exact hc e

set_option maxHeartbeats 4000000 in
set_option maxRecDepth 100000 in
theorem x_TG_line3 (l : Launch) (D : va_G) (ct : Nat → ClassId) (ad : Nat → Nat) (hI : gw_inj 424 ad) (x : tS) (hls : l.stackTraces = false) {s0 : State} {zt : Nat → Nat} (h0 : tO s0 zt) (α : tA) (hR : tR α x.1) {gt p1 : Nat} (hgt : gt < 8) (ha1 : p1 < 8 + aZ α) (c_ : Int32) (hh : ¬ ∃ q, q < 8 + aZ α ∧ c_ = nI q) : gX l mY_TG_line mB_TG_line 4 (some .int) (rX 7 103) D (tT ct) (tZ s0) 424 ad (tD ct ad) [.ref (ad 0), .int (nI gt), .int (nI p1), .int c_] x tX_N (fun x' => tR α x'.1) := by
  refine gX_enter (by decide) (Nat.le_of_ble_eq_true rfl) ?_
  intro p e s m below meth c ls hx hb hr htw hown hlocks hml hl hP hK hZ hS hno
  have hA : ∀ k, k < 424 → gA 424 ad s.heap.size (ad k) := fun _ h => gA_in h
  have hl : lv_has ls 4 [(0, .ref (ad 0)), (1, .int (nI gt)), (2, .int (nI p1)), (3, .int c_)] := hl
  have hP0 := hP
  refine lv_aload_n hx hb mD_TG_line_0 rfl (lv_at hl 0 rfl) ?_
  refine lv_iload_n hx hb mD_TG_line_1 rfl (lv_at hl 1 rfl) ?_
  refine gc_Vv (As := [.int (nI gt)]) (rest := []) hx hb hml hown htw hK hP hS 0 (k_TG_checkKind l D ct ad hI x (q := gt) hgt) gZ0_ok (fun _ _ _ => trivial) (gA_mono hS.1) (by decide) rfl rfl ww_485 ww_487 ww_8 ww_23 wC_TG_checkKind mP_TG_checkKind (by decide) rfl hl.1 rfl (Nat.le_of_ble_eq_true rfl) mD_TG_line_2 ⟨Nat.le_of_ble_eq_true rfl, Nat.le_of_ble_eq_true rfl⟩ (fun x1 H locs hp1 hP _ _ hS => ?_)
  have hq_ := hp1
  rw [hq_] at hP
  refine lv_aload_n hx hb mD_TG_line_5 rfl (lv_at hl 0 rfl) ?_
  refine t_get (C := cN_TG) (T := cF_TG) (N := 12) (ci := 7) hx hb htw wU_TG hown hK hP 0 (by decide) rfl rfl 5 (by decide) rfl ww_227 rfl mD_TG_line_6 ?_
  refine lv_iload_n hx hb mD_TG_line_9 rfl (lv_at hl 2 rfl) ?_
  refine gc_Vi (As := [.int (nI p1)]) (rest := []) hx hb hml hown htw hK hP hS 350 (k_Ci_isAhead l D ct ad hI x (nI p1) hR.2.2.2.1.2.1 hR.2.2.2.1.1) gZ0_ok (fun _ _ _ => trivial) (gA_mono hS.1) (by decide) rfl rfl ww_598 ww_599 ww_600 ww_30 wC_Ci_isAhead mP_Ci_isAhead (by decide) rfl hl.1 rfl (Nat.le_of_ble_eq_true rfl) mD_TG_line_10 ⟨Nat.le_of_ble_eq_true rfl, Nat.le_of_ble_eq_true rfl⟩ (fun r4 x3 H locs hp3 hP _ _ hS => ?_)
  obtain ⟨hq_, r1⟩ := hp3
  rw [hq_] at hP
  refine lv_if_eq (tgt := 27) hx hb mD_TG_line_13 rfl (fun hc => ?_) (fun hc => ?_)
  · skip
    exfalso; rcases r1 with ⟨e, _⟩ | ⟨_, h⟩; exact absurd (e.symm.trans hc) (by decide); exact h ⟨p1, ha1, rfl⟩
  · skip
    refine lv_aload_n hx hb mD_TG_line_16 rfl (lv_at hl 0 rfl) ?_
    refine t_get (C := cN_TG) (T := cF_TG) (N := 12) (ci := 7) hx hb htw wU_TG hown hK hP 0 (by decide) rfl rfl 5 (by decide) rfl ww_227 rfl mD_TG_line_17 ?_
    refine lv_iload_n hx hb mD_TG_line_20 rfl (lv_at hl 3 rfl) ?_
    refine gc_Vi (As := [.int c_]) (rest := []) hx hb hml hown htw hK hP hS 350 (k_Ci_isAhead l D ct ad hI x c_ hR.2.2.2.1.2.1 hR.2.2.2.1.1) gZ0_ok (fun _ _ _ => trivial) (gA_mono hS.1) (by decide) rfl rfl ww_598 ww_599 ww_600 ww_30 wC_Ci_isAhead mP_Ci_isAhead (by decide) rfl hl.1 rfl (Nat.le_of_ble_eq_true rfl) mD_TG_line_21 ⟨Nat.le_of_ble_eq_true rfl, Nat.le_of_ble_eq_true rfl⟩ (fun r6 x5 H locs hp5 hP _ _ hS => ?_)
    obtain ⟨hq_, r2⟩ := hp5
    rw [hq_] at hP
    refine lv_if_ne (tgt := 37) hx hb mD_TG_line_24 rfl (fun hc => ?_) (fun hc => ?_)
    · skip
      exfalso; rcases r2 with ⟨_, h⟩ | ⟨e, _⟩; exact hh h; exact hc e
    · skip
      obtain ⟨sa, hsa⟩ := tO_str h0 hZ 7 rfl
      exact tx_thN hx hb (hl.1.trans hml.symm) hown hls hno hlocks h0 hZ hsa hP0 hP hS (hR) (by decide) (by decide) (by decide) (by decide) (by decide) (by decide) mD_TG_line_27 mD_TG_line_30 mD_TG_line_31 mD_TG_line_33 mD_TG_line_36

set_option maxHeartbeats 4000000 in
set_option maxRecDepth 100000 in
theorem x_TG_line4 (l : Launch) (D : va_G) (ct : Nat → ClassId) (ad : Nat → Nat) (hI : gw_inj 424 ad) (x : tS) (hls : l.stackTraces = false) {s0 : State} {zt : Nat → Nat} (h0 : tO s0 zt) (α : tA) (hR : tR α x.1) {gt p1 p2 : Nat} (hgt : gt < 8) (ha1 : p1 < 8 + aZ α) (ha2 : p2 < 8 + aZ α) (hz : aZ α = 24) : gX l mY_TG_line mB_TG_line 4 (some .int) (rX 7 103) D (tT ct) (tZ s0) 424 ad (tD ct ad) [.ref (ad 0), .int (nI gt), .int (nI p1), .int (nI p2)] x tX_S (fun x' => tR α x'.1) := by
  refine gX_enter (by decide) (Nat.le_of_ble_eq_true rfl) ?_
  intro p e s m below meth c ls hx hb hr htw hown hlocks hml hl hP hK hZ hS hno
  have hA : ∀ k, k < 424 → gA 424 ad s.heap.size (ad k) := fun _ h => gA_in h
  have hl : lv_has ls 4 [(0, .ref (ad 0)), (1, .int (nI gt)), (2, .int (nI p1)), (3, .int (nI p2))] := hl
  have hP0 := hP
  refine lv_aload_n hx hb mD_TG_line_0 rfl (lv_at hl 0 rfl) ?_
  refine lv_iload_n hx hb mD_TG_line_1 rfl (lv_at hl 1 rfl) ?_
  refine gc_Vv (As := [.int (nI gt)]) (rest := []) hx hb hml hown htw hK hP hS 0 (k_TG_checkKind l D ct ad hI x (q := gt) hgt) gZ0_ok (fun _ _ _ => trivial) (gA_mono hS.1) (by decide) rfl rfl ww_485 ww_487 ww_8 ww_23 wC_TG_checkKind mP_TG_checkKind (by decide) rfl hl.1 rfl (Nat.le_of_ble_eq_true rfl) mD_TG_line_2 ⟨Nat.le_of_ble_eq_true rfl, Nat.le_of_ble_eq_true rfl⟩ (fun x1 H locs hp1 hP _ _ hS => ?_)
  have hq_ := hp1
  rw [hq_] at hP
  refine lv_aload_n hx hb mD_TG_line_5 rfl (lv_at hl 0 rfl) ?_
  refine t_get (C := cN_TG) (T := cF_TG) (N := 12) (ci := 7) hx hb htw wU_TG hown hK hP 0 (by decide) rfl rfl 5 (by decide) rfl ww_227 rfl mD_TG_line_6 ?_
  refine lv_iload_n hx hb mD_TG_line_9 rfl (lv_at hl 2 rfl) ?_
  refine gc_Vi (As := [.int (nI p1)]) (rest := []) hx hb hml hown htw hK hP hS 350 (k_Ci_isAhead l D ct ad hI x (nI p1) hR.2.2.2.1.2.1 hR.2.2.2.1.1) gZ0_ok (fun _ _ _ => trivial) (gA_mono hS.1) (by decide) rfl rfl ww_598 ww_599 ww_600 ww_30 wC_Ci_isAhead mP_Ci_isAhead (by decide) rfl hl.1 rfl (Nat.le_of_ble_eq_true rfl) mD_TG_line_10 ⟨Nat.le_of_ble_eq_true rfl, Nat.le_of_ble_eq_true rfl⟩ (fun r4 x3 H locs hp3 hP _ _ hS => ?_)
  obtain ⟨hq_, r1⟩ := hp3
  rw [hq_] at hP
  refine lv_if_eq (tgt := 27) hx hb mD_TG_line_13 rfl (fun hc => ?_) (fun hc => ?_)
  · skip
    exfalso; rcases r1 with ⟨e, _⟩ | ⟨_, h⟩; exact absurd (e.symm.trans hc) (by decide); exact h ⟨p1, ha1, rfl⟩
  · skip
    refine lv_aload_n hx hb mD_TG_line_16 rfl (lv_at hl 0 rfl) ?_
    refine t_get (C := cN_TG) (T := cF_TG) (N := 12) (ci := 7) hx hb htw wU_TG hown hK hP 0 (by decide) rfl rfl 5 (by decide) rfl ww_227 rfl mD_TG_line_17 ?_
    refine lv_iload_n hx hb mD_TG_line_20 rfl (lv_at hl 3 rfl) ?_
    refine gc_Vi (As := [.int (nI p2)]) (rest := []) hx hb hml hown htw hK hP hS 350 (k_Ci_isAhead l D ct ad hI x (nI p2) hR.2.2.2.1.2.1 hR.2.2.2.1.1) gZ0_ok (fun _ _ _ => trivial) (gA_mono hS.1) (by decide) rfl rfl ww_598 ww_599 ww_600 ww_30 wC_Ci_isAhead mP_Ci_isAhead (by decide) rfl hl.1 rfl (Nat.le_of_ble_eq_true rfl) mD_TG_line_21 ⟨Nat.le_of_ble_eq_true rfl, Nat.le_of_ble_eq_true rfl⟩ (fun r6 x5 H locs hp5 hP _ _ hS => ?_)
    obtain ⟨hq_, r2⟩ := hp5
    rw [hq_] at hP
    refine lv_if_ne (tgt := 37) hx hb mD_TG_line_24 rfl (fun hc => ?_) (fun hc => ?_)
    · skip
      refine lv_aload_n hx hb mD_TG_line_37 rfl (lv_at hl 0 rfl) ?_
      refine t_get (C := cN_TG) (T := cF_TG) (N := 12) (ci := 7) hx hb htw wU_TG hown hK hP 0 (by decide) rfl rfl 5 (by decide) rfl ww_227 rfl mD_TG_line_38 ?_
      refine t_get (C := cN_Ci) (T := cF_Ci) (N := 4) (ci := 1) hx hb htw wU_Ci hown hK hP 350 (by decide) rfl rfl 3 (by decide) rfl ww_161 rfl mD_TG_line_41 ?_
      refine lv_bipush (v := nI 24) hx hb mD_TG_line_44 (by decide) ?_
      refine lv_icmp_ne (tgt := 59) hx hb mD_TG_line_46 rfl (fun hc => ?_) (fun hc => ?_)
      · skip
        exfalso; rw [hR.2.2.2.1.2.1] at hc; exact hc (by rw [hz])
      · skip
        obtain ⟨sa, hsa⟩ := tO_str h0 hZ 8 rfl
        exact tx_thS hx hb (hl.1.trans hml.symm) hown hls hno hlocks h0 hZ hsa hP0 hP hS (hR) (by decide) (by decide) (by decide) (by decide) (by decide) (by decide) mD_TG_line_49 mD_TG_line_52 mD_TG_line_53 mD_TG_line_55 mD_TG_line_58
    · skip
      exfalso; rcases r2 with ⟨e, _⟩ | ⟨_, h⟩; exact absurd (e.symm.trans hc) (by decide); exact h ⟨p2, ha2, rfl⟩
