/-! leaves: digits, weights, turned numbers, places, the source. Laid by wip/whole/part_leaf.py. -/
abbrev rF (f lo : Nat) : Room := { frames := f, cells := 0, slots := 0, locals := lo }
theorem gw_nmQ {p : Program} {l : Launch} {e : Env} {R : Room} {s : State} {m : MethodId} {args : Array Value} {below : List Frame} {meth : Method} {c : Code} {H : Heap} {locs : List Loc} {cells slots : Nat} {Q : State → Prop} {g : JFrame}
    (k : ∀ Q' : State → Prop, Q' = Q → W p l e R s m args below meth c H locs cells slots Q' g) : W p l e R s m args below meth c H locs cells slots Q g := k Q rfl

set_option maxHeartbeats 4000000 in
set_option maxRecDepth 100000 in
theorem k_Di_digit (l : Launch) (D : va_G) (ct : Nat → ClassId) (ad : Nat → Nat) (hI : gw_inj 424 ad) (x : tS) (a : Int32) {w : Nat} (hw : w < 2) : gMi l mY_Di_digit mB_Di_digit 2 (some .int) (rF 0 0) D (tT ct) gZ0 424 ad (tD ct ad) [.int a, .int (nI w)] x (fun r x' => x' = x ∧ r = tp_dg w a) := by
  refine gMi_enter (by decide) (Nat.le_of_ble_eq_true rfl) ?_
  intro p e s m below meth c ls hx hb hr htw hown hlocks hml hl hP hK hZ hS
  have hA : ∀ k, k < 424 → gA 424 ad s.heap.size (ad k) := fun _ h => gA_in h
  have hl : lv_has ls 2 [(0, .int a), (1, .int (nI w))] := hl
  refine lv_iload_n hx hb mD_Di_digit_0 rfl (lv_at hl 0 rfl) ?_
  refine lv_ldc hx hb hown (htw _ ww_544) mD_Di_digit_1 ?_
  refine lv_iadd hx hb mD_Di_digit_3 ?_
  refine lv_bipush (v := nI 22) hx hb mD_Di_digit_4 (by decide) ?_
  refine lv_bipush (v := nI 10) hx hb mD_Di_digit_6 (by decide) ?_
  refine lv_iload_n hx hb mD_Di_digit_8 rfl (lv_at hl 1 rfl) ?_
  refine lv_imul hx hb mD_Di_digit_9 ?_
  refine lv_isub hx hb mD_Di_digit_10 ?_
  refine lv_iushr hx hb mD_Di_digit_11 rfl ?_
  refine lv_sipush (v := nI 1023) hx hb mD_Di_digit_12 (by decide) ?_
  refine lv_iand hx hb mD_Di_digit_15 ?_
  refine lv_sipush (v := nI 512) hx hb mD_Di_digit_16 (by decide) ?_
  refine lv_isub hx hb mD_Di_digit_19 ?_
  exact gw_iret hx hb hr hlocks hP hS (⟨rfl, tn_dg hw⟩) mD_Di_digit_20 (Nat.zero_le _) (Nat.zero_le _)

set_option maxHeartbeats 4000000 in
set_option maxRecDepth 100000 in
theorem k_Di_weight (l : Launch) (D : va_G) (ct : Nat → ClassId) (ad : Nat → Nat) (hI : gw_inj 424 ad) (x : tS) {w : Nat} (hw : w < 2) : gMi l mY_Di_weight mB_Di_weight 1 (some .int) (rF 0 0) D (tT ct) gZ0 424 ad (tD ct ad) [.int (nI w)] x (fun r x' => x' = x ∧ r = tp_W w) := by
  refine gMi_enter (by decide) (Nat.le_of_ble_eq_true rfl) ?_
  intro p e s m below meth c ls hx hb hr htw hown hlocks hml hl hP hK hZ hS
  have hA : ∀ k, k < 424 → gA 424 ad s.heap.size (ad k) := fun _ h => gA_in h
  have hl : lv_has ls 1 [(0, .int (nI w))] := hl
  refine lv_iconst (v := nI 1) hx hb mD_Di_weight_0 (by decide) ?_
  refine lv_bipush (v := nI 22) hx hb mD_Di_weight_1 (by decide) ?_
  refine lv_bipush (v := nI 10) hx hb mD_Di_weight_3 (by decide) ?_
  refine lv_iload_n hx hb mD_Di_weight_5 rfl (lv_at hl 0 rfl) ?_
  refine lv_imul hx hb mD_Di_weight_6 ?_
  refine lv_isub hx hb mD_Di_weight_7 ?_
  refine lv_ishl hx hb mD_Di_weight_8 ?_
  exact gw_iret hx hb hr hlocks hP hS (⟨rfl, tn_w hw⟩) mD_Di_weight_9 (Nat.zero_le _) (Nat.zero_le _)

set_option maxHeartbeats 4000000 in
set_option maxRecDepth 100000 in
theorem k_Re_roundToPlaces (l : Launch) (D : va_G) (ct : Nat → ClassId) (ad : Nat → Nat) (hI : gw_inj 424 ad) (x : tS) (a : Int32) : gMi l mY_Re_roundToPlaces mB_Re_roundToPlaces 1 (some .int) (rF 0 0) D (tT ct) gZ0 424 ad (tD ct ad) [.int a] x (fun r x' => x' = x ∧ r = nI (tp_rd a)) := by
  refine gMi_enter (by decide) (Nat.le_of_ble_eq_true rfl) ?_
  intro p e s m below meth c ls hx hb hr htw hown hlocks hml hl hP hK hZ hS
  have hA : ∀ k, k < 424 → gA 424 ad s.heap.size (ad k) := fun _ h => gA_in h
  have hl : lv_has ls 1 [(0, .int a)] := hl
  refine lv_iload_n hx hb mD_Re_roundToPlaces_0 rfl (lv_at hl 0 rfl) ?_
  refine lv_ldc hx hb hown (htw _ ww_523) mD_Re_roundToPlaces_1 ?_
  refine lv_iadd hx hb mD_Re_roundToPlaces_3 ?_
  refine lv_bipush (v := nI 26) hx hb mD_Re_roundToPlaces_4 (by decide) ?_
  refine lv_iushr hx hb mD_Re_roundToPlaces_6 rfl ?_
  exact gw_iret hx hb hr hlocks hP hS (⟨rfl, tn_rd a⟩) mD_Re_roundToPlaces_7 (Nat.zero_le _) (Nat.zero_le _)

theorem tn_ext {f : Nat → Int32} {i T : Nat} (hi : i < 32) (hT : T < 64) (h : (i + 64 - T) % 64 < 32) : f ((i + 64 - T) % 64) = tp_ext f ((i : Int) - T) := by
  unfold tp_ext
  have e : ((i : Int) - T) % 64 = (((i + 64 - T) % 64 : Nat) : Int) := by omega
  rw [e, if_pos (by omega), Int.toNat_natCast]
theorem tn_ext2 {f : Nat → Int32} {i T : Nat} (hi : i < 32) (hT : T < 64) (h : ¬ (i + 64 - T) % 64 < 32) : - f ((i + 64 - T) % 64 - 32) = tp_ext f ((i : Int) - T) := by
  unfold tp_ext
  have e : ((i : Int) - T) % 64 = (((i + 64 - T) % 64 : Nat) : Int) := by omega
  rw [e, if_neg (by omega)]
  congr 2
  omega

set_option maxHeartbeats 4000000 in
set_option maxRecDepth 100000 in
theorem k_Ri_turned (l : Launch) (D : va_G) (ct : Nat → ClassId) (ad : Nat → Nat) (hI : gw_inj 424 ad) (x : tS) {T i k fs : Nat} (hT : T < 64) (hi : i < 32) (hk : tPair k) (hfs : fs + 32 ≤ 64) : gMi l mY_Ri_turned mB_Ri_turned 5 (some .int) (rF 0 0) D (tT ct) gZ0 424 ad (tD ct ad) [.int (nI T), .int (nI i), .ref (ad k), .int (nI fs)] x (fun r x' => x' = x ∧ r = tp_ext (fun j => x.1 k (fs + j)) ((i : Int) - T)) := by
  refine gMi_enter (by decide) (Nat.le_of_ble_eq_true rfl) ?_
  intro p e s m below meth c ls hx hb hr htw hown hlocks hml hl hP hK hZ hS
  have hA : ∀ k, k < 424 → gA 424 ad s.heap.size (ad k) := fun _ h => gA_in h
  have hl : lv_has ls 5 [(0, .int (nI T)), (1, .int (nI i)), (2, .ref (ad k)), (3, .int (nI fs))] := hl
  refine lv_iload_n hx hb mD_Ri_turned_0 rfl (lv_at hl 1 rfl) ?_
  refine lv_iload_n hx hb mD_Ri_turned_1 rfl (lv_at hl 0 rfl) ?_
  refine lv_isub hx hb mD_Ri_turned_2 ?_
  refine lv_bipush (v := nI 63) hx hb mD_Ri_turned_3 (by decide) ?_
  refine lv_iand hx hb mD_Ri_turned_5 ?_
  refine lv_topi (fun at_ hat => ?_)
  rw [tn_turn (by omega) hT] at hat
  subst hat
  refine lv_istore (lv' := [(4, .int (nI ((i + 64 - T) % 64))), (0, .int (nI T)), (1, .int (nI i)), (2, .ref (ad k)), (3, .int (nI fs))]) hx hb mD_Ri_turned_6 hl (by decide) rfl (fun ls hl => ?_)
  refine lv_iload hx hb mD_Ri_turned_8 (lv_at hl 0 rfl) ?_
  refine lv_bipush (v := nI 32) hx hb mD_Ri_turned_10 (by decide) ?_
  refine lv_icmp_ge (tgt := 24) hx hb mD_Ri_turned_12 rfl (fun hc => ?_) (fun hc => ?_)
  · skip
    have hc := (nI_leI (by omega) (by omega)).mp hc
    refine lv_aload_n hx hb mD_Ri_turned_24 rfl (lv_at hl 3 rfl) ?_
    refine lv_iload_n hx hb mD_Ri_turned_25 rfl (lv_at hl 4 rfl) ?_
    refine lv_iload hx hb mD_Ri_turned_26 (lv_at hl 0 rfl) ?_
    refine lv_iadd hx hb mD_Ri_turned_28 ?_
    refine lv_bipush (v := nI 32) hx hb mD_Ri_turned_29 (by decide) ?_
    refine lv_isub hx hb mD_Ri_turned_31 ?_
    refine t_iald hx hb hK hP k 64 (tPair_lt hk) (tE_pair hk) ((fs + (((i + 64 - T) % 64) - 32))) (by rw [nI_add, pk_sub (by omega)]; congr 1; omega) (by omega) (by decide) mD_Ri_turned_32 ?_
    refine lv_ineg hx hb mD_Ri_turned_33 ?_
    exact gw_iret hx hb hr hlocks hP hS (⟨rfl, by first | exact tn_ext (f := fun j => x.1 k (fs + j)) hi hT hc | exact tn_ext2 (f := fun j => x.1 k (fs + j)) hi hT (by omega)⟩) mD_Ri_turned_34 (Nat.zero_le _) (Nat.zero_le _)
  · skip
    have hc : ((i + 64 - T) % 64) < 32 := Nat.not_le.mp (fun q => hc ((nI_leI (by omega) (by omega)).mpr q))
    refine lv_aload_n hx hb mD_Ri_turned_15 rfl (lv_at hl 3 rfl) ?_
    refine lv_iload_n hx hb mD_Ri_turned_16 rfl (lv_at hl 4 rfl) ?_
    refine lv_iload hx hb mD_Ri_turned_17 (lv_at hl 0 rfl) ?_
    refine lv_iadd hx hb mD_Ri_turned_19 ?_
    refine t_iald hx hb hK hP k 64 (tPair_lt hk) (tE_pair hk) ((fs + ((i + 64 - T) % 64))) (nI_add _ _) (by omega) (by decide) mD_Ri_turned_20 ?_
    refine lv_goto (tgt := 34) hx hb mD_Ri_turned_21 rfl ?_
    exact gw_iret hx hb hr hlocks hP hS (⟨rfl, by first | exact tn_ext (f := fun j => x.1 k (fs + j)) hi hT hc | exact tn_ext2 (f := fun j => x.1 k (fs + j)) hi hT (by omega)⟩) mD_Ri_turned_34 (Nat.zero_le _) (Nat.zero_le _)

set_option maxHeartbeats 4000000 in
set_option maxRecDepth 100000 in
theorem k_So_restart (l : Launch) (D : va_G) (ct : Nat → ClassId) (ad : Nat → Nat) (hI : gw_inj 424 ad) (x : tS) (a : Int32) : gMv l mY_So_restart mB_So_restart 2 none (rF 0 0) D (tT ct) gZ0 424 ad (tD ct ad) [.ref (ad 1), .int a] x (fun x' => x'.1 = x.1) := by
  refine gMv_enter (by decide) (Nat.le_of_ble_eq_true rfl) ?_
  intro p e s m below meth c ls hx hb hr htw hown hlocks hml hl hP hK hZ hS
  have hA : ∀ k, k < 424 → gA 424 ad s.heap.size (ad k) := fun _ h => gA_in h
  have hl : lv_has ls 2 [(0, .ref (ad 1)), (1, .int a)] := hl
  refine lv_aload_n hx hb mD_So_restart_0 rfl (lv_at hl 0 rfl) ?_
  refine lv_iload_n hx hb mD_So_restart_1 rfl (lv_at hl 1 rfl) ?_
  refine lv_i2l hx hb mD_So_restart_2 rfl ?_
  refine t_putL hx hb htw hown hK hI hA hP hS ww_55 mD_So_restart_3 (fun H locs hP hS => ?_)
  obtain ⟨x1, hx1⟩ : ∃ z, z = (x.1, a.toInt64) := ⟨_, rfl⟩
  rw [← hx1] at hP
  exact gw_vret hx hb hr hlocks hP hS (by rw [hx1]) mD_So_restart_6 (Nat.zero_le _) (Nat.zero_le _)

set_option maxHeartbeats 4000000 in
set_option maxRecDepth 100000 in
theorem k_So_draw (l : Launch) (D : va_G) (ct : Nat → ClassId) (ad : Nat → Nat) (hI : gw_inj 424 ad) (x : tS)  : gMi l mY_So_draw mB_So_draw 3 (some .int) (rF 0 0) D (tT ct) gZ0 424 ad (tD ct ad) [.ref (ad 1)] x (fun _ x' => x'.1 = x.1) := by
  refine gMi_enter (by decide) (Nat.le_of_ble_eq_true rfl) ?_
  intro p e s m below meth c ls hx hb hr htw hown hlocks hml hl hP hK hZ hS
  have hA : ∀ k, k < 424 → gA 424 ad s.heap.size (ad k) := fun _ h => gA_in h
  have hl : lv_has ls 3 [(0, .ref (ad 1))] := hl
  refine lv_aload_n hx hb mD_So_draw_0 rfl (lv_at hl 0 rfl) ?_
  refine lv_dup hx hb mD_So_draw_1 rfl ?_
  refine t_get (C := cN_So) (T := cF_So) (N := 1) (ci := 5) hx hb htw wU_So hown hK hP 1 (by decide) rfl rfl 0 (by decide) rfl ww_55 rfl mD_So_draw_2 ?_
  refine lv_ldc2 hx hb hown (htw _ ww_192) mD_So_draw_5 ?_
  refine lv_ladd hx hb mD_So_draw_8 ?_
  refine t_putL hx hb htw hown hK hI hA hP hS ww_55 mD_So_draw_9 (fun H locs hP hS => ?_)
  obtain ⟨x1, hx1⟩ : ∃ z, z = (x.1, x.2 + ((-7046029254386353131 : Int64))) := ⟨_, rfl⟩
  rw [← hx1] at hP
  refine lv_aload_n hx hb mD_So_draw_12 rfl (lv_at hl 0 rfl) ?_
  refine t_get (C := cN_So) (T := cF_So) (N := 1) (ci := 5) hx hb htw wU_So hown hK hP 1 (by decide) rfl rfl 0 (by decide) rfl ww_55 rfl mD_So_draw_13 ?_
  refine lv_aload_n hx hb mD_So_draw_16 rfl (lv_at hl 0 rfl) ?_
  refine t_get (C := cN_So) (T := cF_So) (N := 1) (ci := 5) hx hb htw wU_So hown hK hP 1 (by decide) rfl rfl 0 (by decide) rfl ww_55 rfl mD_So_draw_17 ?_
  refine lv_bipush (v := nI 30) hx hb mD_So_draw_20 (by decide) ?_
  refine lv_lushr hx hb mD_So_draw_22 rfl ?_
  refine lv_lxor hx hb mD_So_draw_23 ?_
  refine lv_ldc2 hx hb hown (htw _ ww_193) mD_So_draw_24 ?_
  refine lv_lmul hx hb mD_So_draw_27 ?_
  refine lv_lstore_n (lv' := [(1, .long ((x1.2 ^^^ ((x1.2.toUInt64 >>> ((nI 30).toInt64.toUInt64 &&& Int64.toUInt64 63)).toInt64)) * ((-4658895280553007687 : Int64)))), (0, .ref (ad 1))]) hx hb mD_So_draw_28 rfl hl (by decide) rfl (fun ls hl => ?_)
  refine lv_lload_n hx hb mD_So_draw_29 rfl (lv_at hl 0 rfl) ?_
  refine lv_lload_n hx hb mD_So_draw_30 rfl (lv_at hl 0 rfl) ?_
  refine lv_bipush (v := nI 27) hx hb mD_So_draw_31 (by decide) ?_
  refine lv_lushr hx hb mD_So_draw_33 rfl ?_
  refine lv_lxor hx hb mD_So_draw_34 ?_
  refine lv_ldc2 hx hb hown (htw _ ww_194) mD_So_draw_35 ?_
  refine lv_lmul hx hb mD_So_draw_38 ?_
  refine lv_lstore_n (lv' := [(1, .long ((((x1.2 ^^^ ((x1.2.toUInt64 >>> ((nI 30).toInt64.toUInt64 &&& Int64.toUInt64 63)).toInt64)) * ((-4658895280553007687 : Int64))) ^^^ ((((x1.2 ^^^ ((x1.2.toUInt64 >>> ((nI 30).toInt64.toUInt64 &&& Int64.toUInt64 63)).toInt64)) * ((-4658895280553007687 : Int64))).toUInt64 >>> ((nI 27).toInt64.toUInt64 &&& Int64.toUInt64 63)).toInt64)) * ((-7723592293110705685 : Int64)))), (0, .ref (ad 1))]) hx hb mD_So_draw_39 rfl hl (by decide) rfl (fun ls hl => ?_)
  refine lv_lload_n hx hb mD_So_draw_40 rfl (lv_at hl 0 rfl) ?_
  refine lv_bipush (v := nI 32) hx hb mD_So_draw_41 (by decide) ?_
  refine lv_lushr hx hb mD_So_draw_43 rfl ?_
  refine lv_l2i hx hb mD_So_draw_44 rfl ?_
  exact gw_iret hx hb hr hlocks hP hS (by rw [hx1]) mD_So_draw_45 (Nat.zero_le _) (Nat.zero_le _)

set_option maxHeartbeats 4000000 in
set_option maxRecDepth 100000 in
theorem k_So_drawNoise5 (l : Launch) (D : va_G) (ct : Nat → ClassId) (ad : Nat → Nat) (hI : gw_inj 424 ad) (x : tS)  : gMi l mY_So_drawNoise mB_So_drawNoise 2 (some .int) (rF 1 22) D (tT ct) gZ0 424 ad (tD ct ad) [.ref (ad 1), .int (nI 5)] x (fun r x' => x'.1 = x.1 ∧ tp_sm 16 r) := by
  refine gMi_enter (by decide) (Nat.le_of_ble_eq_true rfl) ?_
  intro p e s m below meth c ls hx hb hr htw hown hlocks hml hl hP hK hZ hS
  have hA : ∀ k, k < 424 → gA 424 ad s.heap.size (ad k) := fun _ h => gA_in h
  have hl : lv_has ls 2 [(0, .ref (ad 1)), (1, .int (nI 5))] := hl
  refine lv_aload_n hx hb mD_So_drawNoise_0 rfl (lv_at hl 0 rfl) ?_
  refine gc_Vi (As := []) (rest := []) hx hb hml hown htw hK hP hS 1 (k_So_draw l D ct ad hI x) gZ0_ok (fun _ _ _ => trivial) (gA_mono hS.1) (by decide) rfl rfl ww_211 ww_189 ww_190 ww_24 wC_So_draw mP_So_draw (by decide) rfl hl.1 rfl (Nat.le_of_ble_eq_true rfl) mD_So_drawNoise_1 ⟨Nat.le_of_ble_eq_true rfl, Nat.le_of_ble_eq_true rfl⟩ (fun r2 x1 H locs hp1 hP _ _ hS => ?_)
  refine lv_bipush (v := nI 32) hx hb mD_So_drawNoise_4 (by decide) ?_
  refine lv_iload_n hx hb mD_So_drawNoise_6 rfl (lv_at hl 1 rfl) ?_
  refine lv_isub hx hb mD_So_drawNoise_7 ?_
  refine lv_iushr hx hb mD_So_drawNoise_8 rfl ?_
  refine lv_iconst (v := nI 1) hx hb mD_So_drawNoise_9 (by decide) ?_
  refine lv_iload_n hx hb mD_So_drawNoise_10 rfl (lv_at hl 1 rfl) ?_
  refine lv_iconst (v := nI 1) hx hb mD_So_drawNoise_11 (by decide) ?_
  refine lv_isub hx hb mD_So_drawNoise_12 ?_
  refine lv_ishl hx hb mD_So_drawNoise_13 ?_
  refine lv_isub hx hb mD_So_drawNoise_14 ?_
  exact gw_iret hx hb hr hlocks hP hS (⟨hp1, tn_noise5 _⟩) mD_So_drawNoise_15 (Nat.zero_le _) (Nat.zero_le _)

set_option maxHeartbeats 4000000 in
set_option maxRecDepth 100000 in
theorem k_So_drawNoise3 (l : Launch) (D : va_G) (ct : Nat → ClassId) (ad : Nat → Nat) (hI : gw_inj 424 ad) (x : tS)  : gMi l mY_So_drawNoise mB_So_drawNoise 2 (some .int) (rF 1 22) D (tT ct) gZ0 424 ad (tD ct ad) [.ref (ad 1), .int (nI 3)] x (fun r x' => x'.1 = x.1 ∧ tp_sm 4 r) := by
  refine gMi_enter (by decide) (Nat.le_of_ble_eq_true rfl) ?_
  intro p e s m below meth c ls hx hb hr htw hown hlocks hml hl hP hK hZ hS
  have hA : ∀ k, k < 424 → gA 424 ad s.heap.size (ad k) := fun _ h => gA_in h
  have hl : lv_has ls 2 [(0, .ref (ad 1)), (1, .int (nI 3))] := hl
  refine lv_aload_n hx hb mD_So_drawNoise_0 rfl (lv_at hl 0 rfl) ?_
  refine gc_Vi (As := []) (rest := []) hx hb hml hown htw hK hP hS 1 (k_So_draw l D ct ad hI x) gZ0_ok (fun _ _ _ => trivial) (gA_mono hS.1) (by decide) rfl rfl ww_211 ww_189 ww_190 ww_24 wC_So_draw mP_So_draw (by decide) rfl hl.1 rfl (Nat.le_of_ble_eq_true rfl) mD_So_drawNoise_1 ⟨Nat.le_of_ble_eq_true rfl, Nat.le_of_ble_eq_true rfl⟩ (fun r2 x1 H locs hp1 hP _ _ hS => ?_)
  refine lv_bipush (v := nI 32) hx hb mD_So_drawNoise_4 (by decide) ?_
  refine lv_iload_n hx hb mD_So_drawNoise_6 rfl (lv_at hl 1 rfl) ?_
  refine lv_isub hx hb mD_So_drawNoise_7 ?_
  refine lv_iushr hx hb mD_So_drawNoise_8 rfl ?_
  refine lv_iconst (v := nI 1) hx hb mD_So_drawNoise_9 (by decide) ?_
  refine lv_iload_n hx hb mD_So_drawNoise_10 rfl (lv_at hl 1 rfl) ?_
  refine lv_iconst (v := nI 1) hx hb mD_So_drawNoise_11 (by decide) ?_
  refine lv_isub hx hb mD_So_drawNoise_12 ?_
  refine lv_ishl hx hb mD_So_drawNoise_13 ?_
  refine lv_isub hx hb mD_So_drawNoise_14 ?_
  exact gw_iret hx hb hr hlocks hP hS (⟨hp1, tn_noise3 _⟩) mD_So_drawNoise_15 (Nat.zero_le _) (Nat.zero_le _)
