/-! the law's helpers, over any contract of what they call. Laid by wip/whole/part_la.py. -/

set_option maxHeartbeats 4000000 in
theorem k_La_bit (l : Launch) (D : va_G) (ct : Nat → ClassId) (ad : Nat → Nat) (hI : gw_inj 425 ad) (x : lS) {s0 : State} (a : Int32) {post : Int32 → tS → Prop} (con : gMi l mY_TG_bit mB_TG_bit 3 (some .int) (rF 4 91) D (tT ct) gZ0 424 ad (tD ct ad) [.ref (ad 0), .int a] x.1 post) : gH l mY_La_bit mB_La_bit 4 [(0, 9, 12, 13)] (rF 5 113) D (tT ct) (tZ s0) 425 ad (lD ct ad) [.ref (ad 0), .int a, .ref (ad 424)] x (fun r x' => r = nI 0 ∧ ∃ v, post v x'.1 ∧ x'.2 = v.toInt64) := by
  refine gH_enter (by decide) (Nat.le_of_ble_eq_true rfl) ?_
  intro p e s m below meth c ls hx hb hr htw hown hlocks hml hl hP hK hZ hS htab
  have hA : ∀ k, k < 425 → gA 425 ad s.heap.size (ad k) := fun _ h => gA_in h
  have hl : lv_has ls 4 [(0, .ref (ad 0)), (1, .int a), (2, .ref (ad 424))] := hl
  refine lv_aload_n hx hb mD_La_bit_0 rfl (lv_at hl 2 rfl) ?_
  refine lv_iconst (v := nI 0) hx hb mD_La_bit_1 (by decide) ?_
  refine lv_aload_n hx hb mD_La_bit_2 rfl (lv_at hl 0 rfl) ?_
  refine lv_iload_n hx hb mD_La_bit_3 rfl (lv_at hl 1 rfl) ?_
  refine gc_Vi (As := [.int a]) (rest := [.int (nI 0), .ref (ad 424)]) hx hb hml hown htw hK (l_sub hP) hS 0 con gZ0_ok (fun _ _ _ => trivial) (l_gA hS.1) (by decide) rfl rfl ww_279 ww_280 ww_281 ww_23 wC_TG_bit mP_TG_bit (by decide) rfl hl.1 rfl (Nat.le_of_ble_eq_true rfl) mD_La_bit_4 ⟨Nat.le_of_ble_eq_true rfl, Nat.le_of_ble_eq_true rfl⟩ (fun r2 x1 H locs hp hQ _ hk hS => ?_)
  have hP := l_join hI hP hQ hk
  obtain ⟨x3, hx3⟩ : ∃ z_, z_ = ((x1, x.2) : lS) := ⟨_, rfl⟩
  rw [← hx3] at hP
  refine lv_i2l hx hb mD_La_bit_7 rfl ?_
  refine l_last hx hb hK hI hA hP hS mD_La_bit_8 (fun H locs hP hS => ?_)
  obtain ⟨x4, hx4⟩ : ∃ z_, z_ = ((x3.1, r2.toInt64) : lS) := ⟨_, rfl⟩
  rw [← hx4] at hP
  refine lv_goto (tgt := 15) hx hb mD_La_bit_9 rfl ?_
  refine lv_iconst (v := nI 0) hx hb mD_La_bit_15 (by decide) ?_
  exact gw_iret hx hb hr hlocks hP hS (⟨rfl, _, (by rw [hx4, hx3]; exact hp), (by rw [hx4])⟩) mD_La_bit_16 (Nat.le_of_ble_eq_true rfl) (Nat.le_of_ble_eq_true rfl)

set_option maxHeartbeats 4000000 in
theorem x1_La_bit (l : Launch) (D : va_G) (ct : Nat → ClassId) (ad : Nat → Nat) (hI : gw_inj 425 ad) (x : lS) {s0 : State} (a : Int32) {post : tS → Prop} (hC : tOC s0) (con : gX l mY_TG_bit mB_TG_bit 3 (some .int) (rX 7 103) D (tT ct) (tZ s0) 424 ad (tD ct ad) [.ref (ad 0), .int a] x.1 tX_S post) : gH l mY_La_bit mB_La_bit 4 [(0, 9, 12, 13)] (rX 8 125) D (tT ct) (tZ s0) 425 ad (lD ct ad) [.ref (ad 0), .int a, .ref (ad 424)] x (fun r x' => r = nI 1 ∧ post x'.1 ∧ x'.2 = x.2) := by
  refine gH_enter (by decide) (Nat.le_of_ble_eq_true rfl) ?_
  intro p e s m below meth c ls hx hb hr htw hown hlocks hml hl hP hK hZ hS htab
  have hA : ∀ k, k < 425 → gA 425 ad s.heap.size (ad k) := fun _ h => gA_in h
  have hl : lv_has ls 4 [(0, .ref (ad 0)), (1, .int a), (2, .ref (ad 424))] := hl
  refine lv_aload_n hx hb mD_La_bit_0 rfl (lv_at hl 2 rfl) ?_
  refine lv_iconst (v := nI 0) hx hb mD_La_bit_1 (by decide) ?_
  refine lv_aload_n hx hb mD_La_bit_2 rfl (lv_at hl 0 rfl) ?_
  refine lv_iload_n hx hb mD_La_bit_3 rfl (lv_at hl 1 rfl) ?_
  refine tx_call (As := [.int a]) (rest := [.int (nI 0), .ref (ad 424)]) hx hb hml hown htw hK (l_sub hP) hS 0 con (tZ_ok s0) (tZ_in hZ hS (l_gA hS.1)) (l_gA hS.1) (by decide) rfl rfl ww_279 ww_280 ww_281 ww_23 wC_TG_bit mP_TG_bit (by decide) rfl hl.1 rfl (Nat.le_of_ble_eq_true rfl) mD_La_bit_4 ⟨Nat.le_of_ble_eq_true rfl, Nat.le_of_ble_eq_true rfl⟩ (fun q ce x1 H locs hp hQ _ hk hS hce hcv hcl => ?_)
  have hP := l_join hI hP hQ hk
  obtain ⟨x3, hx3⟩ : ∃ z_, z_ = ((x1, x.2) : lS) := ⟨_, rfl⟩
  rw [← hx3] at hP
  refine tx_catch (E := tX_S) (hh1 := []) (t := (0, 9, 12, 13)) (hh2 := []) htab hown hce hcv hcl (fun u hu => by cases hu) ⟨by decide, by decide⟩ (by decide) (htw _ ww_278) (tO_C hC hZ 1 rfl) ?_
  refine lv_astore_n (lv' := [(3, .ref q), (0, .ref (ad 0)), (1, .int a), (2, .ref (ad 424))]) hx hb mD_La_bit_12 rfl hl (by decide) rfl (fun ls hl => ?_)
  refine lv_iconst (v := nI 1) hx hb mD_La_bit_13 (by decide) ?_
  exact gw_iret hx hb hr hlocks hP hS (⟨rfl, (by rw [hx3]; exact hp), (by rw [hx3])⟩) mD_La_bit_14 (Nat.le_of_ble_eq_true rfl) (Nat.le_of_ble_eq_true rfl)

set_option maxHeartbeats 4000000 in
theorem k_La_drop (l : Launch) (D : va_G) (ct : Nat → ClassId) (ad : Nat → Nat) (hI : gw_inj 425 ad) (x : lS) {s0 : State} (a : Int32) {post : Int32 → tS → Prop} (con : gMi l mY_TG_drop mB_TG_drop 3 (some .int) (rF 2 42) D (tT ct) gZ0 424 ad (tD ct ad) [.ref (ad 0), .int a] x.1 post) : gH l mY_La_drop mB_La_drop 4 [(0, 9, 12, 19)] (rF 3 64) D (tT ct) (tZ s0) 425 ad (lD ct ad) [.ref (ad 0), .int a, .ref (ad 424)] x (fun r x' => r = nI 0 ∧ ∃ v, post v x'.1 ∧ x'.2 = v.toInt64) := by
  refine gH_enter (by decide) (Nat.le_of_ble_eq_true rfl) ?_
  intro p e s m below meth c ls hx hb hr htw hown hlocks hml hl hP hK hZ hS htab
  have hA : ∀ k, k < 425 → gA 425 ad s.heap.size (ad k) := fun _ h => gA_in h
  have hl : lv_has ls 4 [(0, .ref (ad 0)), (1, .int a), (2, .ref (ad 424))] := hl
  refine lv_aload_n hx hb mD_La_drop_0 rfl (lv_at hl 2 rfl) ?_
  refine lv_iconst (v := nI 0) hx hb mD_La_drop_1 (by decide) ?_
  refine lv_aload_n hx hb mD_La_drop_2 rfl (lv_at hl 0 rfl) ?_
  refine lv_iload_n hx hb mD_La_drop_3 rfl (lv_at hl 1 rfl) ?_
  refine gc_Vi (As := [.int a]) (rest := [.int (nI 0), .ref (ad 424)]) hx hb hml hown htw hK (l_sub hP) hS 0 con gZ0_ok (fun _ _ _ => trivial) (l_gA hS.1) (by decide) rfl rfl ww_377 ww_378 ww_379 ww_23 wC_TG_drop mP_TG_drop (by decide) rfl hl.1 rfl (Nat.le_of_ble_eq_true rfl) mD_La_drop_4 ⟨Nat.le_of_ble_eq_true rfl, Nat.le_of_ble_eq_true rfl⟩ (fun r2 x1 H locs hp hQ _ hk hS => ?_)
  have hP := l_join hI hP hQ hk
  obtain ⟨x3, hx3⟩ : ∃ z_, z_ = ((x1, x.2) : lS) := ⟨_, rfl⟩
  rw [← hx3] at hP
  refine lv_i2l hx hb mD_La_drop_7 rfl ?_
  refine l_last hx hb hK hI hA hP hS mD_La_drop_8 (fun H locs hP hS => ?_)
  obtain ⟨x4, hx4⟩ : ∃ z_, z_ = ((x3.1, r2.toInt64) : lS) := ⟨_, rfl⟩
  rw [← hx4] at hP
  refine lv_goto (tgt := 15) hx hb mD_La_drop_9 rfl ?_
  refine lv_iconst (v := nI 0) hx hb mD_La_drop_15 (by decide) ?_
  exact gw_iret hx hb hr hlocks hP hS (⟨rfl, _, (by rw [hx4, hx3]; exact hp), (by rw [hx4])⟩) mD_La_drop_16 (Nat.le_of_ble_eq_true rfl) (Nat.le_of_ble_eq_true rfl)

set_option maxHeartbeats 4000000 in
theorem x1_La_drop (l : Launch) (D : va_G) (ct : Nat → ClassId) (ad : Nat → Nat) (hI : gw_inj 425 ad) (x : lS) {s0 : State} (a : Int32) {post : tS → Prop} (hC : tOC s0) (con : gX l mY_TG_drop mB_TG_drop 3 (some .int) (rX 7 103) D (tT ct) (tZ s0) 424 ad (tD ct ad) [.ref (ad 0), .int a] x.1 tX_N post) : gH l mY_La_drop mB_La_drop 4 [(0, 9, 12, 19)] (rX 8 125) D (tT ct) (tZ s0) 425 ad (lD ct ad) [.ref (ad 0), .int a, .ref (ad 424)] x (fun r x' => r = nI 1 ∧ post x'.1 ∧ x'.2 = x.2) := by
  refine gH_enter (by decide) (Nat.le_of_ble_eq_true rfl) ?_
  intro p e s m below meth c ls hx hb hr htw hown hlocks hml hl hP hK hZ hS htab
  have hA : ∀ k, k < 425 → gA 425 ad s.heap.size (ad k) := fun _ h => gA_in h
  have hl : lv_has ls 4 [(0, .ref (ad 0)), (1, .int a), (2, .ref (ad 424))] := hl
  refine lv_aload_n hx hb mD_La_drop_0 rfl (lv_at hl 2 rfl) ?_
  refine lv_iconst (v := nI 0) hx hb mD_La_drop_1 (by decide) ?_
  refine lv_aload_n hx hb mD_La_drop_2 rfl (lv_at hl 0 rfl) ?_
  refine lv_iload_n hx hb mD_La_drop_3 rfl (lv_at hl 1 rfl) ?_
  refine tx_call (As := [.int a]) (rest := [.int (nI 0), .ref (ad 424)]) hx hb hml hown htw hK (l_sub hP) hS 0 con (tZ_ok s0) (tZ_in hZ hS (l_gA hS.1)) (l_gA hS.1) (by decide) rfl rfl ww_377 ww_378 ww_379 ww_23 wC_TG_drop mP_TG_drop (by decide) rfl hl.1 rfl (Nat.le_of_ble_eq_true rfl) mD_La_drop_4 ⟨Nat.le_of_ble_eq_true rfl, Nat.le_of_ble_eq_true rfl⟩ (fun q ce x1 H locs hp hQ _ hk hS hce hcv hcl => ?_)
  have hP := l_join hI hP hQ hk
  obtain ⟨x3, hx3⟩ : ∃ z_, z_ = ((x1, x.2) : lS) := ⟨_, rfl⟩
  rw [← hx3] at hP
  refine tx_catch (E := tX_N) (hh1 := []) (t := (0, 9, 12, 19)) (hh2 := []) htab hown hce hcv hcl (fun u hu => by cases hu) ⟨by decide, by decide⟩ (by decide) (htw _ ww_376) (tO_C hC hZ 0 rfl) ?_
  refine lv_astore_n (lv' := [(3, .ref q), (0, .ref (ad 0)), (1, .int a), (2, .ref (ad 424))]) hx hb mD_La_drop_12 rfl hl (by decide) rfl (fun ls hl => ?_)
  refine lv_iconst (v := nI 1) hx hb mD_La_drop_13 (by decide) ?_
  exact gw_iret hx hb hr hlocks hP hS (⟨rfl, (by rw [hx3]; exact hp), (by rw [hx3])⟩) mD_La_drop_14 (Nat.le_of_ble_eq_true rfl) (Nat.le_of_ble_eq_true rfl)

set_option maxHeartbeats 4000000 in
theorem k_La_not (l : Launch) (D : va_G) (ct : Nat → ClassId) (ad : Nat → Nat) (hI : gw_inj 425 ad) (x : lS) {s0 : State} (a : Int32) {post : Int32 → tS → Prop} (con : gMi l mY_TG_not mB_TG_not 4 (some .int) (rF 3 106) D (tT ct) gZ0 424 ad (tD ct ad) [.ref (ad 0), .int a] x.1 post) : gH l mY_La_not mB_La_not 4 [(0, 9, 12, 19), (0, 9, 15, 13)] (rF 4 129) D (tT ct) (tZ s0) 425 ad (lD ct ad) [.ref (ad 0), .int a, .ref (ad 424)] x (fun r x' => r = nI 0 ∧ ∃ v, post v x'.1 ∧ x'.2 = v.toInt64) := by
  refine gH_enter (by decide) (Nat.le_of_ble_eq_true rfl) ?_
  intro p e s m below meth c ls hx hb hr htw hown hlocks hml hl hP hK hZ hS htab
  have hA : ∀ k, k < 425 → gA 425 ad s.heap.size (ad k) := fun _ h => gA_in h
  have hl : lv_has ls 4 [(0, .ref (ad 0)), (1, .int a), (2, .ref (ad 424))] := hl
  refine lv_aload_n hx hb mD_La_not_0 rfl (lv_at hl 2 rfl) ?_
  refine lv_iconst (v := nI 0) hx hb mD_La_not_1 (by decide) ?_
  refine lv_aload_n hx hb mD_La_not_2 rfl (lv_at hl 0 rfl) ?_
  refine lv_iload_n hx hb mD_La_not_3 rfl (lv_at hl 1 rfl) ?_
  refine gc_Vi (As := [.int a]) (rest := [.int (nI 0), .ref (ad 424)]) hx hb hml hown htw hK (l_sub hP) hS 0 con gZ0_ok (fun _ _ _ => trivial) (l_gA hS.1) (by decide) rfl rfl ww_412 ww_413 ww_414 ww_23 wC_TG_not mP_TG_not (by decide) rfl hl.1 rfl (Nat.le_of_ble_eq_true rfl) mD_La_not_4 ⟨Nat.le_of_ble_eq_true rfl, Nat.le_of_ble_eq_true rfl⟩ (fun r2 x1 H locs hp hQ _ hk hS => ?_)
  have hP := l_join hI hP hQ hk
  obtain ⟨x3, hx3⟩ : ∃ z_, z_ = ((x1, x.2) : lS) := ⟨_, rfl⟩
  rw [← hx3] at hP
  refine lv_i2l hx hb mD_La_not_7 rfl ?_
  refine l_last hx hb hK hI hA hP hS mD_La_not_8 (fun H locs hP hS => ?_)
  obtain ⟨x4, hx4⟩ : ∃ z_, z_ = ((x3.1, r2.toInt64) : lS) := ⟨_, rfl⟩
  rw [← hx4] at hP
  refine lv_goto (tgt := 18) hx hb mD_La_not_9 rfl ?_
  refine lv_iconst (v := nI 0) hx hb mD_La_not_18 (by decide) ?_
  exact gw_iret hx hb hr hlocks hP hS (⟨rfl, _, (by rw [hx4, hx3]; exact hp), (by rw [hx4])⟩) mD_La_not_19 (Nat.le_of_ble_eq_true rfl) (Nat.le_of_ble_eq_true rfl)

set_option maxHeartbeats 4000000 in
theorem x1_La_not (l : Launch) (D : va_G) (ct : Nat → ClassId) (ad : Nat → Nat) (hI : gw_inj 425 ad) (x : lS) {s0 : State} (a : Int32) {post : tS → Prop} (hC : tOC s0) (con : gX l mY_TG_not mB_TG_not 4 (some .int) (rX 7 106) D (tT ct) (tZ s0) 424 ad (tD ct ad) [.ref (ad 0), .int a] x.1 tX_N post) : gH l mY_La_not mB_La_not 4 [(0, 9, 12, 19), (0, 9, 15, 13)] (rX 8 129) D (tT ct) (tZ s0) 425 ad (lD ct ad) [.ref (ad 0), .int a, .ref (ad 424)] x (fun r x' => r = nI 1 ∧ post x'.1 ∧ x'.2 = x.2) := by
  refine gH_enter (by decide) (Nat.le_of_ble_eq_true rfl) ?_
  intro p e s m below meth c ls hx hb hr htw hown hlocks hml hl hP hK hZ hS htab
  have hA : ∀ k, k < 425 → gA 425 ad s.heap.size (ad k) := fun _ h => gA_in h
  have hl : lv_has ls 4 [(0, .ref (ad 0)), (1, .int a), (2, .ref (ad 424))] := hl
  refine lv_aload_n hx hb mD_La_not_0 rfl (lv_at hl 2 rfl) ?_
  refine lv_iconst (v := nI 0) hx hb mD_La_not_1 (by decide) ?_
  refine lv_aload_n hx hb mD_La_not_2 rfl (lv_at hl 0 rfl) ?_
  refine lv_iload_n hx hb mD_La_not_3 rfl (lv_at hl 1 rfl) ?_
  refine tx_call (As := [.int a]) (rest := [.int (nI 0), .ref (ad 424)]) hx hb hml hown htw hK (l_sub hP) hS 0 con (tZ_ok s0) (tZ_in hZ hS (l_gA hS.1)) (l_gA hS.1) (by decide) rfl rfl ww_412 ww_413 ww_414 ww_23 wC_TG_not mP_TG_not (by decide) rfl hl.1 rfl (Nat.le_of_ble_eq_true rfl) mD_La_not_4 ⟨Nat.le_of_ble_eq_true rfl, Nat.le_of_ble_eq_true rfl⟩ (fun q ce x1 H locs hp hQ _ hk hS hce hcv hcl => ?_)
  have hP := l_join hI hP hQ hk
  obtain ⟨x3, hx3⟩ : ∃ z_, z_ = ((x1, x.2) : lS) := ⟨_, rfl⟩
  rw [← hx3] at hP
  refine tx_catch (E := tX_N) (hh1 := []) (t := (0, 9, 12, 19)) (hh2 := [(0, 9, 15, 13)]) htab hown hce hcv hcl (fun u hu => by cases hu) ⟨by decide, by decide⟩ (by decide) (htw _ ww_376) (tO_C hC hZ 0 rfl) ?_
  refine lv_astore_n (lv' := [(3, .ref q), (0, .ref (ad 0)), (1, .int a), (2, .ref (ad 424))]) hx hb mD_La_not_12 rfl hl (by decide) rfl (fun ls hl => ?_)
  refine lv_iconst (v := nI 1) hx hb mD_La_not_13 (by decide) ?_
  exact gw_iret hx hb hr hlocks hP hS (⟨rfl, (by rw [hx3]; exact hp), (by rw [hx3])⟩) mD_La_not_14 (Nat.le_of_ble_eq_true rfl) (Nat.le_of_ble_eq_true rfl)

set_option maxHeartbeats 4000000 in
theorem x2_La_not (l : Launch) (D : va_G) (ct : Nat → ClassId) (ad : Nat → Nat) (hI : gw_inj 425 ad) (x : lS) {s0 : State} (a : Int32) {post : tS → Prop} (hC : tOC s0) (con : gX l mY_TG_not mB_TG_not 4 (some .int) (rX 7 106) D (tT ct) (tZ s0) 424 ad (tD ct ad) [.ref (ad 0), .int a] x.1 tX_S post) : gH l mY_La_not mB_La_not 4 [(0, 9, 12, 19), (0, 9, 15, 13)] (rX 8 129) D (tT ct) (tZ s0) 425 ad (lD ct ad) [.ref (ad 0), .int a, .ref (ad 424)] x (fun r x' => r = nI 2 ∧ post x'.1 ∧ x'.2 = x.2) := by
  refine gH_enter (by decide) (Nat.le_of_ble_eq_true rfl) ?_
  intro p e s m below meth c ls hx hb hr htw hown hlocks hml hl hP hK hZ hS htab
  have hA : ∀ k, k < 425 → gA 425 ad s.heap.size (ad k) := fun _ h => gA_in h
  have hl : lv_has ls 4 [(0, .ref (ad 0)), (1, .int a), (2, .ref (ad 424))] := hl
  refine lv_aload_n hx hb mD_La_not_0 rfl (lv_at hl 2 rfl) ?_
  refine lv_iconst (v := nI 0) hx hb mD_La_not_1 (by decide) ?_
  refine lv_aload_n hx hb mD_La_not_2 rfl (lv_at hl 0 rfl) ?_
  refine lv_iload_n hx hb mD_La_not_3 rfl (lv_at hl 1 rfl) ?_
  refine tx_call (As := [.int a]) (rest := [.int (nI 0), .ref (ad 424)]) hx hb hml hown htw hK (l_sub hP) hS 0 con (tZ_ok s0) (tZ_in hZ hS (l_gA hS.1)) (l_gA hS.1) (by decide) rfl rfl ww_412 ww_413 ww_414 ww_23 wC_TG_not mP_TG_not (by decide) rfl hl.1 rfl (Nat.le_of_ble_eq_true rfl) mD_La_not_4 ⟨Nat.le_of_ble_eq_true rfl, Nat.le_of_ble_eq_true rfl⟩ (fun q ce x1 H locs hp hQ _ hk hS hce hcv hcl => ?_)
  have hP := l_join hI hP hQ hk
  obtain ⟨x3, hx3⟩ : ∃ z_, z_ = ((x1, x.2) : lS) := ⟨_, rfl⟩
  rw [← hx3] at hP
  refine tx_catch (E := tX_S) (hh1 := [(0, 9, 12, 19)]) (t := (0, 9, 15, 13)) (hh2 := []) htab hown hce hcv hcl (List.forall_mem_cons.mpr ⟨⟨by decide, tX_N, htw _ ww_376, tO_D hC hZ 2 rfl⟩, (fun u hu => by cases hu)⟩) ⟨by decide, by decide⟩ (by decide) (htw _ ww_278) (tO_C hC hZ 1 rfl) ?_
  refine lv_astore_n (lv' := [(3, .ref q), (0, .ref (ad 0)), (1, .int a), (2, .ref (ad 424))]) hx hb mD_La_not_15 rfl hl (by decide) rfl (fun ls hl => ?_)
  refine lv_iconst (v := nI 2) hx hb mD_La_not_16 (by decide) ?_
  exact gw_iret hx hb hr hlocks hP hS (⟨rfl, (by rw [hx3]; exact hp), (by rw [hx3])⟩) mD_La_not_17 (Nat.le_of_ble_eq_true rfl) (Nat.le_of_ble_eq_true rfl)

set_option maxHeartbeats 4000000 in
theorem k_La_blur (l : Launch) (D : va_G) (ct : Nat → ClassId) (ad : Nat → Nat) (hI : gw_inj 425 ad) (x : lS) {s0 : State} (a b : Int32) {post : Int32 → tS → Prop} (con : gMi l mY_TG_blur mB_TG_blur 6 (some .int) (rF 3 69) D (tT ct) gZ0 424 ad (tD ct ad) [.ref (ad 0), .int a, .int b] x.1 post) : gH l mY_La_blur mB_La_blur 5 [(0, 10, 13, 19), (0, 10, 17, 28), (0, 10, 21, 13)] (rF 4 94) D (tT ct) (tZ s0) 425 ad (lD ct ad) [.ref (ad 0), .int a, .int b, .ref (ad 424)] x (fun r x' => r = nI 0 ∧ ∃ v, post v x'.1 ∧ x'.2 = v.toInt64) := by
  refine gH_enter (by decide) (Nat.le_of_ble_eq_true rfl) ?_
  intro p e s m below meth c ls hx hb hr htw hown hlocks hml hl hP hK hZ hS htab
  have hA : ∀ k, k < 425 → gA 425 ad s.heap.size (ad k) := fun _ h => gA_in h
  have hl : lv_has ls 5 [(0, .ref (ad 0)), (1, .int a), (2, .int b), (3, .ref (ad 424))] := hl
  refine lv_aload_n hx hb mD_La_blur_0 rfl (lv_at hl 3 rfl) ?_
  refine lv_iconst (v := nI 0) hx hb mD_La_blur_1 (by decide) ?_
  refine lv_aload_n hx hb mD_La_blur_2 rfl (lv_at hl 0 rfl) ?_
  refine lv_iload_n hx hb mD_La_blur_3 rfl (lv_at hl 1 rfl) ?_
  refine lv_iload_n hx hb mD_La_blur_4 rfl (lv_at hl 2 rfl) ?_
  refine gc_Vi (As := [.int a, .int b]) (rest := [.int (nI 0), .ref (ad 424)]) hx hb hml hown htw hK (l_sub hP) hS 0 con gZ0_ok (fun _ _ _ => trivial) (l_gA hS.1) (by decide) rfl rfl ww_435 ww_436 ww_437 ww_23 wC_TG_blur mP_TG_blur (by decide) rfl hl.1 rfl (Nat.le_of_ble_eq_true rfl) mD_La_blur_5 ⟨Nat.le_of_ble_eq_true rfl, Nat.le_of_ble_eq_true rfl⟩ (fun r2 x1 H locs hp hQ _ hk hS => ?_)
  have hP := l_join hI hP hQ hk
  obtain ⟨x3, hx3⟩ : ∃ z_, z_ = ((x1, x.2) : lS) := ⟨_, rfl⟩
  rw [← hx3] at hP
  refine lv_i2l hx hb mD_La_blur_8 rfl ?_
  refine l_last hx hb hK hI hA hP hS mD_La_blur_9 (fun H locs hP hS => ?_)
  obtain ⟨x4, hx4⟩ : ∃ z_, z_ = ((x3.1, r2.toInt64) : lS) := ⟨_, rfl⟩
  rw [← hx4] at hP
  refine lv_goto (tgt := 25) hx hb mD_La_blur_10 rfl ?_
  refine lv_iconst (v := nI 0) hx hb mD_La_blur_25 (by decide) ?_
  exact gw_iret hx hb hr hlocks hP hS (⟨rfl, _, (by rw [hx4, hx3]; exact hp), (by rw [hx4])⟩) mD_La_blur_26 (Nat.le_of_ble_eq_true rfl) (Nat.le_of_ble_eq_true rfl)

set_option maxHeartbeats 4000000 in
theorem x1_La_blur (l : Launch) (D : va_G) (ct : Nat → ClassId) (ad : Nat → Nat) (hI : gw_inj 425 ad) (x : lS) {s0 : State} (a b : Int32) {post : tS → Prop} (hC : tOC s0) (con : gX l mY_TG_blur mB_TG_blur 6 (some .int) (rX 7 104) D (tT ct) (tZ s0) 424 ad (tD ct ad) [.ref (ad 0), .int a, .int b] x.1 tX_N post) : gH l mY_La_blur mB_La_blur 5 [(0, 10, 13, 19), (0, 10, 17, 28), (0, 10, 21, 13)] (rX 8 129) D (tT ct) (tZ s0) 425 ad (lD ct ad) [.ref (ad 0), .int a, .int b, .ref (ad 424)] x (fun r x' => r = nI 1 ∧ post x'.1 ∧ x'.2 = x.2) := by
  refine gH_enter (by decide) (Nat.le_of_ble_eq_true rfl) ?_
  intro p e s m below meth c ls hx hb hr htw hown hlocks hml hl hP hK hZ hS htab
  have hA : ∀ k, k < 425 → gA 425 ad s.heap.size (ad k) := fun _ h => gA_in h
  have hl : lv_has ls 5 [(0, .ref (ad 0)), (1, .int a), (2, .int b), (3, .ref (ad 424))] := hl
  refine lv_aload_n hx hb mD_La_blur_0 rfl (lv_at hl 3 rfl) ?_
  refine lv_iconst (v := nI 0) hx hb mD_La_blur_1 (by decide) ?_
  refine lv_aload_n hx hb mD_La_blur_2 rfl (lv_at hl 0 rfl) ?_
  refine lv_iload_n hx hb mD_La_blur_3 rfl (lv_at hl 1 rfl) ?_
  refine lv_iload_n hx hb mD_La_blur_4 rfl (lv_at hl 2 rfl) ?_
  refine tx_call (As := [.int a, .int b]) (rest := [.int (nI 0), .ref (ad 424)]) hx hb hml hown htw hK (l_sub hP) hS 0 con (tZ_ok s0) (tZ_in hZ hS (l_gA hS.1)) (l_gA hS.1) (by decide) rfl rfl ww_435 ww_436 ww_437 ww_23 wC_TG_blur mP_TG_blur (by decide) rfl hl.1 rfl (Nat.le_of_ble_eq_true rfl) mD_La_blur_5 ⟨Nat.le_of_ble_eq_true rfl, Nat.le_of_ble_eq_true rfl⟩ (fun q ce x1 H locs hp hQ _ hk hS hce hcv hcl => ?_)
  have hP := l_join hI hP hQ hk
  obtain ⟨x3, hx3⟩ : ∃ z_, z_ = ((x1, x.2) : lS) := ⟨_, rfl⟩
  rw [← hx3] at hP
  refine tx_catch (E := tX_N) (hh1 := []) (t := (0, 10, 13, 19)) (hh2 := [(0, 10, 17, 28), (0, 10, 21, 13)]) htab hown hce hcv hcl (fun u hu => by cases hu) ⟨by decide, by decide⟩ (by decide) (htw _ ww_376) (tO_C hC hZ 0 rfl) ?_
  refine lv_astore (lv' := [(4, .ref q), (0, .ref (ad 0)), (1, .int a), (2, .int b), (3, .ref (ad 424))]) hx hb mD_La_blur_13 hl (by decide) rfl (fun ls hl => ?_)
  refine lv_iconst (v := nI 1) hx hb mD_La_blur_15 (by decide) ?_
  exact gw_iret hx hb hr hlocks hP hS (⟨rfl, (by rw [hx3]; exact hp), (by rw [hx3])⟩) mD_La_blur_16 (Nat.le_of_ble_eq_true rfl) (Nat.le_of_ble_eq_true rfl)

set_option maxHeartbeats 4000000 in
theorem x2_La_blur (l : Launch) (D : va_G) (ct : Nat → ClassId) (ad : Nat → Nat) (hI : gw_inj 425 ad) (x : lS) {s0 : State} (a b : Int32) {post : tS → Prop} (hC : tOC s0) (con : gX l mY_TG_blur mB_TG_blur 6 (some .int) (rX 7 104) D (tT ct) (tZ s0) 424 ad (tD ct ad) [.ref (ad 0), .int a, .int b] x.1 tX_A post) : gH l mY_La_blur mB_La_blur 5 [(0, 10, 13, 19), (0, 10, 17, 28), (0, 10, 21, 13)] (rX 8 129) D (tT ct) (tZ s0) 425 ad (lD ct ad) [.ref (ad 0), .int a, .int b, .ref (ad 424)] x (fun r x' => r = nI 2 ∧ post x'.1 ∧ x'.2 = x.2) := by
  refine gH_enter (by decide) (Nat.le_of_ble_eq_true rfl) ?_
  intro p e s m below meth c ls hx hb hr htw hown hlocks hml hl hP hK hZ hS htab
  have hA : ∀ k, k < 425 → gA 425 ad s.heap.size (ad k) := fun _ h => gA_in h
  have hl : lv_has ls 5 [(0, .ref (ad 0)), (1, .int a), (2, .int b), (3, .ref (ad 424))] := hl
  refine lv_aload_n hx hb mD_La_blur_0 rfl (lv_at hl 3 rfl) ?_
  refine lv_iconst (v := nI 0) hx hb mD_La_blur_1 (by decide) ?_
  refine lv_aload_n hx hb mD_La_blur_2 rfl (lv_at hl 0 rfl) ?_
  refine lv_iload_n hx hb mD_La_blur_3 rfl (lv_at hl 1 rfl) ?_
  refine lv_iload_n hx hb mD_La_blur_4 rfl (lv_at hl 2 rfl) ?_
  refine tx_call (As := [.int a, .int b]) (rest := [.int (nI 0), .ref (ad 424)]) hx hb hml hown htw hK (l_sub hP) hS 0 con (tZ_ok s0) (tZ_in hZ hS (l_gA hS.1)) (l_gA hS.1) (by decide) rfl rfl ww_435 ww_436 ww_437 ww_23 wC_TG_blur mP_TG_blur (by decide) rfl hl.1 rfl (Nat.le_of_ble_eq_true rfl) mD_La_blur_5 ⟨Nat.le_of_ble_eq_true rfl, Nat.le_of_ble_eq_true rfl⟩ (fun q ce x1 H locs hp hQ _ hk hS hce hcv hcl => ?_)
  have hP := l_join hI hP hQ hk
  obtain ⟨x3, hx3⟩ : ∃ z_, z_ = ((x1, x.2) : lS) := ⟨_, rfl⟩
  rw [← hx3] at hP
  refine tx_catch (E := tX_A) (hh1 := [(0, 10, 13, 19)]) (t := (0, 10, 17, 28)) (hh2 := [(0, 10, 21, 13)]) htab hown hce hcv hcl (List.forall_mem_cons.mpr ⟨⟨by decide, tX_N, htw _ ww_376, tO_D hC hZ 4 rfl⟩, (fun u hu => by cases hu)⟩) ⟨by decide, by decide⟩ (by decide) (htw _ ww_434) (tO_C hC hZ 2 rfl) ?_
  refine lv_astore (lv' := [(4, .ref q), (0, .ref (ad 0)), (1, .int a), (2, .int b), (3, .ref (ad 424))]) hx hb mD_La_blur_17 hl (by decide) rfl (fun ls hl => ?_)
  refine lv_iconst (v := nI 2) hx hb mD_La_blur_19 (by decide) ?_
  exact gw_iret hx hb hr hlocks hP hS (⟨rfl, (by rw [hx3]; exact hp), (by rw [hx3])⟩) mD_La_blur_20 (Nat.le_of_ble_eq_true rfl) (Nat.le_of_ble_eq_true rfl)

set_option maxHeartbeats 4000000 in
theorem x3_La_blur (l : Launch) (D : va_G) (ct : Nat → ClassId) (ad : Nat → Nat) (hI : gw_inj 425 ad) (x : lS) {s0 : State} (a b : Int32) {post : tS → Prop} (hC : tOC s0) (con : gX l mY_TG_blur mB_TG_blur 6 (some .int) (rX 7 104) D (tT ct) (tZ s0) 424 ad (tD ct ad) [.ref (ad 0), .int a, .int b] x.1 tX_S post) : gH l mY_La_blur mB_La_blur 5 [(0, 10, 13, 19), (0, 10, 17, 28), (0, 10, 21, 13)] (rX 8 129) D (tT ct) (tZ s0) 425 ad (lD ct ad) [.ref (ad 0), .int a, .int b, .ref (ad 424)] x (fun r x' => r = nI 3 ∧ post x'.1 ∧ x'.2 = x.2) := by
  refine gH_enter (by decide) (Nat.le_of_ble_eq_true rfl) ?_
  intro p e s m below meth c ls hx hb hr htw hown hlocks hml hl hP hK hZ hS htab
  have hA : ∀ k, k < 425 → gA 425 ad s.heap.size (ad k) := fun _ h => gA_in h
  have hl : lv_has ls 5 [(0, .ref (ad 0)), (1, .int a), (2, .int b), (3, .ref (ad 424))] := hl
  refine lv_aload_n hx hb mD_La_blur_0 rfl (lv_at hl 3 rfl) ?_
  refine lv_iconst (v := nI 0) hx hb mD_La_blur_1 (by decide) ?_
  refine lv_aload_n hx hb mD_La_blur_2 rfl (lv_at hl 0 rfl) ?_
  refine lv_iload_n hx hb mD_La_blur_3 rfl (lv_at hl 1 rfl) ?_
  refine lv_iload_n hx hb mD_La_blur_4 rfl (lv_at hl 2 rfl) ?_
  refine tx_call (As := [.int a, .int b]) (rest := [.int (nI 0), .ref (ad 424)]) hx hb hml hown htw hK (l_sub hP) hS 0 con (tZ_ok s0) (tZ_in hZ hS (l_gA hS.1)) (l_gA hS.1) (by decide) rfl rfl ww_435 ww_436 ww_437 ww_23 wC_TG_blur mP_TG_blur (by decide) rfl hl.1 rfl (Nat.le_of_ble_eq_true rfl) mD_La_blur_5 ⟨Nat.le_of_ble_eq_true rfl, Nat.le_of_ble_eq_true rfl⟩ (fun q ce x1 H locs hp hQ _ hk hS hce hcv hcl => ?_)
  have hP := l_join hI hP hQ hk
  obtain ⟨x3, hx3⟩ : ∃ z_, z_ = ((x1, x.2) : lS) := ⟨_, rfl⟩
  rw [← hx3] at hP
  refine tx_catch (E := tX_S) (hh1 := [(0, 10, 13, 19), (0, 10, 17, 28)]) (t := (0, 10, 21, 13)) (hh2 := []) htab hown hce hcv hcl (List.forall_mem_cons.mpr ⟨⟨by decide, tX_N, htw _ ww_376, tO_D hC hZ 2 rfl⟩, (List.forall_mem_cons.mpr ⟨⟨by decide, tX_A, htw _ ww_434, tO_D hC hZ 3 rfl⟩, (fun u hu => by cases hu)⟩)⟩) ⟨by decide, by decide⟩ (by decide) (htw _ ww_278) (tO_C hC hZ 1 rfl) ?_
  refine lv_astore (lv' := [(4, .ref q), (0, .ref (ad 0)), (1, .int a), (2, .int b), (3, .ref (ad 424))]) hx hb mD_La_blur_21 hl (by decide) rfl (fun ls hl => ?_)
  refine lv_iconst (v := nI 3) hx hb mD_La_blur_23 (by decide) ?_
  exact gw_iret hx hb hr hlocks hP hS (⟨rfl, (by rw [hx3]; exact hp), (by rw [hx3])⟩) mD_La_blur_24 (Nat.le_of_ble_eq_true rfl) (Nat.le_of_ble_eq_true rfl)

set_option maxHeartbeats 4000000 in
theorem k_La_pile (l : Launch) (D : va_G) (ct : Nat → ClassId) (ad : Nat → Nat) (hI : gw_inj 425 ad) (x : lS) {s0 : State} (a b : Int32) {post : Int32 → tS → Prop} (con : gMi l mY_TG_pile mB_TG_pile 6 (some .int) (rF 2 42) D (tT ct) gZ0 424 ad (tD ct ad) [.ref (ad 0), .int a, .int b] x.1 post) : gH l mY_La_pile mB_La_pile 5 [(0, 10, 13, 19), (0, 10, 17, 28), (0, 10, 21, 13)] (rF 3 67) D (tT ct) (tZ s0) 425 ad (lD ct ad) [.ref (ad 0), .int a, .int b, .ref (ad 424)] x (fun r x' => r = nI 0 ∧ ∃ v, post v x'.1 ∧ x'.2 = v.toInt64) := by
  refine gH_enter (by decide) (Nat.le_of_ble_eq_true rfl) ?_
  intro p e s m below meth c ls hx hb hr htw hown hlocks hml hl hP hK hZ hS htab
  have hA : ∀ k, k < 425 → gA 425 ad s.heap.size (ad k) := fun _ h => gA_in h
  have hl : lv_has ls 5 [(0, .ref (ad 0)), (1, .int a), (2, .int b), (3, .ref (ad 424))] := hl
  refine lv_aload_n hx hb mD_La_pile_0 rfl (lv_at hl 3 rfl) ?_
  refine lv_iconst (v := nI 0) hx hb mD_La_pile_1 (by decide) ?_
  refine lv_aload_n hx hb mD_La_pile_2 rfl (lv_at hl 0 rfl) ?_
  refine lv_iload_n hx hb mD_La_pile_3 rfl (lv_at hl 1 rfl) ?_
  refine lv_iload_n hx hb mD_La_pile_4 rfl (lv_at hl 2 rfl) ?_
  refine gc_Vi (As := [.int a, .int b]) (rest := [.int (nI 0), .ref (ad 424)]) hx hb hml hown htw hK (l_sub hP) hS 0 con gZ0_ok (fun _ _ _ => trivial) (l_gA hS.1) (by decide) rfl rfl ww_473 ww_474 ww_475 ww_23 wC_TG_pile mP_TG_pile (by decide) rfl hl.1 rfl (Nat.le_of_ble_eq_true rfl) mD_La_pile_5 ⟨Nat.le_of_ble_eq_true rfl, Nat.le_of_ble_eq_true rfl⟩ (fun r2 x1 H locs hp hQ _ hk hS => ?_)
  have hP := l_join hI hP hQ hk
  obtain ⟨x3, hx3⟩ : ∃ z_, z_ = ((x1, x.2) : lS) := ⟨_, rfl⟩
  rw [← hx3] at hP
  refine lv_i2l hx hb mD_La_pile_8 rfl ?_
  refine l_last hx hb hK hI hA hP hS mD_La_pile_9 (fun H locs hP hS => ?_)
  obtain ⟨x4, hx4⟩ : ∃ z_, z_ = ((x3.1, r2.toInt64) : lS) := ⟨_, rfl⟩
  rw [← hx4] at hP
  refine lv_goto (tgt := 25) hx hb mD_La_pile_10 rfl ?_
  refine lv_iconst (v := nI 0) hx hb mD_La_pile_25 (by decide) ?_
  exact gw_iret hx hb hr hlocks hP hS (⟨rfl, _, (by rw [hx4, hx3]; exact hp), (by rw [hx4])⟩) mD_La_pile_26 (Nat.le_of_ble_eq_true rfl) (Nat.le_of_ble_eq_true rfl)

set_option maxHeartbeats 4000000 in
theorem x1_La_pile (l : Launch) (D : va_G) (ct : Nat → ClassId) (ad : Nat → Nat) (hI : gw_inj 425 ad) (x : lS) {s0 : State} (a b : Int32) {post : tS → Prop} (hC : tOC s0) (con : gX l mY_TG_pile mB_TG_pile 6 (some .int) (rX 7 104) D (tT ct) (tZ s0) 424 ad (tD ct ad) [.ref (ad 0), .int a, .int b] x.1 tX_N post) : gH l mY_La_pile mB_La_pile 5 [(0, 10, 13, 19), (0, 10, 17, 28), (0, 10, 21, 13)] (rX 8 129) D (tT ct) (tZ s0) 425 ad (lD ct ad) [.ref (ad 0), .int a, .int b, .ref (ad 424)] x (fun r x' => r = nI 1 ∧ post x'.1 ∧ x'.2 = x.2) := by
  refine gH_enter (by decide) (Nat.le_of_ble_eq_true rfl) ?_
  intro p e s m below meth c ls hx hb hr htw hown hlocks hml hl hP hK hZ hS htab
  have hA : ∀ k, k < 425 → gA 425 ad s.heap.size (ad k) := fun _ h => gA_in h
  have hl : lv_has ls 5 [(0, .ref (ad 0)), (1, .int a), (2, .int b), (3, .ref (ad 424))] := hl
  refine lv_aload_n hx hb mD_La_pile_0 rfl (lv_at hl 3 rfl) ?_
  refine lv_iconst (v := nI 0) hx hb mD_La_pile_1 (by decide) ?_
  refine lv_aload_n hx hb mD_La_pile_2 rfl (lv_at hl 0 rfl) ?_
  refine lv_iload_n hx hb mD_La_pile_3 rfl (lv_at hl 1 rfl) ?_
  refine lv_iload_n hx hb mD_La_pile_4 rfl (lv_at hl 2 rfl) ?_
  refine tx_call (As := [.int a, .int b]) (rest := [.int (nI 0), .ref (ad 424)]) hx hb hml hown htw hK (l_sub hP) hS 0 con (tZ_ok s0) (tZ_in hZ hS (l_gA hS.1)) (l_gA hS.1) (by decide) rfl rfl ww_473 ww_474 ww_475 ww_23 wC_TG_pile mP_TG_pile (by decide) rfl hl.1 rfl (Nat.le_of_ble_eq_true rfl) mD_La_pile_5 ⟨Nat.le_of_ble_eq_true rfl, Nat.le_of_ble_eq_true rfl⟩ (fun q ce x1 H locs hp hQ _ hk hS hce hcv hcl => ?_)
  have hP := l_join hI hP hQ hk
  obtain ⟨x3, hx3⟩ : ∃ z_, z_ = ((x1, x.2) : lS) := ⟨_, rfl⟩
  rw [← hx3] at hP
  refine tx_catch (E := tX_N) (hh1 := []) (t := (0, 10, 13, 19)) (hh2 := [(0, 10, 17, 28), (0, 10, 21, 13)]) htab hown hce hcv hcl (fun u hu => by cases hu) ⟨by decide, by decide⟩ (by decide) (htw _ ww_376) (tO_C hC hZ 0 rfl) ?_
  refine lv_astore (lv' := [(4, .ref q), (0, .ref (ad 0)), (1, .int a), (2, .int b), (3, .ref (ad 424))]) hx hb mD_La_pile_13 hl (by decide) rfl (fun ls hl => ?_)
  refine lv_iconst (v := nI 1) hx hb mD_La_pile_15 (by decide) ?_
  exact gw_iret hx hb hr hlocks hP hS (⟨rfl, (by rw [hx3]; exact hp), (by rw [hx3])⟩) mD_La_pile_16 (Nat.le_of_ble_eq_true rfl) (Nat.le_of_ble_eq_true rfl)

set_option maxHeartbeats 4000000 in
theorem x2_La_pile (l : Launch) (D : va_G) (ct : Nat → ClassId) (ad : Nat → Nat) (hI : gw_inj 425 ad) (x : lS) {s0 : State} (a b : Int32) {post : tS → Prop} (hC : tOC s0) (con : gX l mY_TG_pile mB_TG_pile 6 (some .int) (rX 7 104) D (tT ct) (tZ s0) 424 ad (tD ct ad) [.ref (ad 0), .int a, .int b] x.1 tX_A post) : gH l mY_La_pile mB_La_pile 5 [(0, 10, 13, 19), (0, 10, 17, 28), (0, 10, 21, 13)] (rX 8 129) D (tT ct) (tZ s0) 425 ad (lD ct ad) [.ref (ad 0), .int a, .int b, .ref (ad 424)] x (fun r x' => r = nI 2 ∧ post x'.1 ∧ x'.2 = x.2) := by
  refine gH_enter (by decide) (Nat.le_of_ble_eq_true rfl) ?_
  intro p e s m below meth c ls hx hb hr htw hown hlocks hml hl hP hK hZ hS htab
  have hA : ∀ k, k < 425 → gA 425 ad s.heap.size (ad k) := fun _ h => gA_in h
  have hl : lv_has ls 5 [(0, .ref (ad 0)), (1, .int a), (2, .int b), (3, .ref (ad 424))] := hl
  refine lv_aload_n hx hb mD_La_pile_0 rfl (lv_at hl 3 rfl) ?_
  refine lv_iconst (v := nI 0) hx hb mD_La_pile_1 (by decide) ?_
  refine lv_aload_n hx hb mD_La_pile_2 rfl (lv_at hl 0 rfl) ?_
  refine lv_iload_n hx hb mD_La_pile_3 rfl (lv_at hl 1 rfl) ?_
  refine lv_iload_n hx hb mD_La_pile_4 rfl (lv_at hl 2 rfl) ?_
  refine tx_call (As := [.int a, .int b]) (rest := [.int (nI 0), .ref (ad 424)]) hx hb hml hown htw hK (l_sub hP) hS 0 con (tZ_ok s0) (tZ_in hZ hS (l_gA hS.1)) (l_gA hS.1) (by decide) rfl rfl ww_473 ww_474 ww_475 ww_23 wC_TG_pile mP_TG_pile (by decide) rfl hl.1 rfl (Nat.le_of_ble_eq_true rfl) mD_La_pile_5 ⟨Nat.le_of_ble_eq_true rfl, Nat.le_of_ble_eq_true rfl⟩ (fun q ce x1 H locs hp hQ _ hk hS hce hcv hcl => ?_)
  have hP := l_join hI hP hQ hk
  obtain ⟨x3, hx3⟩ : ∃ z_, z_ = ((x1, x.2) : lS) := ⟨_, rfl⟩
  rw [← hx3] at hP
  refine tx_catch (E := tX_A) (hh1 := [(0, 10, 13, 19)]) (t := (0, 10, 17, 28)) (hh2 := [(0, 10, 21, 13)]) htab hown hce hcv hcl (List.forall_mem_cons.mpr ⟨⟨by decide, tX_N, htw _ ww_376, tO_D hC hZ 4 rfl⟩, (fun u hu => by cases hu)⟩) ⟨by decide, by decide⟩ (by decide) (htw _ ww_434) (tO_C hC hZ 2 rfl) ?_
  refine lv_astore (lv' := [(4, .ref q), (0, .ref (ad 0)), (1, .int a), (2, .int b), (3, .ref (ad 424))]) hx hb mD_La_pile_17 hl (by decide) rfl (fun ls hl => ?_)
  refine lv_iconst (v := nI 2) hx hb mD_La_pile_19 (by decide) ?_
  exact gw_iret hx hb hr hlocks hP hS (⟨rfl, (by rw [hx3]; exact hp), (by rw [hx3])⟩) mD_La_pile_20 (Nat.le_of_ble_eq_true rfl) (Nat.le_of_ble_eq_true rfl)

set_option maxHeartbeats 4000000 in
theorem x3_La_pile (l : Launch) (D : va_G) (ct : Nat → ClassId) (ad : Nat → Nat) (hI : gw_inj 425 ad) (x : lS) {s0 : State} (a b : Int32) {post : tS → Prop} (hC : tOC s0) (con : gX l mY_TG_pile mB_TG_pile 6 (some .int) (rX 7 104) D (tT ct) (tZ s0) 424 ad (tD ct ad) [.ref (ad 0), .int a, .int b] x.1 tX_S post) : gH l mY_La_pile mB_La_pile 5 [(0, 10, 13, 19), (0, 10, 17, 28), (0, 10, 21, 13)] (rX 8 129) D (tT ct) (tZ s0) 425 ad (lD ct ad) [.ref (ad 0), .int a, .int b, .ref (ad 424)] x (fun r x' => r = nI 3 ∧ post x'.1 ∧ x'.2 = x.2) := by
  refine gH_enter (by decide) (Nat.le_of_ble_eq_true rfl) ?_
  intro p e s m below meth c ls hx hb hr htw hown hlocks hml hl hP hK hZ hS htab
  have hA : ∀ k, k < 425 → gA 425 ad s.heap.size (ad k) := fun _ h => gA_in h
  have hl : lv_has ls 5 [(0, .ref (ad 0)), (1, .int a), (2, .int b), (3, .ref (ad 424))] := hl
  refine lv_aload_n hx hb mD_La_pile_0 rfl (lv_at hl 3 rfl) ?_
  refine lv_iconst (v := nI 0) hx hb mD_La_pile_1 (by decide) ?_
  refine lv_aload_n hx hb mD_La_pile_2 rfl (lv_at hl 0 rfl) ?_
  refine lv_iload_n hx hb mD_La_pile_3 rfl (lv_at hl 1 rfl) ?_
  refine lv_iload_n hx hb mD_La_pile_4 rfl (lv_at hl 2 rfl) ?_
  refine tx_call (As := [.int a, .int b]) (rest := [.int (nI 0), .ref (ad 424)]) hx hb hml hown htw hK (l_sub hP) hS 0 con (tZ_ok s0) (tZ_in hZ hS (l_gA hS.1)) (l_gA hS.1) (by decide) rfl rfl ww_473 ww_474 ww_475 ww_23 wC_TG_pile mP_TG_pile (by decide) rfl hl.1 rfl (Nat.le_of_ble_eq_true rfl) mD_La_pile_5 ⟨Nat.le_of_ble_eq_true rfl, Nat.le_of_ble_eq_true rfl⟩ (fun q ce x1 H locs hp hQ _ hk hS hce hcv hcl => ?_)
  have hP := l_join hI hP hQ hk
  obtain ⟨x3, hx3⟩ : ∃ z_, z_ = ((x1, x.2) : lS) := ⟨_, rfl⟩
  rw [← hx3] at hP
  refine tx_catch (E := tX_S) (hh1 := [(0, 10, 13, 19), (0, 10, 17, 28)]) (t := (0, 10, 21, 13)) (hh2 := []) htab hown hce hcv hcl (List.forall_mem_cons.mpr ⟨⟨by decide, tX_N, htw _ ww_376, tO_D hC hZ 2 rfl⟩, (List.forall_mem_cons.mpr ⟨⟨by decide, tX_A, htw _ ww_434, tO_D hC hZ 3 rfl⟩, (fun u hu => by cases hu)⟩)⟩) ⟨by decide, by decide⟩ (by decide) (htw _ ww_278) (tO_C hC hZ 1 rfl) ?_
  refine lv_astore (lv' := [(4, .ref q), (0, .ref (ad 0)), (1, .int a), (2, .int b), (3, .ref (ad 424))]) hx hb mD_La_pile_21 hl (by decide) rfl (fun ls hl => ?_)
  refine lv_iconst (v := nI 3) hx hb mD_La_pile_23 (by decide) ?_
  exact gw_iret hx hb hr hlocks hP hS (⟨rfl, (by rw [hx3]; exact hp), (by rw [hx3])⟩) mD_La_pile_24 (Nat.le_of_ble_eq_true rfl) (Nat.le_of_ble_eq_true rfl)

set_option maxHeartbeats 4000000 in
theorem k_La_gate (l : Launch) (D : va_G) (ct : Nat → ClassId) (ad : Nat → Nat) (hI : gw_inj 425 ad) (x : lS) {s0 : State} (a b c_ : Int32) {post : Int32 → tS → Prop} (con : gMi l mY_TG_gate mB_TG_gate 7 (some .int) (rF 6 151) D (tT ct) (tZ s0) 424 ad (tD ct ad) [.ref (ad 0), .int a, .int b, .int c_] x.1 post) : gH l mY_La_gate mB_La_gate 6 [(0, 12, 15, 19), (0, 12, 19, 13)] (rF 7 177) D (tT ct) (tZ s0) 425 ad (lD ct ad) [.ref (ad 0), .int a, .int b, .int c_, .ref (ad 424)] x (fun r x' => r = nI 0 ∧ ∃ v, post v x'.1 ∧ x'.2 = v.toInt64) := by
  refine gH_enter (by decide) (Nat.le_of_ble_eq_true rfl) ?_
  intro p e s m below meth c ls hx hb hr htw hown hlocks hml hl hP hK hZ hS htab
  have hA : ∀ k, k < 425 → gA 425 ad s.heap.size (ad k) := fun _ h => gA_in h
  have hl : lv_has ls 6 [(0, .ref (ad 0)), (1, .int a), (2, .int b), (3, .int c_), (4, .ref (ad 424))] := hl
  refine lv_aload hx hb mD_La_gate_0 (lv_at hl 4 rfl) ?_
  refine lv_iconst (v := nI 0) hx hb mD_La_gate_2 (by decide) ?_
  refine lv_aload_n hx hb mD_La_gate_3 rfl (lv_at hl 0 rfl) ?_
  refine lv_iload_n hx hb mD_La_gate_4 rfl (lv_at hl 1 rfl) ?_
  refine lv_iload_n hx hb mD_La_gate_5 rfl (lv_at hl 2 rfl) ?_
  refine lv_iload_n hx hb mD_La_gate_6 rfl (lv_at hl 3 rfl) ?_
  refine gc_Vi (As := [.int a, .int b, .int c_]) (rest := [.int (nI 0), .ref (ad 424)]) hx hb hml hown htw hK (l_sub hP) hS 0 con (tZ_ok s0) (tZ_in hZ hS (l_gA hS.1)) (l_gA hS.1) (by decide) rfl rfl ww_481 ww_482 ww_483 ww_23 wC_TG_gate mP_TG_gate (by decide) rfl hl.1 rfl (Nat.le_of_ble_eq_true rfl) mD_La_gate_7 ⟨Nat.le_of_ble_eq_true rfl, Nat.le_of_ble_eq_true rfl⟩ (fun r2 x1 H locs hp hQ _ hk hS => ?_)
  have hP := l_join hI hP hQ hk
  obtain ⟨x3, hx3⟩ : ∃ z_, z_ = ((x1, x.2) : lS) := ⟨_, rfl⟩
  rw [← hx3] at hP
  refine lv_i2l hx hb mD_La_gate_10 rfl ?_
  refine l_last hx hb hK hI hA hP hS mD_La_gate_11 (fun H locs hP hS => ?_)
  obtain ⟨x4, hx4⟩ : ∃ z_, z_ = ((x3.1, r2.toInt64) : lS) := ⟨_, rfl⟩
  rw [← hx4] at hP
  refine lv_goto (tgt := 23) hx hb mD_La_gate_12 rfl ?_
  refine lv_iconst (v := nI 0) hx hb mD_La_gate_23 (by decide) ?_
  exact gw_iret hx hb hr hlocks hP hS (⟨rfl, _, (by rw [hx4, hx3]; exact hp), (by rw [hx4])⟩) mD_La_gate_24 (Nat.le_of_ble_eq_true rfl) (Nat.le_of_ble_eq_true rfl)

set_option maxHeartbeats 4000000 in
theorem x1_La_gate (l : Launch) (D : va_G) (ct : Nat → ClassId) (ad : Nat → Nat) (hI : gw_inj 425 ad) (x : lS) {s0 : State} (a b c_ : Int32) {post : tS → Prop} (hC : tOC s0) (con : gX l mY_TG_gate mB_TG_gate 7 (some .int) (rX 7 151) D (tT ct) (tZ s0) 424 ad (tD ct ad) [.ref (ad 0), .int a, .int b, .int c_] x.1 tX_N post) : gH l mY_La_gate mB_La_gate 6 [(0, 12, 15, 19), (0, 12, 19, 13)] (rX 8 177) D (tT ct) (tZ s0) 425 ad (lD ct ad) [.ref (ad 0), .int a, .int b, .int c_, .ref (ad 424)] x (fun r x' => r = nI 1 ∧ post x'.1 ∧ x'.2 = x.2) := by
  refine gH_enter (by decide) (Nat.le_of_ble_eq_true rfl) ?_
  intro p e s m below meth c ls hx hb hr htw hown hlocks hml hl hP hK hZ hS htab
  have hA : ∀ k, k < 425 → gA 425 ad s.heap.size (ad k) := fun _ h => gA_in h
  have hl : lv_has ls 6 [(0, .ref (ad 0)), (1, .int a), (2, .int b), (3, .int c_), (4, .ref (ad 424))] := hl
  refine lv_aload hx hb mD_La_gate_0 (lv_at hl 4 rfl) ?_
  refine lv_iconst (v := nI 0) hx hb mD_La_gate_2 (by decide) ?_
  refine lv_aload_n hx hb mD_La_gate_3 rfl (lv_at hl 0 rfl) ?_
  refine lv_iload_n hx hb mD_La_gate_4 rfl (lv_at hl 1 rfl) ?_
  refine lv_iload_n hx hb mD_La_gate_5 rfl (lv_at hl 2 rfl) ?_
  refine lv_iload_n hx hb mD_La_gate_6 rfl (lv_at hl 3 rfl) ?_
  refine tx_call (As := [.int a, .int b, .int c_]) (rest := [.int (nI 0), .ref (ad 424)]) hx hb hml hown htw hK (l_sub hP) hS 0 con (tZ_ok s0) (tZ_in hZ hS (l_gA hS.1)) (l_gA hS.1) (by decide) rfl rfl ww_481 ww_482 ww_483 ww_23 wC_TG_gate mP_TG_gate (by decide) rfl hl.1 rfl (Nat.le_of_ble_eq_true rfl) mD_La_gate_7 ⟨Nat.le_of_ble_eq_true rfl, Nat.le_of_ble_eq_true rfl⟩ (fun q ce x1 H locs hp hQ _ hk hS hce hcv hcl => ?_)
  have hP := l_join hI hP hQ hk
  obtain ⟨x3, hx3⟩ : ∃ z_, z_ = ((x1, x.2) : lS) := ⟨_, rfl⟩
  rw [← hx3] at hP
  refine tx_catch (E := tX_N) (hh1 := []) (t := (0, 12, 15, 19)) (hh2 := [(0, 12, 19, 13)]) htab hown hce hcv hcl (fun u hu => by cases hu) ⟨by decide, by decide⟩ (by decide) (htw _ ww_376) (tO_C hC hZ 0 rfl) ?_
  refine lv_astore (lv' := [(5, .ref q), (0, .ref (ad 0)), (1, .int a), (2, .int b), (3, .int c_), (4, .ref (ad 424))]) hx hb mD_La_gate_15 hl (by decide) rfl (fun ls hl => ?_)
  refine lv_iconst (v := nI 1) hx hb mD_La_gate_17 (by decide) ?_
  exact gw_iret hx hb hr hlocks hP hS (⟨rfl, (by rw [hx3]; exact hp), (by rw [hx3])⟩) mD_La_gate_18 (Nat.le_of_ble_eq_true rfl) (Nat.le_of_ble_eq_true rfl)

set_option maxHeartbeats 4000000 in
theorem x2_La_gate (l : Launch) (D : va_G) (ct : Nat → ClassId) (ad : Nat → Nat) (hI : gw_inj 425 ad) (x : lS) {s0 : State} (a b c_ : Int32) {post : tS → Prop} (hC : tOC s0) (con : gX l mY_TG_gate mB_TG_gate 7 (some .int) (rX 7 151) D (tT ct) (tZ s0) 424 ad (tD ct ad) [.ref (ad 0), .int a, .int b, .int c_] x.1 tX_S post) : gH l mY_La_gate mB_La_gate 6 [(0, 12, 15, 19), (0, 12, 19, 13)] (rX 8 177) D (tT ct) (tZ s0) 425 ad (lD ct ad) [.ref (ad 0), .int a, .int b, .int c_, .ref (ad 424)] x (fun r x' => r = nI 2 ∧ post x'.1 ∧ x'.2 = x.2) := by
  refine gH_enter (by decide) (Nat.le_of_ble_eq_true rfl) ?_
  intro p e s m below meth c ls hx hb hr htw hown hlocks hml hl hP hK hZ hS htab
  have hA : ∀ k, k < 425 → gA 425 ad s.heap.size (ad k) := fun _ h => gA_in h
  have hl : lv_has ls 6 [(0, .ref (ad 0)), (1, .int a), (2, .int b), (3, .int c_), (4, .ref (ad 424))] := hl
  refine lv_aload hx hb mD_La_gate_0 (lv_at hl 4 rfl) ?_
  refine lv_iconst (v := nI 0) hx hb mD_La_gate_2 (by decide) ?_
  refine lv_aload_n hx hb mD_La_gate_3 rfl (lv_at hl 0 rfl) ?_
  refine lv_iload_n hx hb mD_La_gate_4 rfl (lv_at hl 1 rfl) ?_
  refine lv_iload_n hx hb mD_La_gate_5 rfl (lv_at hl 2 rfl) ?_
  refine lv_iload_n hx hb mD_La_gate_6 rfl (lv_at hl 3 rfl) ?_
  refine tx_call (As := [.int a, .int b, .int c_]) (rest := [.int (nI 0), .ref (ad 424)]) hx hb hml hown htw hK (l_sub hP) hS 0 con (tZ_ok s0) (tZ_in hZ hS (l_gA hS.1)) (l_gA hS.1) (by decide) rfl rfl ww_481 ww_482 ww_483 ww_23 wC_TG_gate mP_TG_gate (by decide) rfl hl.1 rfl (Nat.le_of_ble_eq_true rfl) mD_La_gate_7 ⟨Nat.le_of_ble_eq_true rfl, Nat.le_of_ble_eq_true rfl⟩ (fun q ce x1 H locs hp hQ _ hk hS hce hcv hcl => ?_)
  have hP := l_join hI hP hQ hk
  obtain ⟨x3, hx3⟩ : ∃ z_, z_ = ((x1, x.2) : lS) := ⟨_, rfl⟩
  rw [← hx3] at hP
  refine tx_catch (E := tX_S) (hh1 := [(0, 12, 15, 19)]) (t := (0, 12, 19, 13)) (hh2 := []) htab hown hce hcv hcl (List.forall_mem_cons.mpr ⟨⟨by decide, tX_N, htw _ ww_376, tO_D hC hZ 2 rfl⟩, (fun u hu => by cases hu)⟩) ⟨by decide, by decide⟩ (by decide) (htw _ ww_278) (tO_C hC hZ 1 rfl) ?_
  refine lv_astore (lv' := [(5, .ref q), (0, .ref (ad 0)), (1, .int a), (2, .int b), (3, .int c_), (4, .ref (ad 424))]) hx hb mD_La_gate_19 hl (by decide) rfl (fun ls hl => ?_)
  refine lv_iconst (v := nI 2) hx hb mD_La_gate_21 (by decide) ?_
  exact gw_iret hx hb hr hlocks hP hS (⟨rfl, (by rw [hx3]; exact hp), (by rw [hx3])⟩) mD_La_gate_22 (Nat.le_of_ble_eq_true rfl) (Nat.le_of_ble_eq_true rfl)

set_option maxHeartbeats 4000000 in
theorem k_La_choose (l : Launch) (D : va_G) (ct : Nat → ClassId) (ad : Nat → Nat) (hI : gw_inj 425 ad) (x : lS) {s0 : State} (a b c_ : Int32) {post : Int32 → tS → Prop} (con : gMi l mY_TG_choose mB_TG_choose 8 (some .int) (rF 6 151) D (tT ct) (tZ s0) 424 ad (tD ct ad) [.ref (ad 0), .int a, .int b, .int c_] x.1 post) : gH l mY_La_choose mB_La_choose 6 [(0, 12, 15, 19), (0, 12, 19, 13)] (rF 7 178) D (tT ct) (tZ s0) 425 ad (lD ct ad) [.ref (ad 0), .int a, .int b, .int c_, .ref (ad 424)] x (fun r x' => r = nI 0 ∧ ∃ v, post v x'.1 ∧ x'.2 = v.toInt64) := by
  refine gH_enter (by decide) (Nat.le_of_ble_eq_true rfl) ?_
  intro p e s m below meth c ls hx hb hr htw hown hlocks hml hl hP hK hZ hS htab
  have hA : ∀ k, k < 425 → gA 425 ad s.heap.size (ad k) := fun _ h => gA_in h
  have hl : lv_has ls 6 [(0, .ref (ad 0)), (1, .int a), (2, .int b), (3, .int c_), (4, .ref (ad 424))] := hl
  refine lv_aload hx hb mD_La_choose_0 (lv_at hl 4 rfl) ?_
  refine lv_iconst (v := nI 0) hx hb mD_La_choose_2 (by decide) ?_
  refine lv_aload_n hx hb mD_La_choose_3 rfl (lv_at hl 0 rfl) ?_
  refine lv_iload_n hx hb mD_La_choose_4 rfl (lv_at hl 1 rfl) ?_
  refine lv_iload_n hx hb mD_La_choose_5 rfl (lv_at hl 2 rfl) ?_
  refine lv_iload_n hx hb mD_La_choose_6 rfl (lv_at hl 3 rfl) ?_
  refine gc_Vi (As := [.int a, .int b, .int c_]) (rest := [.int (nI 0), .ref (ad 424)]) hx hb hml hown htw hK (l_sub hP) hS 0 con (tZ_ok s0) (tZ_in hZ hS (l_gA hS.1)) (l_gA hS.1) (by decide) rfl rfl ww_560 ww_561 ww_562 ww_23 wC_TG_choose mP_TG_choose (by decide) rfl hl.1 rfl (Nat.le_of_ble_eq_true rfl) mD_La_choose_7 ⟨Nat.le_of_ble_eq_true rfl, Nat.le_of_ble_eq_true rfl⟩ (fun r2 x1 H locs hp hQ _ hk hS => ?_)
  have hP := l_join hI hP hQ hk
  obtain ⟨x3, hx3⟩ : ∃ z_, z_ = ((x1, x.2) : lS) := ⟨_, rfl⟩
  rw [← hx3] at hP
  refine lv_i2l hx hb mD_La_choose_10 rfl ?_
  refine l_last hx hb hK hI hA hP hS mD_La_choose_11 (fun H locs hP hS => ?_)
  obtain ⟨x4, hx4⟩ : ∃ z_, z_ = ((x3.1, r2.toInt64) : lS) := ⟨_, rfl⟩
  rw [← hx4] at hP
  refine lv_goto (tgt := 23) hx hb mD_La_choose_12 rfl ?_
  refine lv_iconst (v := nI 0) hx hb mD_La_choose_23 (by decide) ?_
  exact gw_iret hx hb hr hlocks hP hS (⟨rfl, _, (by rw [hx4, hx3]; exact hp), (by rw [hx4])⟩) mD_La_choose_24 (Nat.le_of_ble_eq_true rfl) (Nat.le_of_ble_eq_true rfl)

set_option maxHeartbeats 4000000 in
theorem x1_La_choose (l : Launch) (D : va_G) (ct : Nat → ClassId) (ad : Nat → Nat) (hI : gw_inj 425 ad) (x : lS) {s0 : State} (a b c_ : Int32) {post : tS → Prop} (hC : tOC s0) (con : gX l mY_TG_choose mB_TG_choose 8 (some .int) (rX 7 151) D (tT ct) (tZ s0) 424 ad (tD ct ad) [.ref (ad 0), .int a, .int b, .int c_] x.1 tX_N post) : gH l mY_La_choose mB_La_choose 6 [(0, 12, 15, 19), (0, 12, 19, 13)] (rX 8 178) D (tT ct) (tZ s0) 425 ad (lD ct ad) [.ref (ad 0), .int a, .int b, .int c_, .ref (ad 424)] x (fun r x' => r = nI 1 ∧ post x'.1 ∧ x'.2 = x.2) := by
  refine gH_enter (by decide) (Nat.le_of_ble_eq_true rfl) ?_
  intro p e s m below meth c ls hx hb hr htw hown hlocks hml hl hP hK hZ hS htab
  have hA : ∀ k, k < 425 → gA 425 ad s.heap.size (ad k) := fun _ h => gA_in h
  have hl : lv_has ls 6 [(0, .ref (ad 0)), (1, .int a), (2, .int b), (3, .int c_), (4, .ref (ad 424))] := hl
  refine lv_aload hx hb mD_La_choose_0 (lv_at hl 4 rfl) ?_
  refine lv_iconst (v := nI 0) hx hb mD_La_choose_2 (by decide) ?_
  refine lv_aload_n hx hb mD_La_choose_3 rfl (lv_at hl 0 rfl) ?_
  refine lv_iload_n hx hb mD_La_choose_4 rfl (lv_at hl 1 rfl) ?_
  refine lv_iload_n hx hb mD_La_choose_5 rfl (lv_at hl 2 rfl) ?_
  refine lv_iload_n hx hb mD_La_choose_6 rfl (lv_at hl 3 rfl) ?_
  refine tx_call (As := [.int a, .int b, .int c_]) (rest := [.int (nI 0), .ref (ad 424)]) hx hb hml hown htw hK (l_sub hP) hS 0 con (tZ_ok s0) (tZ_in hZ hS (l_gA hS.1)) (l_gA hS.1) (by decide) rfl rfl ww_560 ww_561 ww_562 ww_23 wC_TG_choose mP_TG_choose (by decide) rfl hl.1 rfl (Nat.le_of_ble_eq_true rfl) mD_La_choose_7 ⟨Nat.le_of_ble_eq_true rfl, Nat.le_of_ble_eq_true rfl⟩ (fun q ce x1 H locs hp hQ _ hk hS hce hcv hcl => ?_)
  have hP := l_join hI hP hQ hk
  obtain ⟨x3, hx3⟩ : ∃ z_, z_ = ((x1, x.2) : lS) := ⟨_, rfl⟩
  rw [← hx3] at hP
  refine tx_catch (E := tX_N) (hh1 := []) (t := (0, 12, 15, 19)) (hh2 := [(0, 12, 19, 13)]) htab hown hce hcv hcl (fun u hu => by cases hu) ⟨by decide, by decide⟩ (by decide) (htw _ ww_376) (tO_C hC hZ 0 rfl) ?_
  refine lv_astore (lv' := [(5, .ref q), (0, .ref (ad 0)), (1, .int a), (2, .int b), (3, .int c_), (4, .ref (ad 424))]) hx hb mD_La_choose_15 hl (by decide) rfl (fun ls hl => ?_)
  refine lv_iconst (v := nI 1) hx hb mD_La_choose_17 (by decide) ?_
  exact gw_iret hx hb hr hlocks hP hS (⟨rfl, (by rw [hx3]; exact hp), (by rw [hx3])⟩) mD_La_choose_18 (Nat.le_of_ble_eq_true rfl) (Nat.le_of_ble_eq_true rfl)

set_option maxHeartbeats 4000000 in
theorem x2_La_choose (l : Launch) (D : va_G) (ct : Nat → ClassId) (ad : Nat → Nat) (hI : gw_inj 425 ad) (x : lS) {s0 : State} (a b c_ : Int32) {post : tS → Prop} (hC : tOC s0) (con : gX l mY_TG_choose mB_TG_choose 8 (some .int) (rX 7 151) D (tT ct) (tZ s0) 424 ad (tD ct ad) [.ref (ad 0), .int a, .int b, .int c_] x.1 tX_S post) : gH l mY_La_choose mB_La_choose 6 [(0, 12, 15, 19), (0, 12, 19, 13)] (rX 8 178) D (tT ct) (tZ s0) 425 ad (lD ct ad) [.ref (ad 0), .int a, .int b, .int c_, .ref (ad 424)] x (fun r x' => r = nI 2 ∧ post x'.1 ∧ x'.2 = x.2) := by
  refine gH_enter (by decide) (Nat.le_of_ble_eq_true rfl) ?_
  intro p e s m below meth c ls hx hb hr htw hown hlocks hml hl hP hK hZ hS htab
  have hA : ∀ k, k < 425 → gA 425 ad s.heap.size (ad k) := fun _ h => gA_in h
  have hl : lv_has ls 6 [(0, .ref (ad 0)), (1, .int a), (2, .int b), (3, .int c_), (4, .ref (ad 424))] := hl
  refine lv_aload hx hb mD_La_choose_0 (lv_at hl 4 rfl) ?_
  refine lv_iconst (v := nI 0) hx hb mD_La_choose_2 (by decide) ?_
  refine lv_aload_n hx hb mD_La_choose_3 rfl (lv_at hl 0 rfl) ?_
  refine lv_iload_n hx hb mD_La_choose_4 rfl (lv_at hl 1 rfl) ?_
  refine lv_iload_n hx hb mD_La_choose_5 rfl (lv_at hl 2 rfl) ?_
  refine lv_iload_n hx hb mD_La_choose_6 rfl (lv_at hl 3 rfl) ?_
  refine tx_call (As := [.int a, .int b, .int c_]) (rest := [.int (nI 0), .ref (ad 424)]) hx hb hml hown htw hK (l_sub hP) hS 0 con (tZ_ok s0) (tZ_in hZ hS (l_gA hS.1)) (l_gA hS.1) (by decide) rfl rfl ww_560 ww_561 ww_562 ww_23 wC_TG_choose mP_TG_choose (by decide) rfl hl.1 rfl (Nat.le_of_ble_eq_true rfl) mD_La_choose_7 ⟨Nat.le_of_ble_eq_true rfl, Nat.le_of_ble_eq_true rfl⟩ (fun q ce x1 H locs hp hQ _ hk hS hce hcv hcl => ?_)
  have hP := l_join hI hP hQ hk
  obtain ⟨x3, hx3⟩ : ∃ z_, z_ = ((x1, x.2) : lS) := ⟨_, rfl⟩
  rw [← hx3] at hP
  refine tx_catch (E := tX_S) (hh1 := [(0, 12, 15, 19)]) (t := (0, 12, 19, 13)) (hh2 := []) htab hown hce hcv hcl (List.forall_mem_cons.mpr ⟨⟨by decide, tX_N, htw _ ww_376, tO_D hC hZ 2 rfl⟩, (fun u hu => by cases hu)⟩) ⟨by decide, by decide⟩ (by decide) (htw _ ww_278) (tO_C hC hZ 1 rfl) ?_
  refine lv_astore (lv' := [(5, .ref q), (0, .ref (ad 0)), (1, .int a), (2, .int b), (3, .int c_), (4, .ref (ad 424))]) hx hb mD_La_choose_19 hl (by decide) rfl (fun ls hl => ?_)
  refine lv_iconst (v := nI 2) hx hb mD_La_choose_21 (by decide) ?_
  exact gw_iret hx hb hr hlocks hP hS (⟨rfl, (by rw [hx3]; exact hp), (by rw [hx3])⟩) mD_La_choose_22 (Nat.le_of_ble_eq_true rfl) (Nat.le_of_ble_eq_true rfl)

set_option maxHeartbeats 4000000 in
theorem k_La_open (l : Launch) (D : va_G) (ct : Nat → ClassId) (ad : Nat → Nat) (hI : gw_inj 425 ad) (x : lS) {s0 : State} (a : Int32) {post : Int32 → tS → Prop} (con : gMi l mY_TG_open mB_TG_open 3 (some .int) (rF 2 42) D (tT ct) gZ0 424 ad (tD ct ad) [.ref (ad 0), .int a] x.1 post) : gH l mY_La_open mB_La_open 4 [(0, 9, 12, 19), (0, 9, 15, 13)] (rF 3 64) D (tT ct) (tZ s0) 425 ad (lD ct ad) [.ref (ad 0), .int a, .ref (ad 424)] x (fun r x' => r = nI 0 ∧ ∃ v, post v x'.1 ∧ x'.2 = v.toInt64) := by
  refine gH_enter (by decide) (Nat.le_of_ble_eq_true rfl) ?_
  intro p e s m below meth c ls hx hb hr htw hown hlocks hml hl hP hK hZ hS htab
  have hA : ∀ k, k < 425 → gA 425 ad s.heap.size (ad k) := fun _ h => gA_in h
  have hl : lv_has ls 4 [(0, .ref (ad 0)), (1, .int a), (2, .ref (ad 424))] := hl
  refine lv_aload_n hx hb mD_La_open_0 rfl (lv_at hl 2 rfl) ?_
  refine lv_iconst (v := nI 0) hx hb mD_La_open_1 (by decide) ?_
  refine lv_aload_n hx hb mD_La_open_2 rfl (lv_at hl 0 rfl) ?_
  refine lv_iload_n hx hb mD_La_open_3 rfl (lv_at hl 1 rfl) ?_
  refine gc_Vi (As := [.int a]) (rest := [.int (nI 0), .ref (ad 424)]) hx hb hml hown htw hK (l_sub hP) hS 0 con gZ0_ok (fun _ _ _ => trivial) (l_gA hS.1) (by decide) rfl rfl ww_567 ww_568 ww_569 ww_23 wC_TG_open mP_TG_open (by decide) rfl hl.1 rfl (Nat.le_of_ble_eq_true rfl) mD_La_open_4 ⟨Nat.le_of_ble_eq_true rfl, Nat.le_of_ble_eq_true rfl⟩ (fun r2 x1 H locs hp hQ _ hk hS => ?_)
  have hP := l_join hI hP hQ hk
  obtain ⟨x3, hx3⟩ : ∃ z_, z_ = ((x1, x.2) : lS) := ⟨_, rfl⟩
  rw [← hx3] at hP
  refine lv_i2l hx hb mD_La_open_7 rfl ?_
  refine l_last hx hb hK hI hA hP hS mD_La_open_8 (fun H locs hP hS => ?_)
  obtain ⟨x4, hx4⟩ : ∃ z_, z_ = ((x3.1, r2.toInt64) : lS) := ⟨_, rfl⟩
  rw [← hx4] at hP
  refine lv_goto (tgt := 18) hx hb mD_La_open_9 rfl ?_
  refine lv_iconst (v := nI 0) hx hb mD_La_open_18 (by decide) ?_
  exact gw_iret hx hb hr hlocks hP hS (⟨rfl, _, (by rw [hx4, hx3]; exact hp), (by rw [hx4])⟩) mD_La_open_19 (Nat.le_of_ble_eq_true rfl) (Nat.le_of_ble_eq_true rfl)

set_option maxHeartbeats 4000000 in
theorem x1_La_open (l : Launch) (D : va_G) (ct : Nat → ClassId) (ad : Nat → Nat) (hI : gw_inj 425 ad) (x : lS) {s0 : State} (a : Int32) {post : tS → Prop} (hC : tOC s0) (con : gX l mY_TG_open mB_TG_open 3 (some .int) (rX 7 103) D (tT ct) (tZ s0) 424 ad (tD ct ad) [.ref (ad 0), .int a] x.1 tX_N post) : gH l mY_La_open mB_La_open 4 [(0, 9, 12, 19), (0, 9, 15, 13)] (rX 8 125) D (tT ct) (tZ s0) 425 ad (lD ct ad) [.ref (ad 0), .int a, .ref (ad 424)] x (fun r x' => r = nI 1 ∧ post x'.1 ∧ x'.2 = x.2) := by
  refine gH_enter (by decide) (Nat.le_of_ble_eq_true rfl) ?_
  intro p e s m below meth c ls hx hb hr htw hown hlocks hml hl hP hK hZ hS htab
  have hA : ∀ k, k < 425 → gA 425 ad s.heap.size (ad k) := fun _ h => gA_in h
  have hl : lv_has ls 4 [(0, .ref (ad 0)), (1, .int a), (2, .ref (ad 424))] := hl
  refine lv_aload_n hx hb mD_La_open_0 rfl (lv_at hl 2 rfl) ?_
  refine lv_iconst (v := nI 0) hx hb mD_La_open_1 (by decide) ?_
  refine lv_aload_n hx hb mD_La_open_2 rfl (lv_at hl 0 rfl) ?_
  refine lv_iload_n hx hb mD_La_open_3 rfl (lv_at hl 1 rfl) ?_
  refine tx_call (As := [.int a]) (rest := [.int (nI 0), .ref (ad 424)]) hx hb hml hown htw hK (l_sub hP) hS 0 con (tZ_ok s0) (tZ_in hZ hS (l_gA hS.1)) (l_gA hS.1) (by decide) rfl rfl ww_567 ww_568 ww_569 ww_23 wC_TG_open mP_TG_open (by decide) rfl hl.1 rfl (Nat.le_of_ble_eq_true rfl) mD_La_open_4 ⟨Nat.le_of_ble_eq_true rfl, Nat.le_of_ble_eq_true rfl⟩ (fun q ce x1 H locs hp hQ _ hk hS hce hcv hcl => ?_)
  have hP := l_join hI hP hQ hk
  obtain ⟨x3, hx3⟩ : ∃ z_, z_ = ((x1, x.2) : lS) := ⟨_, rfl⟩
  rw [← hx3] at hP
  refine tx_catch (E := tX_N) (hh1 := []) (t := (0, 9, 12, 19)) (hh2 := [(0, 9, 15, 13)]) htab hown hce hcv hcl (fun u hu => by cases hu) ⟨by decide, by decide⟩ (by decide) (htw _ ww_376) (tO_C hC hZ 0 rfl) ?_
  refine lv_astore_n (lv' := [(3, .ref q), (0, .ref (ad 0)), (1, .int a), (2, .ref (ad 424))]) hx hb mD_La_open_12 rfl hl (by decide) rfl (fun ls hl => ?_)
  refine lv_iconst (v := nI 1) hx hb mD_La_open_13 (by decide) ?_
  exact gw_iret hx hb hr hlocks hP hS (⟨rfl, (by rw [hx3]; exact hp), (by rw [hx3])⟩) mD_La_open_14 (Nat.le_of_ble_eq_true rfl) (Nat.le_of_ble_eq_true rfl)

set_option maxHeartbeats 4000000 in
theorem x2_La_open (l : Launch) (D : va_G) (ct : Nat → ClassId) (ad : Nat → Nat) (hI : gw_inj 425 ad) (x : lS) {s0 : State} (a : Int32) {post : tS → Prop} (hC : tOC s0) (con : gX l mY_TG_open mB_TG_open 3 (some .int) (rX 7 103) D (tT ct) (tZ s0) 424 ad (tD ct ad) [.ref (ad 0), .int a] x.1 tX_S post) : gH l mY_La_open mB_La_open 4 [(0, 9, 12, 19), (0, 9, 15, 13)] (rX 8 125) D (tT ct) (tZ s0) 425 ad (lD ct ad) [.ref (ad 0), .int a, .ref (ad 424)] x (fun r x' => r = nI 2 ∧ post x'.1 ∧ x'.2 = x.2) := by
  refine gH_enter (by decide) (Nat.le_of_ble_eq_true rfl) ?_
  intro p e s m below meth c ls hx hb hr htw hown hlocks hml hl hP hK hZ hS htab
  have hA : ∀ k, k < 425 → gA 425 ad s.heap.size (ad k) := fun _ h => gA_in h
  have hl : lv_has ls 4 [(0, .ref (ad 0)), (1, .int a), (2, .ref (ad 424))] := hl
  refine lv_aload_n hx hb mD_La_open_0 rfl (lv_at hl 2 rfl) ?_
  refine lv_iconst (v := nI 0) hx hb mD_La_open_1 (by decide) ?_
  refine lv_aload_n hx hb mD_La_open_2 rfl (lv_at hl 0 rfl) ?_
  refine lv_iload_n hx hb mD_La_open_3 rfl (lv_at hl 1 rfl) ?_
  refine tx_call (As := [.int a]) (rest := [.int (nI 0), .ref (ad 424)]) hx hb hml hown htw hK (l_sub hP) hS 0 con (tZ_ok s0) (tZ_in hZ hS (l_gA hS.1)) (l_gA hS.1) (by decide) rfl rfl ww_567 ww_568 ww_569 ww_23 wC_TG_open mP_TG_open (by decide) rfl hl.1 rfl (Nat.le_of_ble_eq_true rfl) mD_La_open_4 ⟨Nat.le_of_ble_eq_true rfl, Nat.le_of_ble_eq_true rfl⟩ (fun q ce x1 H locs hp hQ _ hk hS hce hcv hcl => ?_)
  have hP := l_join hI hP hQ hk
  obtain ⟨x3, hx3⟩ : ∃ z_, z_ = ((x1, x.2) : lS) := ⟨_, rfl⟩
  rw [← hx3] at hP
  refine tx_catch (E := tX_S) (hh1 := [(0, 9, 12, 19)]) (t := (0, 9, 15, 13)) (hh2 := []) htab hown hce hcv hcl (List.forall_mem_cons.mpr ⟨⟨by decide, tX_N, htw _ ww_376, tO_D hC hZ 2 rfl⟩, (fun u hu => by cases hu)⟩) ⟨by decide, by decide⟩ (by decide) (htw _ ww_278) (tO_C hC hZ 1 rfl) ?_
  refine lv_astore_n (lv' := [(3, .ref q), (0, .ref (ad 0)), (1, .int a), (2, .ref (ad 424))]) hx hb mD_La_open_15 rfl hl (by decide) rfl (fun ls hl => ?_)
  refine lv_iconst (v := nI 2) hx hb mD_La_open_16 (by decide) ?_
  exact gw_iret hx hb hr hlocks hP hS (⟨rfl, (by rw [hx3]; exact hp), (by rw [hx3])⟩) mD_La_open_17 (Nat.le_of_ble_eq_true rfl) (Nat.le_of_ble_eq_true rfl)

set_option maxHeartbeats 4000000 in
theorem k_La_bound (l : Launch) (D : va_G) (ct : Nat → ClassId) (ad : Nat → Nat) (hI : gw_inj 425 ad) (x : lS) {s0 : State} (a : Int32) {post : Int32 → tS → Prop} (con : gMi l mY_TG_bound mB_TG_bound 2 (some .int) (rF 2 42) D (tT ct) gZ0 424 ad (tD ct ad) [.ref (ad 0), .int a] x.1 post) : gH l mY_La_bound mB_La_bound 4 [(0, 9, 12, 19)] (rF 3 63) D (tT ct) (tZ s0) 425 ad (lD ct ad) [.ref (ad 0), .int a, .ref (ad 424)] x (fun r x' => r = nI 0 ∧ ∃ v, post v x'.1 ∧ x'.2 = v.toInt64) := by
  refine gH_enter (by decide) (Nat.le_of_ble_eq_true rfl) ?_
  intro p e s m below meth c ls hx hb hr htw hown hlocks hml hl hP hK hZ hS htab
  have hA : ∀ k, k < 425 → gA 425 ad s.heap.size (ad k) := fun _ h => gA_in h
  have hl : lv_has ls 4 [(0, .ref (ad 0)), (1, .int a), (2, .ref (ad 424))] := hl
  refine lv_aload_n hx hb mD_La_bound_0 rfl (lv_at hl 2 rfl) ?_
  refine lv_iconst (v := nI 0) hx hb mD_La_bound_1 (by decide) ?_
  refine lv_aload_n hx hb mD_La_bound_2 rfl (lv_at hl 0 rfl) ?_
  refine lv_iload_n hx hb mD_La_bound_3 rfl (lv_at hl 1 rfl) ?_
  refine gc_Vi (As := [.int a]) (rest := [.int (nI 0), .ref (ad 424)]) hx hb hml hown htw hK (l_sub hP) hS 0 con gZ0_ok (fun _ _ _ => trivial) (l_gA hS.1) (by decide) rfl rfl ww_580 ww_581 ww_582 ww_23 wC_TG_bound mP_TG_bound (by decide) rfl hl.1 rfl (Nat.le_of_ble_eq_true rfl) mD_La_bound_4 ⟨Nat.le_of_ble_eq_true rfl, Nat.le_of_ble_eq_true rfl⟩ (fun r2 x1 H locs hp hQ _ hk hS => ?_)
  have hP := l_join hI hP hQ hk
  obtain ⟨x3, hx3⟩ : ∃ z_, z_ = ((x1, x.2) : lS) := ⟨_, rfl⟩
  rw [← hx3] at hP
  refine lv_i2l hx hb mD_La_bound_7 rfl ?_
  refine l_last hx hb hK hI hA hP hS mD_La_bound_8 (fun H locs hP hS => ?_)
  obtain ⟨x4, hx4⟩ : ∃ z_, z_ = ((x3.1, r2.toInt64) : lS) := ⟨_, rfl⟩
  rw [← hx4] at hP
  refine lv_goto (tgt := 15) hx hb mD_La_bound_9 rfl ?_
  refine lv_iconst (v := nI 0) hx hb mD_La_bound_15 (by decide) ?_
  exact gw_iret hx hb hr hlocks hP hS (⟨rfl, _, (by rw [hx4, hx3]; exact hp), (by rw [hx4])⟩) mD_La_bound_16 (Nat.le_of_ble_eq_true rfl) (Nat.le_of_ble_eq_true rfl)

set_option maxHeartbeats 4000000 in
theorem x1_La_bound (l : Launch) (D : va_G) (ct : Nat → ClassId) (ad : Nat → Nat) (hI : gw_inj 425 ad) (x : lS) {s0 : State} (a : Int32) {post : tS → Prop} (hC : tOC s0) (con : gX l mY_TG_bound mB_TG_bound 2 (some .int) (rX 7 103) D (tT ct) (tZ s0) 424 ad (tD ct ad) [.ref (ad 0), .int a] x.1 tX_N post) : gH l mY_La_bound mB_La_bound 4 [(0, 9, 12, 19)] (rX 8 124) D (tT ct) (tZ s0) 425 ad (lD ct ad) [.ref (ad 0), .int a, .ref (ad 424)] x (fun r x' => r = nI 1 ∧ post x'.1 ∧ x'.2 = x.2) := by
  refine gH_enter (by decide) (Nat.le_of_ble_eq_true rfl) ?_
  intro p e s m below meth c ls hx hb hr htw hown hlocks hml hl hP hK hZ hS htab
  have hA : ∀ k, k < 425 → gA 425 ad s.heap.size (ad k) := fun _ h => gA_in h
  have hl : lv_has ls 4 [(0, .ref (ad 0)), (1, .int a), (2, .ref (ad 424))] := hl
  refine lv_aload_n hx hb mD_La_bound_0 rfl (lv_at hl 2 rfl) ?_
  refine lv_iconst (v := nI 0) hx hb mD_La_bound_1 (by decide) ?_
  refine lv_aload_n hx hb mD_La_bound_2 rfl (lv_at hl 0 rfl) ?_
  refine lv_iload_n hx hb mD_La_bound_3 rfl (lv_at hl 1 rfl) ?_
  refine tx_call (As := [.int a]) (rest := [.int (nI 0), .ref (ad 424)]) hx hb hml hown htw hK (l_sub hP) hS 0 con (tZ_ok s0) (tZ_in hZ hS (l_gA hS.1)) (l_gA hS.1) (by decide) rfl rfl ww_580 ww_581 ww_582 ww_23 wC_TG_bound mP_TG_bound (by decide) rfl hl.1 rfl (Nat.le_of_ble_eq_true rfl) mD_La_bound_4 ⟨Nat.le_of_ble_eq_true rfl, Nat.le_of_ble_eq_true rfl⟩ (fun q ce x1 H locs hp hQ _ hk hS hce hcv hcl => ?_)
  have hP := l_join hI hP hQ hk
  obtain ⟨x3, hx3⟩ : ∃ z_, z_ = ((x1, x.2) : lS) := ⟨_, rfl⟩
  rw [← hx3] at hP
  refine tx_catch (E := tX_N) (hh1 := []) (t := (0, 9, 12, 19)) (hh2 := []) htab hown hce hcv hcl (fun u hu => by cases hu) ⟨by decide, by decide⟩ (by decide) (htw _ ww_376) (tO_C hC hZ 0 rfl) ?_
  refine lv_astore_n (lv' := [(3, .ref q), (0, .ref (ad 0)), (1, .int a), (2, .ref (ad 424))]) hx hb mD_La_bound_12 rfl hl (by decide) rfl (fun ls hl => ?_)
  refine lv_iconst (v := nI 1) hx hb mD_La_bound_13 (by decide) ?_
  exact gw_iret hx hb hr hlocks hP hS (⟨rfl, (by rw [hx3]; exact hp), (by rw [hx3])⟩) mD_La_bound_14 (Nat.le_of_ble_eq_true rfl) (Nat.le_of_ble_eq_true rfl)

set_option maxHeartbeats 4000000 in
theorem k_La_within (l : Launch) (D : va_G) (ct : Nat → ClassId) (ad : Nat → Nat) (hI : gw_inj 425 ad) (x : lS) {s0 : State} (a : Int32) {post : Int32 → tS → Prop} (con : gMi l mY_TG_within mB_TG_within 4 (some .boolean) (rF 2 42) D (tT ct) gZ0 424 ad (tD ct ad) [.ref (ad 0), .int a] x.1 post) : gH l mY_La_within mB_La_within 4 [(0, 16, 19, 19)] (rF 3 65) D (tT ct) (tZ s0) 425 ad (lD ct ad) [.ref (ad 0), .int a, .ref (ad 424)] x (fun r x' => r = nI 0 ∧ ∃ v, post v x'.1 ∧ x'.2 = (if v = 0 then lN 0 else lN 1)) := by
  refine gH_enter (by decide) (Nat.le_of_ble_eq_true rfl) ?_
  intro p e s m below meth c ls hx hb hr htw hown hlocks hml hl hP hK hZ hS htab
  have hA : ∀ k, k < 425 → gA 425 ad s.heap.size (ad k) := fun _ h => gA_in h
  have hl : lv_has ls 4 [(0, .ref (ad 0)), (1, .int a), (2, .ref (ad 424))] := hl
  refine lv_aload_n hx hb mD_La_within_0 rfl (lv_at hl 2 rfl) ?_
  refine lv_iconst (v := nI 0) hx hb mD_La_within_1 (by decide) ?_
  refine lv_aload_n hx hb mD_La_within_2 rfl (lv_at hl 0 rfl) ?_
  refine lv_iload_n hx hb mD_La_within_3 rfl (lv_at hl 1 rfl) ?_
  refine gc_Vi (As := [.int a]) (rest := [.int (nI 0), .ref (ad 424)]) hx hb hml hown htw hK (l_sub hP) hS 0 con gZ0_ok (fun _ _ _ => trivial) (l_gA hS.1) (by decide) rfl rfl ww_587 ww_588 ww_589 ww_23 wC_TG_within mP_TG_within (by decide) rfl hl.1 rfl (Nat.le_of_ble_eq_true rfl) mD_La_within_4 ⟨Nat.le_of_ble_eq_true rfl, Nat.le_of_ble_eq_true rfl⟩ (fun r2 x1 H locs hp hQ _ hk hS => ?_)
  have hP := l_join hI hP hQ hk
  obtain ⟨x3, hx3⟩ : ∃ z_, z_ = ((x1, x.2) : lS) := ⟨_, rfl⟩
  rw [← hx3] at hP
  refine lv_if_eq (tgt := 14) hx hb mD_La_within_7 rfl (fun h7 => ?_) (fun h7 => ?_)
  · skip
    refine lv_lconst (v := lN 0) hx hb mD_La_within_14 (by decide) ?_
    refine l_last hx hb hK hI hA hP hS mD_La_within_15 (fun H locs hP hS => ?_)
    obtain ⟨x4, hx4⟩ : ∃ z_, z_ = ((x3.1, lN 0) : lS) := ⟨_, rfl⟩
    rw [← hx4] at hP
    refine lv_goto (tgt := 22) hx hb mD_La_within_16 rfl ?_
    refine lv_iconst (v := nI 0) hx hb mD_La_within_22 (by decide) ?_
    exact gw_iret hx hb hr hlocks hP hS (⟨rfl, _, (by rw [hx4, hx3]; exact hp), (by rw [hx4]; first | exact (if_pos h7).symm | exact (if_neg h7).symm)⟩) mD_La_within_23 (Nat.le_of_ble_eq_true rfl) (Nat.le_of_ble_eq_true rfl)
  · skip
    refine lv_lconst (v := lN 1) hx hb mD_La_within_10 (by decide) ?_
    refine lv_goto (tgt := 15) hx hb mD_La_within_11 rfl ?_
    refine l_last hx hb hK hI hA hP hS mD_La_within_15 (fun H locs hP hS => ?_)
    obtain ⟨x5, hx5⟩ : ∃ z_, z_ = ((x3.1, lN 1) : lS) := ⟨_, rfl⟩
    rw [← hx5] at hP
    refine lv_goto (tgt := 22) hx hb mD_La_within_16 rfl ?_
    refine lv_iconst (v := nI 0) hx hb mD_La_within_22 (by decide) ?_
    exact gw_iret hx hb hr hlocks hP hS (⟨rfl, _, (by rw [hx5, hx3]; exact hp), (by rw [hx5]; first | exact (if_pos h7).symm | exact (if_neg h7).symm)⟩) mD_La_within_23 (Nat.le_of_ble_eq_true rfl) (Nat.le_of_ble_eq_true rfl)

set_option maxHeartbeats 4000000 in
theorem x1_La_within (l : Launch) (D : va_G) (ct : Nat → ClassId) (ad : Nat → Nat) (hI : gw_inj 425 ad) (x : lS) {s0 : State} (a : Int32) {post : tS → Prop} (hC : tOC s0) (con : gX l mY_TG_within mB_TG_within 4 (some .boolean) (rX 7 103) D (tT ct) (tZ s0) 424 ad (tD ct ad) [.ref (ad 0), .int a] x.1 tX_N post) : gH l mY_La_within mB_La_within 4 [(0, 16, 19, 19)] (rX 8 126) D (tT ct) (tZ s0) 425 ad (lD ct ad) [.ref (ad 0), .int a, .ref (ad 424)] x (fun r x' => r = nI 1 ∧ post x'.1 ∧ x'.2 = x.2) := by
  refine gH_enter (by decide) (Nat.le_of_ble_eq_true rfl) ?_
  intro p e s m below meth c ls hx hb hr htw hown hlocks hml hl hP hK hZ hS htab
  have hA : ∀ k, k < 425 → gA 425 ad s.heap.size (ad k) := fun _ h => gA_in h
  have hl : lv_has ls 4 [(0, .ref (ad 0)), (1, .int a), (2, .ref (ad 424))] := hl
  refine lv_aload_n hx hb mD_La_within_0 rfl (lv_at hl 2 rfl) ?_
  refine lv_iconst (v := nI 0) hx hb mD_La_within_1 (by decide) ?_
  refine lv_aload_n hx hb mD_La_within_2 rfl (lv_at hl 0 rfl) ?_
  refine lv_iload_n hx hb mD_La_within_3 rfl (lv_at hl 1 rfl) ?_
  refine tx_call (As := [.int a]) (rest := [.int (nI 0), .ref (ad 424)]) hx hb hml hown htw hK (l_sub hP) hS 0 con (tZ_ok s0) (tZ_in hZ hS (l_gA hS.1)) (l_gA hS.1) (by decide) rfl rfl ww_587 ww_588 ww_589 ww_23 wC_TG_within mP_TG_within (by decide) rfl hl.1 rfl (Nat.le_of_ble_eq_true rfl) mD_La_within_4 ⟨Nat.le_of_ble_eq_true rfl, Nat.le_of_ble_eq_true rfl⟩ (fun q ce x1 H locs hp hQ _ hk hS hce hcv hcl => ?_)
  have hP := l_join hI hP hQ hk
  obtain ⟨x3, hx3⟩ : ∃ z_, z_ = ((x1, x.2) : lS) := ⟨_, rfl⟩
  rw [← hx3] at hP
  refine tx_catch (E := tX_N) (hh1 := []) (t := (0, 16, 19, 19)) (hh2 := []) htab hown hce hcv hcl (fun u hu => by cases hu) ⟨by decide, by decide⟩ (by decide) (htw _ ww_376) (tO_C hC hZ 0 rfl) ?_
  refine lv_astore_n (lv' := [(3, .ref q), (0, .ref (ad 0)), (1, .int a), (2, .ref (ad 424))]) hx hb mD_La_within_19 rfl hl (by decide) rfl (fun ls hl => ?_)
  refine lv_iconst (v := nI 1) hx hb mD_La_within_20 (by decide) ?_
  exact gw_iret hx hb hr hlocks hP hS (⟨rfl, (by rw [hx3]; exact hp), (by rw [hx3])⟩) mD_La_within_21 (Nat.le_of_ble_eq_true rfl) (Nat.le_of_ble_eq_true rfl)

set_option maxHeartbeats 4000000 in
theorem k_La_line (l : Launch) (D : va_G) (ct : Nat → ClassId) (ad : Nat → Nat) (hI : gw_inj 425 ad) (x : lS) {s0 : State} (a b c_ : Int32) {post : Int32 → tS → Prop} (con : gMi l mY_TG_line mB_TG_line 4 (some .int) (rF 1 23) D (tT ct) gZ0 424 ad (tD ct ad) [.ref (ad 0), .int a, .int b, .int c_] x.1 post) : gH l mY_La_line mB_La_line 6 [(0, 12, 15, 19), (0, 12, 19, 13)] (rF 2 46) D (tT ct) (tZ s0) 425 ad (lD ct ad) [.ref (ad 0), .int a, .int b, .int c_, .ref (ad 424)] x (fun r x' => r = nI 0 ∧ ∃ v, post v x'.1 ∧ x'.2 = v.toInt64) := by
  refine gH_enter (by decide) (Nat.le_of_ble_eq_true rfl) ?_
  intro p e s m below meth c ls hx hb hr htw hown hlocks hml hl hP hK hZ hS htab
  have hA : ∀ k, k < 425 → gA 425 ad s.heap.size (ad k) := fun _ h => gA_in h
  have hl : lv_has ls 6 [(0, .ref (ad 0)), (1, .int a), (2, .int b), (3, .int c_), (4, .ref (ad 424))] := hl
  refine lv_aload hx hb mD_La_line_0 (lv_at hl 4 rfl) ?_
  refine lv_iconst (v := nI 0) hx hb mD_La_line_2 (by decide) ?_
  refine lv_aload_n hx hb mD_La_line_3 rfl (lv_at hl 0 rfl) ?_
  refine lv_iload_n hx hb mD_La_line_4 rfl (lv_at hl 1 rfl) ?_
  refine lv_iload_n hx hb mD_La_line_5 rfl (lv_at hl 2 rfl) ?_
  refine lv_iload_n hx hb mD_La_line_6 rfl (lv_at hl 3 rfl) ?_
  refine gc_Vi (As := [.int a, .int b, .int c_]) (rest := [.int (nI 0), .ref (ad 424)]) hx hb hml hown htw hK (l_sub hP) hS 0 con gZ0_ok (fun _ _ _ => trivial) (l_gA hS.1) (by decide) rfl rfl ww_594 ww_595 ww_596 ww_23 wC_TG_line mP_TG_line (by decide) rfl hl.1 rfl (Nat.le_of_ble_eq_true rfl) mD_La_line_7 ⟨Nat.le_of_ble_eq_true rfl, Nat.le_of_ble_eq_true rfl⟩ (fun r2 x1 H locs hp hQ _ hk hS => ?_)
  have hP := l_join hI hP hQ hk
  obtain ⟨x3, hx3⟩ : ∃ z_, z_ = ((x1, x.2) : lS) := ⟨_, rfl⟩
  rw [← hx3] at hP
  refine lv_i2l hx hb mD_La_line_10 rfl ?_
  refine l_last hx hb hK hI hA hP hS mD_La_line_11 (fun H locs hP hS => ?_)
  obtain ⟨x4, hx4⟩ : ∃ z_, z_ = ((x3.1, r2.toInt64) : lS) := ⟨_, rfl⟩
  rw [← hx4] at hP
  refine lv_goto (tgt := 23) hx hb mD_La_line_12 rfl ?_
  refine lv_iconst (v := nI 0) hx hb mD_La_line_23 (by decide) ?_
  exact gw_iret hx hb hr hlocks hP hS (⟨rfl, _, (by rw [hx4, hx3]; exact hp), (by rw [hx4])⟩) mD_La_line_24 (Nat.le_of_ble_eq_true rfl) (Nat.le_of_ble_eq_true rfl)

set_option maxHeartbeats 4000000 in
theorem x1_La_line (l : Launch) (D : va_G) (ct : Nat → ClassId) (ad : Nat → Nat) (hI : gw_inj 425 ad) (x : lS) {s0 : State} (a b c_ : Int32) {post : tS → Prop} (hC : tOC s0) (con : gX l mY_TG_line mB_TG_line 4 (some .int) (rX 7 103) D (tT ct) (tZ s0) 424 ad (tD ct ad) [.ref (ad 0), .int a, .int b, .int c_] x.1 tX_N post) : gH l mY_La_line mB_La_line 6 [(0, 12, 15, 19), (0, 12, 19, 13)] (rX 8 126) D (tT ct) (tZ s0) 425 ad (lD ct ad) [.ref (ad 0), .int a, .int b, .int c_, .ref (ad 424)] x (fun r x' => r = nI 1 ∧ post x'.1 ∧ x'.2 = x.2) := by
  refine gH_enter (by decide) (Nat.le_of_ble_eq_true rfl) ?_
  intro p e s m below meth c ls hx hb hr htw hown hlocks hml hl hP hK hZ hS htab
  have hA : ∀ k, k < 425 → gA 425 ad s.heap.size (ad k) := fun _ h => gA_in h
  have hl : lv_has ls 6 [(0, .ref (ad 0)), (1, .int a), (2, .int b), (3, .int c_), (4, .ref (ad 424))] := hl
  refine lv_aload hx hb mD_La_line_0 (lv_at hl 4 rfl) ?_
  refine lv_iconst (v := nI 0) hx hb mD_La_line_2 (by decide) ?_
  refine lv_aload_n hx hb mD_La_line_3 rfl (lv_at hl 0 rfl) ?_
  refine lv_iload_n hx hb mD_La_line_4 rfl (lv_at hl 1 rfl) ?_
  refine lv_iload_n hx hb mD_La_line_5 rfl (lv_at hl 2 rfl) ?_
  refine lv_iload_n hx hb mD_La_line_6 rfl (lv_at hl 3 rfl) ?_
  refine tx_call (As := [.int a, .int b, .int c_]) (rest := [.int (nI 0), .ref (ad 424)]) hx hb hml hown htw hK (l_sub hP) hS 0 con (tZ_ok s0) (tZ_in hZ hS (l_gA hS.1)) (l_gA hS.1) (by decide) rfl rfl ww_594 ww_595 ww_596 ww_23 wC_TG_line mP_TG_line (by decide) rfl hl.1 rfl (Nat.le_of_ble_eq_true rfl) mD_La_line_7 ⟨Nat.le_of_ble_eq_true rfl, Nat.le_of_ble_eq_true rfl⟩ (fun q ce x1 H locs hp hQ _ hk hS hce hcv hcl => ?_)
  have hP := l_join hI hP hQ hk
  obtain ⟨x3, hx3⟩ : ∃ z_, z_ = ((x1, x.2) : lS) := ⟨_, rfl⟩
  rw [← hx3] at hP
  refine tx_catch (E := tX_N) (hh1 := []) (t := (0, 12, 15, 19)) (hh2 := [(0, 12, 19, 13)]) htab hown hce hcv hcl (fun u hu => by cases hu) ⟨by decide, by decide⟩ (by decide) (htw _ ww_376) (tO_C hC hZ 0 rfl) ?_
  refine lv_astore (lv' := [(5, .ref q), (0, .ref (ad 0)), (1, .int a), (2, .int b), (3, .int c_), (4, .ref (ad 424))]) hx hb mD_La_line_15 hl (by decide) rfl (fun ls hl => ?_)
  refine lv_iconst (v := nI 1) hx hb mD_La_line_17 (by decide) ?_
  exact gw_iret hx hb hr hlocks hP hS (⟨rfl, (by rw [hx3]; exact hp), (by rw [hx3])⟩) mD_La_line_18 (Nat.le_of_ble_eq_true rfl) (Nat.le_of_ble_eq_true rfl)

set_option maxHeartbeats 4000000 in
theorem x2_La_line (l : Launch) (D : va_G) (ct : Nat → ClassId) (ad : Nat → Nat) (hI : gw_inj 425 ad) (x : lS) {s0 : State} (a b c_ : Int32) {post : tS → Prop} (hC : tOC s0) (con : gX l mY_TG_line mB_TG_line 4 (some .int) (rX 7 103) D (tT ct) (tZ s0) 424 ad (tD ct ad) [.ref (ad 0), .int a, .int b, .int c_] x.1 tX_S post) : gH l mY_La_line mB_La_line 6 [(0, 12, 15, 19), (0, 12, 19, 13)] (rX 8 126) D (tT ct) (tZ s0) 425 ad (lD ct ad) [.ref (ad 0), .int a, .int b, .int c_, .ref (ad 424)] x (fun r x' => r = nI 2 ∧ post x'.1 ∧ x'.2 = x.2) := by
  refine gH_enter (by decide) (Nat.le_of_ble_eq_true rfl) ?_
  intro p e s m below meth c ls hx hb hr htw hown hlocks hml hl hP hK hZ hS htab
  have hA : ∀ k, k < 425 → gA 425 ad s.heap.size (ad k) := fun _ h => gA_in h
  have hl : lv_has ls 6 [(0, .ref (ad 0)), (1, .int a), (2, .int b), (3, .int c_), (4, .ref (ad 424))] := hl
  refine lv_aload hx hb mD_La_line_0 (lv_at hl 4 rfl) ?_
  refine lv_iconst (v := nI 0) hx hb mD_La_line_2 (by decide) ?_
  refine lv_aload_n hx hb mD_La_line_3 rfl (lv_at hl 0 rfl) ?_
  refine lv_iload_n hx hb mD_La_line_4 rfl (lv_at hl 1 rfl) ?_
  refine lv_iload_n hx hb mD_La_line_5 rfl (lv_at hl 2 rfl) ?_
  refine lv_iload_n hx hb mD_La_line_6 rfl (lv_at hl 3 rfl) ?_
  refine tx_call (As := [.int a, .int b, .int c_]) (rest := [.int (nI 0), .ref (ad 424)]) hx hb hml hown htw hK (l_sub hP) hS 0 con (tZ_ok s0) (tZ_in hZ hS (l_gA hS.1)) (l_gA hS.1) (by decide) rfl rfl ww_594 ww_595 ww_596 ww_23 wC_TG_line mP_TG_line (by decide) rfl hl.1 rfl (Nat.le_of_ble_eq_true rfl) mD_La_line_7 ⟨Nat.le_of_ble_eq_true rfl, Nat.le_of_ble_eq_true rfl⟩ (fun q ce x1 H locs hp hQ _ hk hS hce hcv hcl => ?_)
  have hP := l_join hI hP hQ hk
  obtain ⟨x3, hx3⟩ : ∃ z_, z_ = ((x1, x.2) : lS) := ⟨_, rfl⟩
  rw [← hx3] at hP
  refine tx_catch (E := tX_S) (hh1 := [(0, 12, 15, 19)]) (t := (0, 12, 19, 13)) (hh2 := []) htab hown hce hcv hcl (List.forall_mem_cons.mpr ⟨⟨by decide, tX_N, htw _ ww_376, tO_D hC hZ 2 rfl⟩, (fun u hu => by cases hu)⟩) ⟨by decide, by decide⟩ (by decide) (htw _ ww_278) (tO_C hC hZ 1 rfl) ?_
  refine lv_astore (lv' := [(5, .ref q), (0, .ref (ad 0)), (1, .int a), (2, .int b), (3, .int c_), (4, .ref (ad 424))]) hx hb mD_La_line_19 hl (by decide) rfl (fun ls hl => ?_)
  refine lv_iconst (v := nI 2) hx hb mD_La_line_21 (by decide) ?_
  exact gw_iret hx hb hr hlocks hP hS (⟨rfl, (by rw [hx3]; exact hp), (by rw [hx3])⟩) mD_La_line_22 (Nat.le_of_ble_eq_true rfl) (Nat.le_of_ble_eq_true rfl)

set_option maxHeartbeats 4000000 in
theorem k_La_play (l : Launch) (D : va_G) (ct : Nat → ClassId) (ad : Nat → Nat) (hI : gw_inj 425 ad) (x : lS) {s0 : State} (a b : Int32) {post : Int32 → tS → Prop} (con : gMi l mY_TG_play mB_TG_play 5 (some .int) (rF 6 151) D (tT ct) (tZ s0) 424 ad (tD ct ad) [.ref (ad 0), .int a, .int b] x.1 post) : gH l mY_La_play mB_La_play 5 [(0, 10, 13, 19), (0, 10, 17, 28), (0, 10, 21, 13)] (rF 7 175) D (tT ct) (tZ s0) 425 ad (lD ct ad) [.ref (ad 0), .int a, .int b, .ref (ad 424)] x (fun r x' => r = nI 0 ∧ ∃ v, post v x'.1 ∧ x'.2 = v.toInt64) := by
  refine gH_enter (by decide) (Nat.le_of_ble_eq_true rfl) ?_
  intro p e s m below meth c ls hx hb hr htw hown hlocks hml hl hP hK hZ hS htab
  have hA : ∀ k, k < 425 → gA 425 ad s.heap.size (ad k) := fun _ h => gA_in h
  have hl : lv_has ls 5 [(0, .ref (ad 0)), (1, .int a), (2, .int b), (3, .ref (ad 424))] := hl
  refine lv_aload_n hx hb mD_La_play_0 rfl (lv_at hl 3 rfl) ?_
  refine lv_iconst (v := nI 0) hx hb mD_La_play_1 (by decide) ?_
  refine lv_aload_n hx hb mD_La_play_2 rfl (lv_at hl 0 rfl) ?_
  refine lv_iload_n hx hb mD_La_play_3 rfl (lv_at hl 1 rfl) ?_
  refine lv_iload_n hx hb mD_La_play_4 rfl (lv_at hl 2 rfl) ?_
  refine gc_Vi (As := [.int a, .int b]) (rest := [.int (nI 0), .ref (ad 424)]) hx hb hml hown htw hK (l_sub hP) hS 0 con (tZ_ok s0) (tZ_in hZ hS (l_gA hS.1)) (l_gA hS.1) (by decide) rfl rfl ww_611 ww_612 ww_613 ww_23 wC_TG_play mP_TG_play (by decide) rfl hl.1 rfl (Nat.le_of_ble_eq_true rfl) mD_La_play_5 ⟨Nat.le_of_ble_eq_true rfl, Nat.le_of_ble_eq_true rfl⟩ (fun r2 x1 H locs hp hQ _ hk hS => ?_)
  have hP := l_join hI hP hQ hk
  obtain ⟨x3, hx3⟩ : ∃ z_, z_ = ((x1, x.2) : lS) := ⟨_, rfl⟩
  rw [← hx3] at hP
  refine lv_i2l hx hb mD_La_play_8 rfl ?_
  refine l_last hx hb hK hI hA hP hS mD_La_play_9 (fun H locs hP hS => ?_)
  obtain ⟨x4, hx4⟩ : ∃ z_, z_ = ((x3.1, r2.toInt64) : lS) := ⟨_, rfl⟩
  rw [← hx4] at hP
  refine lv_goto (tgt := 25) hx hb mD_La_play_10 rfl ?_
  refine lv_iconst (v := nI 0) hx hb mD_La_play_25 (by decide) ?_
  exact gw_iret hx hb hr hlocks hP hS (⟨rfl, _, (by rw [hx4, hx3]; exact hp), (by rw [hx4])⟩) mD_La_play_26 (Nat.le_of_ble_eq_true rfl) (Nat.le_of_ble_eq_true rfl)

set_option maxHeartbeats 4000000 in
theorem x1_La_play (l : Launch) (D : va_G) (ct : Nat → ClassId) (ad : Nat → Nat) (hI : gw_inj 425 ad) (x : lS) {s0 : State} (a b : Int32) {post : tS → Prop} (hC : tOC s0) (con : gX l mY_TG_play mB_TG_play 5 (some .int) (rX 7 151) D (tT ct) (tZ s0) 424 ad (tD ct ad) [.ref (ad 0), .int a, .int b] x.1 tX_N post) : gH l mY_La_play mB_La_play 5 [(0, 10, 13, 19), (0, 10, 17, 28), (0, 10, 21, 13)] (rX 8 175) D (tT ct) (tZ s0) 425 ad (lD ct ad) [.ref (ad 0), .int a, .int b, .ref (ad 424)] x (fun r x' => r = nI 1 ∧ post x'.1 ∧ x'.2 = x.2) := by
  refine gH_enter (by decide) (Nat.le_of_ble_eq_true rfl) ?_
  intro p e s m below meth c ls hx hb hr htw hown hlocks hml hl hP hK hZ hS htab
  have hA : ∀ k, k < 425 → gA 425 ad s.heap.size (ad k) := fun _ h => gA_in h
  have hl : lv_has ls 5 [(0, .ref (ad 0)), (1, .int a), (2, .int b), (3, .ref (ad 424))] := hl
  refine lv_aload_n hx hb mD_La_play_0 rfl (lv_at hl 3 rfl) ?_
  refine lv_iconst (v := nI 0) hx hb mD_La_play_1 (by decide) ?_
  refine lv_aload_n hx hb mD_La_play_2 rfl (lv_at hl 0 rfl) ?_
  refine lv_iload_n hx hb mD_La_play_3 rfl (lv_at hl 1 rfl) ?_
  refine lv_iload_n hx hb mD_La_play_4 rfl (lv_at hl 2 rfl) ?_
  refine tx_call (As := [.int a, .int b]) (rest := [.int (nI 0), .ref (ad 424)]) hx hb hml hown htw hK (l_sub hP) hS 0 con (tZ_ok s0) (tZ_in hZ hS (l_gA hS.1)) (l_gA hS.1) (by decide) rfl rfl ww_611 ww_612 ww_613 ww_23 wC_TG_play mP_TG_play (by decide) rfl hl.1 rfl (Nat.le_of_ble_eq_true rfl) mD_La_play_5 ⟨Nat.le_of_ble_eq_true rfl, Nat.le_of_ble_eq_true rfl⟩ (fun q ce x1 H locs hp hQ _ hk hS hce hcv hcl => ?_)
  have hP := l_join hI hP hQ hk
  obtain ⟨x3, hx3⟩ : ∃ z_, z_ = ((x1, x.2) : lS) := ⟨_, rfl⟩
  rw [← hx3] at hP
  refine tx_catch (E := tX_N) (hh1 := []) (t := (0, 10, 13, 19)) (hh2 := [(0, 10, 17, 28), (0, 10, 21, 13)]) htab hown hce hcv hcl (fun u hu => by cases hu) ⟨by decide, by decide⟩ (by decide) (htw _ ww_376) (tO_C hC hZ 0 rfl) ?_
  refine lv_astore (lv' := [(4, .ref q), (0, .ref (ad 0)), (1, .int a), (2, .int b), (3, .ref (ad 424))]) hx hb mD_La_play_13 hl (by decide) rfl (fun ls hl => ?_)
  refine lv_iconst (v := nI 1) hx hb mD_La_play_15 (by decide) ?_
  exact gw_iret hx hb hr hlocks hP hS (⟨rfl, (by rw [hx3]; exact hp), (by rw [hx3])⟩) mD_La_play_16 (Nat.le_of_ble_eq_true rfl) (Nat.le_of_ble_eq_true rfl)

set_option maxHeartbeats 4000000 in
theorem x2_La_play (l : Launch) (D : va_G) (ct : Nat → ClassId) (ad : Nat → Nat) (hI : gw_inj 425 ad) (x : lS) {s0 : State} (a b : Int32) {post : tS → Prop} (hC : tOC s0) (con : gX l mY_TG_play mB_TG_play 5 (some .int) (rX 7 151) D (tT ct) (tZ s0) 424 ad (tD ct ad) [.ref (ad 0), .int a, .int b] x.1 tX_A post) : gH l mY_La_play mB_La_play 5 [(0, 10, 13, 19), (0, 10, 17, 28), (0, 10, 21, 13)] (rX 8 175) D (tT ct) (tZ s0) 425 ad (lD ct ad) [.ref (ad 0), .int a, .int b, .ref (ad 424)] x (fun r x' => r = nI 2 ∧ post x'.1 ∧ x'.2 = x.2) := by
  refine gH_enter (by decide) (Nat.le_of_ble_eq_true rfl) ?_
  intro p e s m below meth c ls hx hb hr htw hown hlocks hml hl hP hK hZ hS htab
  have hA : ∀ k, k < 425 → gA 425 ad s.heap.size (ad k) := fun _ h => gA_in h
  have hl : lv_has ls 5 [(0, .ref (ad 0)), (1, .int a), (2, .int b), (3, .ref (ad 424))] := hl
  refine lv_aload_n hx hb mD_La_play_0 rfl (lv_at hl 3 rfl) ?_
  refine lv_iconst (v := nI 0) hx hb mD_La_play_1 (by decide) ?_
  refine lv_aload_n hx hb mD_La_play_2 rfl (lv_at hl 0 rfl) ?_
  refine lv_iload_n hx hb mD_La_play_3 rfl (lv_at hl 1 rfl) ?_
  refine lv_iload_n hx hb mD_La_play_4 rfl (lv_at hl 2 rfl) ?_
  refine tx_call (As := [.int a, .int b]) (rest := [.int (nI 0), .ref (ad 424)]) hx hb hml hown htw hK (l_sub hP) hS 0 con (tZ_ok s0) (tZ_in hZ hS (l_gA hS.1)) (l_gA hS.1) (by decide) rfl rfl ww_611 ww_612 ww_613 ww_23 wC_TG_play mP_TG_play (by decide) rfl hl.1 rfl (Nat.le_of_ble_eq_true rfl) mD_La_play_5 ⟨Nat.le_of_ble_eq_true rfl, Nat.le_of_ble_eq_true rfl⟩ (fun q ce x1 H locs hp hQ _ hk hS hce hcv hcl => ?_)
  have hP := l_join hI hP hQ hk
  obtain ⟨x3, hx3⟩ : ∃ z_, z_ = ((x1, x.2) : lS) := ⟨_, rfl⟩
  rw [← hx3] at hP
  refine tx_catch (E := tX_A) (hh1 := [(0, 10, 13, 19)]) (t := (0, 10, 17, 28)) (hh2 := [(0, 10, 21, 13)]) htab hown hce hcv hcl (List.forall_mem_cons.mpr ⟨⟨by decide, tX_N, htw _ ww_376, tO_D hC hZ 4 rfl⟩, (fun u hu => by cases hu)⟩) ⟨by decide, by decide⟩ (by decide) (htw _ ww_434) (tO_C hC hZ 2 rfl) ?_
  refine lv_astore (lv' := [(4, .ref q), (0, .ref (ad 0)), (1, .int a), (2, .int b), (3, .ref (ad 424))]) hx hb mD_La_play_17 hl (by decide) rfl (fun ls hl => ?_)
  refine lv_iconst (v := nI 2) hx hb mD_La_play_19 (by decide) ?_
  exact gw_iret hx hb hr hlocks hP hS (⟨rfl, (by rw [hx3]; exact hp), (by rw [hx3])⟩) mD_La_play_20 (Nat.le_of_ble_eq_true rfl) (Nat.le_of_ble_eq_true rfl)

set_option maxHeartbeats 4000000 in
theorem x3_La_play (l : Launch) (D : va_G) (ct : Nat → ClassId) (ad : Nat → Nat) (hI : gw_inj 425 ad) (x : lS) {s0 : State} (a b : Int32) {post : tS → Prop} (hC : tOC s0) (con : gX l mY_TG_play mB_TG_play 5 (some .int) (rX 7 151) D (tT ct) (tZ s0) 424 ad (tD ct ad) [.ref (ad 0), .int a, .int b] x.1 tX_S post) : gH l mY_La_play mB_La_play 5 [(0, 10, 13, 19), (0, 10, 17, 28), (0, 10, 21, 13)] (rX 8 175) D (tT ct) (tZ s0) 425 ad (lD ct ad) [.ref (ad 0), .int a, .int b, .ref (ad 424)] x (fun r x' => r = nI 3 ∧ post x'.1 ∧ x'.2 = x.2) := by
  refine gH_enter (by decide) (Nat.le_of_ble_eq_true rfl) ?_
  intro p e s m below meth c ls hx hb hr htw hown hlocks hml hl hP hK hZ hS htab
  have hA : ∀ k, k < 425 → gA 425 ad s.heap.size (ad k) := fun _ h => gA_in h
  have hl : lv_has ls 5 [(0, .ref (ad 0)), (1, .int a), (2, .int b), (3, .ref (ad 424))] := hl
  refine lv_aload_n hx hb mD_La_play_0 rfl (lv_at hl 3 rfl) ?_
  refine lv_iconst (v := nI 0) hx hb mD_La_play_1 (by decide) ?_
  refine lv_aload_n hx hb mD_La_play_2 rfl (lv_at hl 0 rfl) ?_
  refine lv_iload_n hx hb mD_La_play_3 rfl (lv_at hl 1 rfl) ?_
  refine lv_iload_n hx hb mD_La_play_4 rfl (lv_at hl 2 rfl) ?_
  refine tx_call (As := [.int a, .int b]) (rest := [.int (nI 0), .ref (ad 424)]) hx hb hml hown htw hK (l_sub hP) hS 0 con (tZ_ok s0) (tZ_in hZ hS (l_gA hS.1)) (l_gA hS.1) (by decide) rfl rfl ww_611 ww_612 ww_613 ww_23 wC_TG_play mP_TG_play (by decide) rfl hl.1 rfl (Nat.le_of_ble_eq_true rfl) mD_La_play_5 ⟨Nat.le_of_ble_eq_true rfl, Nat.le_of_ble_eq_true rfl⟩ (fun q ce x1 H locs hp hQ _ hk hS hce hcv hcl => ?_)
  have hP := l_join hI hP hQ hk
  obtain ⟨x3, hx3⟩ : ∃ z_, z_ = ((x1, x.2) : lS) := ⟨_, rfl⟩
  rw [← hx3] at hP
  refine tx_catch (E := tX_S) (hh1 := [(0, 10, 13, 19), (0, 10, 17, 28)]) (t := (0, 10, 21, 13)) (hh2 := []) htab hown hce hcv hcl (List.forall_mem_cons.mpr ⟨⟨by decide, tX_N, htw _ ww_376, tO_D hC hZ 2 rfl⟩, (List.forall_mem_cons.mpr ⟨⟨by decide, tX_A, htw _ ww_434, tO_D hC hZ 3 rfl⟩, (fun u hu => by cases hu)⟩)⟩) ⟨by decide, by decide⟩ (by decide) (htw _ ww_278) (tO_C hC hZ 1 rfl) ?_
  refine lv_astore (lv' := [(4, .ref q), (0, .ref (ad 0)), (1, .int a), (2, .int b), (3, .ref (ad 424))]) hx hb mD_La_play_21 hl (by decide) rfl (fun ls hl => ?_)
  refine lv_iconst (v := nI 3) hx hb mD_La_play_23 (by decide) ?_
  exact gw_iret hx hb hr hlocks hP hS (⟨rfl, (by rw [hx3]; exact hp), (by rw [hx3])⟩) mD_La_play_24 (Nat.le_of_ble_eq_true rfl) (Nat.le_of_ble_eq_true rfl)

set_option maxHeartbeats 4000000 in
theorem k_La_count (l : Launch) (D : va_G) (ct : Nat → ClassId) (ad : Nat → Nat) (hI : gw_inj 425 ad) (x : lS) {s0 : State} (a : Int32) {post : Int32 → tS → Prop} (con : gMi l mY_TG_count mB_TG_count 2 (some .int) (rF 1 22) D (tT ct) gZ0 424 ad (tD ct ad) [.ref (ad 0), .int a] x.1 post) : gH l mY_La_count mB_La_count 4 [(0, 9, 12, 28)] (rF 2 43) D (tT ct) (tZ s0) 425 ad (lD ct ad) [.ref (ad 0), .int a, .ref (ad 424)] x (fun r x' => r = nI 0 ∧ ∃ v, post v x'.1 ∧ x'.2 = v.toInt64) := by
  refine gH_enter (by decide) (Nat.le_of_ble_eq_true rfl) ?_
  intro p e s m below meth c ls hx hb hr htw hown hlocks hml hl hP hK hZ hS htab
  have hA : ∀ k, k < 425 → gA 425 ad s.heap.size (ad k) := fun _ h => gA_in h
  have hl : lv_has ls 4 [(0, .ref (ad 0)), (1, .int a), (2, .ref (ad 424))] := hl
  refine lv_aload_n hx hb mD_La_count_0 rfl (lv_at hl 2 rfl) ?_
  refine lv_iconst (v := nI 0) hx hb mD_La_count_1 (by decide) ?_
  refine lv_aload_n hx hb mD_La_count_2 rfl (lv_at hl 0 rfl) ?_
  refine lv_iload_n hx hb mD_La_count_3 rfl (lv_at hl 1 rfl) ?_
  refine gc_Vi (As := [.int a]) (rest := [.int (nI 0), .ref (ad 424)]) hx hb hml hown htw hK (l_sub hP) hS 0 con gZ0_ok (fun _ _ _ => trivial) (l_gA hS.1) (by decide) rfl rfl ww_625 ww_626 ww_627 ww_23 wC_TG_count mP_TG_count (by decide) rfl hl.1 rfl (Nat.le_of_ble_eq_true rfl) mD_La_count_4 ⟨Nat.le_of_ble_eq_true rfl, Nat.le_of_ble_eq_true rfl⟩ (fun r2 x1 H locs hp hQ _ hk hS => ?_)
  have hP := l_join hI hP hQ hk
  obtain ⟨x3, hx3⟩ : ∃ z_, z_ = ((x1, x.2) : lS) := ⟨_, rfl⟩
  rw [← hx3] at hP
  refine lv_i2l hx hb mD_La_count_7 rfl ?_
  refine l_last hx hb hK hI hA hP hS mD_La_count_8 (fun H locs hP hS => ?_)
  obtain ⟨x4, hx4⟩ : ∃ z_, z_ = ((x3.1, r2.toInt64) : lS) := ⟨_, rfl⟩
  rw [← hx4] at hP
  refine lv_goto (tgt := 15) hx hb mD_La_count_9 rfl ?_
  refine lv_iconst (v := nI 0) hx hb mD_La_count_15 (by decide) ?_
  exact gw_iret hx hb hr hlocks hP hS (⟨rfl, _, (by rw [hx4, hx3]; exact hp), (by rw [hx4])⟩) mD_La_count_16 (Nat.le_of_ble_eq_true rfl) (Nat.le_of_ble_eq_true rfl)

set_option maxHeartbeats 4000000 in
theorem x1_La_count (l : Launch) (D : va_G) (ct : Nat → ClassId) (ad : Nat → Nat) (hI : gw_inj 425 ad) (x : lS) {s0 : State} (a : Int32) {post : tS → Prop} (hC : tOC s0) (con : gX l mY_TG_count mB_TG_count 2 (some .int) (rX 6 82) D (tT ct) (tZ s0) 424 ad (tD ct ad) [.ref (ad 0), .int a] x.1 tX_A post) : gH l mY_La_count mB_La_count 4 [(0, 9, 12, 28)] (rX 7 103) D (tT ct) (tZ s0) 425 ad (lD ct ad) [.ref (ad 0), .int a, .ref (ad 424)] x (fun r x' => r = nI 1 ∧ post x'.1 ∧ x'.2 = x.2) := by
  refine gH_enter (by decide) (Nat.le_of_ble_eq_true rfl) ?_
  intro p e s m below meth c ls hx hb hr htw hown hlocks hml hl hP hK hZ hS htab
  have hA : ∀ k, k < 425 → gA 425 ad s.heap.size (ad k) := fun _ h => gA_in h
  have hl : lv_has ls 4 [(0, .ref (ad 0)), (1, .int a), (2, .ref (ad 424))] := hl
  refine lv_aload_n hx hb mD_La_count_0 rfl (lv_at hl 2 rfl) ?_
  refine lv_iconst (v := nI 0) hx hb mD_La_count_1 (by decide) ?_
  refine lv_aload_n hx hb mD_La_count_2 rfl (lv_at hl 0 rfl) ?_
  refine lv_iload_n hx hb mD_La_count_3 rfl (lv_at hl 1 rfl) ?_
  refine tx_call (As := [.int a]) (rest := [.int (nI 0), .ref (ad 424)]) hx hb hml hown htw hK (l_sub hP) hS 0 con (tZ_ok s0) (tZ_in hZ hS (l_gA hS.1)) (l_gA hS.1) (by decide) rfl rfl ww_625 ww_626 ww_627 ww_23 wC_TG_count mP_TG_count (by decide) rfl hl.1 rfl (Nat.le_of_ble_eq_true rfl) mD_La_count_4 ⟨Nat.le_of_ble_eq_true rfl, Nat.le_of_ble_eq_true rfl⟩ (fun q ce x1 H locs hp hQ _ hk hS hce hcv hcl => ?_)
  have hP := l_join hI hP hQ hk
  obtain ⟨x3, hx3⟩ : ∃ z_, z_ = ((x1, x.2) : lS) := ⟨_, rfl⟩
  rw [← hx3] at hP
  refine tx_catch (E := tX_A) (hh1 := []) (t := (0, 9, 12, 28)) (hh2 := []) htab hown hce hcv hcl (fun u hu => by cases hu) ⟨by decide, by decide⟩ (by decide) (htw _ ww_434) (tO_C hC hZ 2 rfl) ?_
  refine lv_astore_n (lv' := [(3, .ref q), (0, .ref (ad 0)), (1, .int a), (2, .ref (ad 424))]) hx hb mD_La_count_12 rfl hl (by decide) rfl (fun ls hl => ?_)
  refine lv_iconst (v := nI 1) hx hb mD_La_count_13 (by decide) ?_
  exact gw_iret hx hb hr hlocks hP hS (⟨rfl, (by rw [hx3]; exact hp), (by rw [hx3])⟩) mD_La_count_14 (Nat.le_of_ble_eq_true rfl) (Nat.le_of_ble_eq_true rfl)
