/-! refresh; cells; the ledger; the circuit. Laid by wip/whole/part_cells.py. -/
/-- the key and all rows that hide it -/
def tKey (v : Nat → Nat → Int32) : Prop := (∀ i, i < 8 → tp_bit (v 3 i)) ∧ (∀ i, i < 32 → tp_bit (v 4 i)) ∧ (∀ i h w, i < 8 → h < 2 → w < 2 → th_step v i h w) ∧ ∀ i w, i < 32 → w < 2 → th_way v i w
theorem tKey_eq {v v' : Nat → Nat → Int32} (h : tKey v) (e : ∀ k, k < 104 → v' k = v k) : tKey v' := by
  obtain ⟨h1, h2, h3, h4⟩ := h
  refine ⟨by rw [e 3 (by decide)]; exact h1, by rw [e 4 (by decide)]; exact h2, fun i h w a b c => th_step_eq (h3 i h w a b c) (e _ (by decide)) (e _ (by decide)) (e _ (by omega)), fun i w a b => th_way_eq (h4 i w a b) (e _ (by decide)) (e _ (by decide)) (e _ (by omega))⟩
theorem tb_4 {f : Nat → Nat → Int32} {a b c d : Nat → Int32} : va_up (va_up (va_up (va_up f 105 a) 104 b) 105 c) 104 d = va_up (va_up f 105 c) 104 d := by
  funext j
  by_cases h : j = 104
  · rw [h, va_up_self, va_up_self]
  · rw [va_up_ne _ _ h, va_up_ne _ _ h]
    by_cases h2 : j = 105
    · rw [h2, va_up_self, va_up_self]
    · rw [va_up_ne _ _ h2, va_up_ne _ _ h, va_up_ne _ _ h2, va_up_ne _ _ h2]
theorem tb_rk {k : Nat} (h : tRow k) : k ≠ 104 ∧ k ≠ 105 ∧ k ≠ 3 ∧ k ≠ 4 ∧ k ≠ 1 ∧ k ≠ 0 ∧ k ≠ 108 ∧ k ≠ 350 := by unfold tRow at h; omega
theorem tb_ck {k : Nat} (h : tCe k) : k ≠ 104 ∧ k ≠ 105 ∧ k ≠ 3 ∧ k ≠ 4 ∧ k ≠ 107 ∧ k ≠ 0 ∧ k ≠ 108 ∧ k ≠ 350 ∧ 104 ≤ k := by unfold tCe at h; omega
theorem tb_cr {k j : Nat} (h : tCe k) (h2 : tCe j) : k ≠ j + 1 := by unfold tCe at h h2; omega
/-- the wheel after the eight steps, come back -/
theorem tb_refresh {v : Nat → Nat → Int32} {row gw r : Nat → Int32} (hk : tKey v) (hw : ∀ j : Int, tp_sm (329728 * 8) (tp_ph (v 4) (fun q => gw q) (fun q => gw (32 + q)) j - tp_w0 (tp_rd (row 8)) (j - tp_turn (v 3) row 8)))
    (hr : tp_place (v 3) r = gw 32 - tp_sum 32 (fun i => tp_sum 2 (fun w => tp_dg w (tp_ext (fun j => gw j) (0 - (i : Int))) * tp_place (v 3) (v (40 + (2 * i + w)))))) {p : Int} {z : Bool} (hp : tp_place (v 3) row = Int32.ofInt p)
    (h : if z then 301989888 ≤ p ∧ p < 1845493760 else p < -301989888 ∧ -1845493760 ≤ p) : tp_near (v 3) r z 3186688 := by
  refine tp_refreshed (s := v 4) (wa := fun q => gw q) (wb := fun q => gw (32 + q)) hk.1 hp h hw ?_
  rw [tr_end] at hr
  exact tp_back (pb := fun q => v (40 + q)) hk.2.1 hk.2.2.2 hr

set_option maxHeartbeats 4000000 in
set_option maxRecDepth 100000 in
theorem k_Re_refresh (l : Launch) (D : va_G) (ct : Nat → ClassId) (ad : Nat → Nat) (hI : gw_inj 424 ad) (x : tS) {kr kd : Nat} (hkr : tRow kr) (hkd : tFar kd) (hk : tKey x.1) : gMv l mY_Re_refresh mB_Re_refresh 4 none (rF 3 79) D (tT ct) gZ0 424 ad (tD ct ad) [.ref (ad 5), .ref (ad kr), .ref (ad kd)] x (fun x' => ∃ gc gw g, x'.1 = va_up (va_up (va_up x.1 105 gc) 104 gw) kd g ∧ ∀ (p : Int) (z : Bool), tp_place (x.1 3) (x.1 kr) = Int32.ofInt p → (if z then 301989888 ≤ p ∧ p < 1845493760 else p < -301989888 ∧ -1845493760 ≤ p) → tp_near (x.1 3) g z 3186688) := by
  refine gMv_enter (by decide) (Nat.le_of_ble_eq_true rfl) ?_
  intro p e s m below meth c ls hx hb hr htw hown hlocks hml hl hP hK hZ hS
  have hA : ∀ k, k < 424 → gA 424 ad s.heap.size (ad k) := fun _ h => gA_in h
  have hl : lv_has ls 4 [(0, .ref (ad 5)), (1, .ref (ad kr)), (2, .ref (ad kd))] := hl
  refine gw_nmQ (fun Q hQ => ?_)
  refine lv_aload_n hx hb mD_Re_refresh_0 rfl (lv_at hl 0 rfl) ?_
  refine lv_aload_n hx hb mD_Re_refresh_1 rfl (lv_at hl 1 rfl) ?_
  refine lv_bipush (v := nI 8) hx hb mD_Re_refresh_2 (by decide) ?_
  refine t_iald hx hb hK hP kr 9 (tRow_lt hkr) (tE_row hkr) 8 rfl (by decide) (by decide) mD_Re_refresh_4 ?_
  refine gc_Si (As := [.int (x.1 kr 8)]) (rest := [.ref (ad 5)]) hx hb hml hown htw hK hP hS (k_Re_roundToPlaces l D ct ad hI x _) gZ0_ok (fun _ _ _ => trivial) (gA_mono hS.1) ww_520 ww_521 ww_26 wC_Re_roundToPlaces mP_Re_roundToPlaces (by decide) rfl hl.1 rfl (Nat.le_of_ble_eq_true rfl) mD_Re_refresh_5 ⟨Nat.le_of_ble_eq_true rfl, Nat.le_of_ble_eq_true rfl⟩ (fun r2 x1 H locs hp1 hP _ _ hS => ?_)
  obtain ⟨hq_, rfl⟩ := hp1
  rw [hq_] at hP
  refine gc_Vv (As := [.int (nI (tp_rd (x.1 kr 8)))]) (rest := []) hx hb hml hown htw hK hP hS 5 (k_Re_startWheel l D ct ad hI x (B := tp_rd (x.1 kr 8)) (tp_rd_lt _)) gZ0_ok (fun _ _ _ => trivial) (gA_mono hS.1) (by decide) rfl rfl ww_524 ww_526 ww_11 ww_26 wC_Re_startWheel mP_Re_startWheel (by decide) rfl hl.1 rfl (Nat.le_of_ble_eq_true rfl) mD_Re_refresh_8 ⟨Nat.le_of_ble_eq_true rfl, Nat.le_of_ble_eq_true rfl⟩ (fun x3 H locs hp3 hP _ _ hS => ?_)
  refine lv_iconst (v := nI 0) hx hb mD_Re_refresh_11 (by decide) ?_
  refine lv_istore_n (lv' := [(3, .int (nI 0)), (0, .ref (ad 5)), (1, .ref (ad kr)), (2, .ref (ad kd))]) hx hb mD_Re_refresh_12 rfl hl (by decide) rfl (fun ls hl => ?_)
  have loop : ∀ (d13 : Nat) (n : Nat) (y : tS) (H : Heap) (locs : List Loc) (ls : Array Slot), n + d13 = 8 → lv_has ls 4 [(3, .int (nI n)), (0, .ref (ad 5)), (1, .ref (ad kr)), (2, .ref (ad kd))] → va_P D cL (gw 424 ad (tD ct ad y)) H → va_S (gA 424 ad s.heap.size) s.heap H locs → (∃ gc gw, y.1 = va_up (va_up x.1 105 gc) 104 gw ∧ ∀ j : Int, tp_sm (329728 * n) (tp_ph (x.1 4) (fun q => gw q) (fun q => gw (32 + q)) j - tp_w0 (tp_rd (x.1 kr 8)) (j - tp_turn (x.1 3) (x.1 kr) n))) → W p l e (rF 3 79) s m [.ref (ad 5), .ref (ad kr), .ref (ad kd)].toArray below meth c H locs 0 0 Q (F0 m 13 ls []) := by
    intro d13
    induction d13 using Nat.strongRecOn with
    | ind d13 ih =>
      intro n y H locs ls hd hl hP hS hinv
      refine lv_iload_n hx hb mD_Re_refresh_13 rfl (lv_at hl 0 rfl) ?_
      refine lv_bipush (v := nI 8) hx hb mD_Re_refresh_14 (by decide) ?_
      refine lv_icmp_ge (tgt := 36) hx hb mD_Re_refresh_16 rfl (fun hc => ?_) (fun hc => ?_)
      · skip
        have hn : n = 8 := by have := ts_ge (by omega) (by omega) hc; omega
        subst hn
        obtain ⟨gc, gw, e, hph⟩ := hinv
        refine lv_aload_n hx hb mD_Re_refresh_36 rfl (lv_at hl 1 rfl) ?_
        refine lv_aload_n hx hb mD_Re_refresh_37 rfl (lv_at hl 3 rfl) ?_
        refine gc_Vv (As := [.ref (ad kd)]) (rest := []) hx hb hml hown htw hK hP hS 5 (k_Re_comeBack l D ct ad hI y (kd := kd) hkd) gZ0_ok (fun _ _ _ => trivial) (gA_mono hS.1) (by decide) rfl rfl ww_546 ww_548 ww_14 ww_26 wC_Re_comeBack mP_Re_comeBack (by decide) rfl hl.1 rfl (Nat.le_of_ble_eq_true rfl) mD_Re_refresh_38 ⟨Nat.le_of_ble_eq_true rfl, Nat.le_of_ble_eq_true rfl⟩ (fun x5 H locs hp5 hP _ _ hS => ?_)
        subst hQ
        exact gw_vret hx hb hr hlocks hP hS (by obtain ⟨g, eg, hg⟩ := hp5; have elo : ∀ k, k < 104 → y.1 k = x.1 k := (fun k h => by rw [e, va_up_ne _ _ (by omega), va_up_ne _ _ (by omega)]); have e104 : y.1 104 = gw := (by rw [e, va_up_self]); exact ⟨gc, gw, g, by rw [eg, e], fun p z hp h => by rw [elo 3 (by decide), e104, tp_sum_congr (g := fun i => tp_sum 2 (fun w => tp_dg w (tp_ext (fun j => gw j) (0 - (i : Int))) * tp_place (x.1 3) (x.1 (40 + (2 * i + w))))) (fun i hi => tp_sum_congr (fun w hw => by rw [elo _ (by omega)]))] at hg; exact tb_refresh hk hph hg hp h⟩) mD_Re_refresh_41 (Nat.zero_le _) (Nat.zero_le _)
      · skip
        have hn_n : n < 8 := ts_lt (by omega) (by omega) hc
        obtain ⟨gc, gw, e, hph⟩ := hinv
        have ek : y.1 kr = x.1 kr := by rw [e, va_up_ne _ _ (tb_rk hkr).1, va_up_ne _ _ (tb_rk hkr).2.1]
        have elo : ∀ k, k < 104 → y.1 k = x.1 k := fun k h => by rw [e, va_up_ne _ _ (by omega), va_up_ne _ _ (by omega)]
        have e4 := elo 4 (by decide)
        have e3 := elo 3 (by decide)
        have e104 : y.1 104 = gw := by rw [e, va_up_self]
        have hk1 := tKey_eq hk elo
        refine lv_aload_n hx hb mD_Re_refresh_19 rfl (lv_at hl 1 rfl) ?_
        refine lv_iload_n hx hb mD_Re_refresh_20 rfl (lv_at hl 0 rfl) ?_
        refine lv_aload_n hx hb mD_Re_refresh_21 rfl (lv_at hl 2 rfl) ?_
        refine lv_iload_n hx hb mD_Re_refresh_22 rfl (lv_at hl 0 rfl) ?_
        refine t_iald hx hb hK hP kr 9 (tRow_lt hkr) (tE_row hkr) n rfl (by omega) (by decide) mD_Re_refresh_23 ?_
        refine gc_Si (As := [.int (y.1 kr n)]) (rest := [.int (nI n), .ref (ad 5)]) hx hb hml hown htw hK hP hS (k_Re_roundToPlaces l D ct ad hI y _) gZ0_ok (fun _ _ _ => trivial) (gA_mono hS.1) ww_520 ww_521 ww_26 wC_Re_roundToPlaces mP_Re_roundToPlaces (by decide) rfl hl.1 rfl (Nat.le_of_ble_eq_true rfl) mD_Re_refresh_24 ⟨Nat.le_of_ble_eq_true rfl, Nat.le_of_ble_eq_true rfl⟩ (fun r8 x7 H locs hp7 hP _ _ hS => ?_)
        obtain ⟨hq_, rfl⟩ := hp7
        rw [hq_] at hP
        rw [ek]
        refine gc_Vv (As := [.int (nI n), .int (nI (tp_rd (x.1 kr n)))]) (rest := []) hx hb hml hown htw hK hP hS 5 (k_Re_turnIfKeyBit l D ct ad hI y (i := n) (T := tp_rd (x.1 kr n)) hn_n (tp_rd_lt _) hk1.2.1 (hk1.1 n hn_n) (fun h w => hk1.2.2.1 n h w hn_n)) gZ0_ok (fun _ _ _ => trivial) (gA_mono hS.1) (by decide) rfl rfl ww_530 ww_532 ww_12 ww_26 wC_Re_turnIfKeyBit mP_Re_turnIfKeyBit (by decide) rfl hl.1 rfl (Nat.le_of_ble_eq_true rfl) mD_Re_refresh_27 ⟨Nat.le_of_ble_eq_true rfl, Nat.le_of_ble_eq_true rfl⟩ (fun x9 H locs hp9 hP _ _ hS => ?_)
        refine lv_iinc (k := 0) (v := nI (n + 1)) (lv' := [(3, .int (nI (n + 1))), (0, .ref (ad 5)), (1, .ref (ad kr)), (2, .ref (ad kd))]) hx hb mD_Re_refresh_30 hl rfl (by rw [lit1, nI_1]) (by decide) rfl (fun ls hl => ?_)
        refine lv_goto (tgt := 13) hx hb mD_Re_refresh_33 rfl ?_
        exact ih (d13 - 1) (by omega) (n + 1) x9 _ _ _ (by omega) (lv_sub hl [0, 1, 2, 3] rfl) hP hS (by obtain ⟨gc1, gw1, e1, h1⟩ := hp9; exact ⟨gc1, gw1, by rw [e1, e, tb_4], fun j => tp_iter (κ := x.1 3) (row := x.1 kr) (g := fun j => tp_ph (x.1 4) (fun q => gw q) (fun q => gw (32 + q)) j) (g' := fun j => tp_ph (x.1 4) (fun q => gw1 q) (fun q => gw1 (32 + q)) j) hph (fun j => by have q := h1 j; rw [e4, e104, e3] at q; exact q) j⟩)
  exact loop 8 0 x3 _ _ _ (by omega) hl hP hS (by obtain ⟨g, hg, h1, h2⟩ := hp3; exact ⟨x.1 105, g, by rw [hg, va_up_same], fun j => by rw [tp_start (back := (tp_rd (x.1 kr 8) : Int)) (fun i hi => h1 i hi) (fun i hi => h2 i hi) j, show tp_turn (x.1 3) (x.1 kr) 0 = 0 from rfl, Int.sub_zero]; have z : ∀ A : Int32, A - A = 0 := (by intro A; grind); rw [z]; exact tp_sm_mono tp_sm_0 (Nat.zero_le _)⟩)
