/-! the reference's public methods. Laid by wip/whole/part_mo2.py. -/
theorem tm_free {α : tA} {q : Nat} (hf : aFree α q) : ¬ nI 120 ≤ nI (aCnt (aT α) 120) := fun h => by
  have h0 := aCnt_le (aT α) 120
  have h1 := (nI_leI (by omega) (by omega)).mp h
  have h2 := aCnt_lt hf.1 hf.2.1
  omega
theorem tm_full {α : tA} (hf : aFull α) : nI 120 ≤ nI (aCnt (aT α) 120) := by
  rw [aCnt_full hf]
  exact Int32.le_refl _
theorem tn_pile2 {v : Int32} {b k : Nat} (e : v = nI b) (hb : b < 1073741824) (hk : k ≤ 100) : v.toInt64 * ((8 : Int64) * (nI k).toInt64 + lN 1) = lN (b * (8 * k + 1)) := by
  rw [e, nI_l (by omega), nI_l (by omega), show (8 : Int64) = lN 8 from rfl, lN_mul, lN_add, lN_mul]

set_option maxHeartbeats 4000000 in
set_option maxRecDepth 100000 in
theorem k_Mo_key (l : Launch) (D : va_G) (ct : Nat → ClassId) (ad : Nat → Nat) (hI : gw_inj 8 ad) (x : mS) (α : tA) (t0 : Int32) (hR : mR α t0 x) (a : Int32) : gMi l mY_Mo_key mB_Mo_key 4 (some .int) (rF 1 22) D (tT ct) gZ0 8 ad (mD ct ad) [.ref (ad 0), .int a] x (fun r x' => r = nI (aCnt (aT α) 120) ∧ mR (aKey α) 0 x') := by
  refine gMi_enter (by decide) (Nat.le_of_ble_eq_true rfl) ?_
  intro p e s m below meth c ls hx hb hr htw hown hlocks hml hl hP hK hZ hS
  have hA : ∀ k, k < 8 → gA 8 ad s.heap.size (ad k) := fun _ h => gA_in h
  have hl : lv_has ls 4 [(0, .ref (ad 0)), (1, .int a)] := hl
  refine gw_nmQ (fun Q hQ => ?_)
  refine lv_aload_n hx hb mD_Mo_key_0 rfl (lv_at hl 0 rfl) ?_
  refine lv_iconst (v := nI 0) hx hb mD_Mo_key_1 (by decide) ?_
  refine m_put (C := cN_Mo) (T := cF_Mo) (N := 11) (ci := 8) hx hb htw wU_Mo cT_Mo cO_Mo cM_Mo hown hK hI hA hP hS 0 (by decide) rfl rfl 0 (by decide) rfl ww_640 rfl rfl rfl (Nat.le_of_ble_eq_true rfl) rfl mD_Mo_key_2 (fun H locs hP hS => ?_)
  obtain ⟨x1, hx1⟩ : ∃ z_, z_ = va_up x 0 (upd (x 0) 0 (nI 0)) := ⟨_, rfl⟩
  rw [← hx1] at hP
  have R1 : mR α (nI 0) x1 := by rw [hx1]; exact mR_code hR
  refine lv_aload_n hx hb mD_Mo_key_5 rfl (lv_at hl 0 rfl) ?_
  refine gc_Vi (As := []) (rest := []) hx hb hml hown htw hK hP hS 0 (k_Mo_many l D ct ad hI x1 (f := aT α) (fun q hq => (R1.1 q hq).1)) gZ0_ok (fun _ _ _ => trivial) (gA_mono hS.1) (by decide) rfl rfl ww_683 ww_685 ww_15 ww_33 wC_Mo_many mP_Mo_many (by decide) rfl hl.1 rfl (Nat.le_of_ble_eq_true rfl) mD_Mo_key_6 ⟨Nat.le_of_ble_eq_true rfl, Nat.le_of_ble_eq_true rfl⟩ (fun r3 x2 H locs hp2 hP _ _ hS => ?_)
  obtain ⟨hq_, rfl⟩ := hp2
  rw [hq_] at hP
  refine lv_istore_n (lv' := [(2, .int (nI (aCnt (aT α) 120))), (0, .ref (ad 0)), (1, .int a)]) hx hb mD_Mo_key_9 rfl hl (by decide) rfl (fun ls hl => ?_)
  refine lv_iconst (v := nI 0) hx hb mD_Mo_key_10 (by decide) ?_
  refine lv_istore_n (lv' := [(3, .int (nI 0)), (2, .int (nI (aCnt (aT α) 120))), (0, .ref (ad 0)), (1, .int a)]) hx hb mD_Mo_key_11 rfl hl (by decide) rfl (fun ls hl => ?_)
  have loop : ∀ (d12 : Nat) (k : Nat) (y : mS) (H : Heap) (locs : List Loc) (ls : Array Slot), k + d12 = 120 → lv_has ls 4 [(3, .int (nI k)), (2, .int (nI (aCnt (aT α) 120))), (0, .ref (ad 0)), (1, .int a)] → va_P D cL (gw 8 ad (mD ct ad y)) H → va_S (gA 8 ad s.heap.size) s.heap H locs → ((∀ j, j < k → y 1 j = 0) ∧ ∀ w, w ≠ 1 → y w = x1 w) → W p l e (rF 1 22) s m [.ref (ad 0), .int a].toArray below meth c H locs 0 0 Q (F0 m 12 ls []) := by
    intro d12
    induction d12 using Nat.strongRecOn with
    | ind d12 ih =>
      intro k y H locs ls hd hl hP hS hinv
      refine lv_iload_n hx hb mD_Mo_key_12 rfl (lv_at hl 0 rfl) ?_
      refine lv_bipush (v := nI 120) hx hb mD_Mo_key_13 (by decide) ?_
      refine lv_icmp_ge (tgt := 31) hx hb mD_Mo_key_15 rfl (fun hc => ?_) (fun hc => ?_)
      · skip
        have hn : k = 120 := by have := ts_ge (by omega) (by omega) hc; omega
        subst hn
        refine lv_iload_n hx hb mD_Mo_key_31 rfl (lv_at hl 1 rfl) ?_
        subst hQ
        exact gw_iret hx hb hr hlocks hP hS (⟨rfl, mR_key R1 hinv.1 hinv.2⟩) mD_Mo_key_32 (Nat.zero_le _) (Nat.zero_le _)
      · skip
        have hn_k : k < 120 := ts_lt (by omega) (by omega) hc
        refine lv_aload_n hx hb mD_Mo_key_18 rfl (lv_at hl 2 rfl) ?_
        refine m_get (C := cN_Mo) (T := cF_Mo) (N := 11) (ci := 8) hx hb htw wU_Mo hown hK hP 0 (by decide) rfl rfl 1 (by decide) rfl ww_641 rfl mD_Mo_key_19 ?_
        refine lv_iload_n hx hb mD_Mo_key_22 rfl (lv_at hl 0 rfl) ?_
        refine lv_iconst (v := nI 0) hx hb mD_Mo_key_23 (by decide) ?_
        refine m_zast hx hb hK hI hA hP hS 1 120 (by decide) (fun _ => rfl) k rfl (by omega) (by decide) (by first | exact Or.inl rfl | exact Or.inr rfl) mD_Mo_key_24 (fun H locs hP hS => ?_)
        obtain ⟨x4, hx4⟩ : ∃ z_, z_ = va_up y 1 (upd (y 1) k (nI 0)) := ⟨_, rfl⟩
        rw [← hx4] at hP
        refine lv_iinc (k := 0) (v := nI (k + 1)) (lv' := [(3, .int (nI (k + 1))), (2, .int (nI (aCnt (aT α) 120))), (0, .ref (ad 0)), (1, .int a)]) hx hb mD_Mo_key_25 hl rfl (by rw [lit1, nI_1]) (by decide) rfl (fun ls hl => ?_)
        refine lv_goto (tgt := 12) hx hb mD_Mo_key_28 rfl ?_
        exact ih (d12 - 1) (by omega) (k + 1) x4 _ _ _ (by omega) (lv_sub hl [0, 1, 2, 3] rfl) hP hS ⟨fun j hj => by rw [hx4, va_up_self]; by_cases q : j = k; rw [q, pk_us]; rfl; rw [pk_un q]; exact hinv.1 j (by omega), fun w hw => by rw [hx4, va_up_ne _ _ hw]; exact hinv.2 w hw⟩
  exact loop 120 0 x1 _ _ _ (by omega) hl hP hS ⟨fun _ h => absurd h (Nat.not_lt_zero _), fun _ _ => rfl⟩

set_option maxHeartbeats 4000000 in
set_option maxRecDepth 100000 in
theorem k_Mo_bit (l : Launch) (D : va_G) (ct : Nat → ClassId) (ad : Nat → Nat) (hI : gw_inj 8 ad) (x : mS) (α : tA) (t0 : Int32) (hR : mR α t0 x) (z : Bool) {q : Nat} (hf : aFree α q) : gMi l mY_Mo_bit mB_Mo_bit 2 (some .int) (rF 1 23) D (tT ct) gZ0 8 ad (mD ct ad) [.ref (ad 0), .int (tBi z)] x (fun r x' => r = nI q ∧ mR (aMade α q z 16) 0 x') := by
  refine gMi_enter (by decide) (Nat.le_of_ble_eq_true rfl) ?_
  intro p e s m below meth c ls hx hb hr htw hown hlocks hml hl hP hK hZ hS
  have hA : ∀ k, k < 8 → gA 8 ad s.heap.size (ad k) := fun _ h => gA_in h
  have hl : lv_has ls 2 [(0, .ref (ad 0)), (1, .int (tBi z))] := hl
  refine lv_aload_n hx hb mD_Mo_bit_0 rfl (lv_at hl 0 rfl) ?_
  refine lv_aload_n hx hb mD_Mo_bit_1 rfl (lv_at hl 0 rfl) ?_
  refine gc_Vi (As := []) (rest := [.ref (ad 0)]) hx hb hml hown htw hK hP hS 0 (k_Mo_many l D ct ad hI x (f := aT α) (fun q hq => (hR.1 q hq).1)) gZ0_ok (fun _ _ _ => trivial) (gA_mono hS.1) (by decide) rfl rfl ww_683 ww_685 ww_15 ww_33 wC_Mo_many mP_Mo_many (by decide) rfl hl.1 rfl (Nat.le_of_ble_eq_true rfl) mD_Mo_bit_2 ⟨Nat.le_of_ble_eq_true rfl, Nat.le_of_ble_eq_true rfl⟩ (fun r2 x1 H locs hp1 hP _ _ hS => ?_)
  obtain ⟨hq_, rfl⟩ := hp1
  rw [hq_] at hP
  refine lv_bipush (v := nI 120) hx hb mD_Mo_bit_5 (by decide) ?_
  refine lv_icmp_ge (tgt := 14) hx hb mD_Mo_bit_7 rfl (fun hc => ?_) (fun hc => ?_)
  · skip
    exfalso; exact tm_free hf hc
  · skip
    refine lv_iconst (v := nI 1) hx hb mD_Mo_bit_10 (by decide) ?_
    refine lv_goto (tgt := 15) hx hb mD_Mo_bit_11 rfl ?_
    refine lv_iconst (v := nI 1) hx hb mD_Mo_bit_15 (by decide) ?_
    refine lv_iconst (v := nI 1) hx hb mD_Mo_bit_16 (by decide) ?_
    refine gc_Vi (As := [.int (nI 1), .int (nI 1), .int (nI 1)]) (rest := []) hx hb hml hown htw hK hP hS 0 (k_Mo_goes l D ct ad hI x (b1 := true) (b2 := true) (b3 := true) rfl rfl rfl) gZ0_ok (fun _ _ _ => trivial) (gA_mono hS.1) (by decide) rfl rfl ww_691 ww_693 ww_16 ww_33 wC_Mo_goes mP_Mo_goes (by decide) rfl hl.1 rfl (Nat.le_of_ble_eq_true rfl) mD_Mo_bit_17 ⟨Nat.le_of_ble_eq_true rfl, Nat.le_of_ble_eq_true rfl⟩ (fun r4 x3 H locs hp3 hP _ _ hS => ?_)
    obtain ⟨hy, rfl⟩ := hp3
    have R1 : mR (α) (mCode true true true) x3 := by rw [hy]; exact mR_code hR
    refine lv_if_eq (tgt := 33) hx hb mD_Mo_bit_20 rfl (fun hc => ?_) (fun hc => ?_)
    · skip
      exfalso; exact absurd hc (by decide)
    · skip
      refine lv_aload_n hx hb mD_Mo_bit_23 rfl (lv_at hl 0 rfl) ?_
      refine lv_iload_n hx hb mD_Mo_bit_24 rfl (lv_at hl 1 rfl) ?_
      refine lv_bipush (v := nI 16) hx hb mD_Mo_bit_25 (by decide) ?_
      refine gc_Vi (As := [.int (tBi z), .int (nI 16)]) (rest := []) hx hb hml hown htw hK hP hS 0 (k_Mo_made l D ct ad hI x3 (z := z) rfl (b := 16) (q := q) rfl hf.1 (mR_fr R1 hf).1 (mR_fr R1 hf).2) gZ0_ok (fun _ _ _ => trivial) (gA_mono hS.1) (by decide) rfl rfl ww_695 ww_697 ww_17 ww_33 wC_Mo_made mP_Mo_made (by decide) rfl hl.1 rfl (Nat.le_of_ble_eq_true rfl) mD_Mo_bit_27 ⟨Nat.le_of_ble_eq_true rfl, Nat.le_of_ble_eq_true rfl⟩ (fun r6 x5 H locs hp5 hP _ _ hS => ?_)
      obtain ⟨rfl, ey⟩ := hp5
      refine lv_goto (tgt := 34) hx hb mD_Mo_bit_30 rfl ?_
      exact gw_iret hx hb hr hlocks hP hS (⟨rfl, mR_made R1 (by decide) ey⟩) mD_Mo_bit_34 (Nat.zero_le _) (Nat.zero_le _)

set_option maxHeartbeats 4000000 in
set_option maxRecDepth 100000 in
theorem n1_Mo_bit (l : Launch) (D : va_G) (ct : Nat → ClassId) (ad : Nat → Nat) (hI : gw_inj 8 ad) (x : mS) (α : tA) (t0 : Int32) (hR : mR α t0 x) (z : Bool) (hf : aFull α) : gMi l mY_Mo_bit mB_Mo_bit 2 (some .int) (rF 1 23) D (tT ct) gZ0 8 ad (mD ct ad) [.ref (ad 0), .int (tBi z)] x (fun _ x' => mR α 1 x') := by
  refine gMi_enter (by decide) (Nat.le_of_ble_eq_true rfl) ?_
  intro p e s m below meth c ls hx hb hr htw hown hlocks hml hl hP hK hZ hS
  have hA : ∀ k, k < 8 → gA 8 ad s.heap.size (ad k) := fun _ h => gA_in h
  have hl : lv_has ls 2 [(0, .ref (ad 0)), (1, .int (tBi z))] := hl
  refine lv_aload_n hx hb mD_Mo_bit_0 rfl (lv_at hl 0 rfl) ?_
  refine lv_aload_n hx hb mD_Mo_bit_1 rfl (lv_at hl 0 rfl) ?_
  refine gc_Vi (As := []) (rest := [.ref (ad 0)]) hx hb hml hown htw hK hP hS 0 (k_Mo_many l D ct ad hI x (f := aT α) (fun q hq => (hR.1 q hq).1)) gZ0_ok (fun _ _ _ => trivial) (gA_mono hS.1) (by decide) rfl rfl ww_683 ww_685 ww_15 ww_33 wC_Mo_many mP_Mo_many (by decide) rfl hl.1 rfl (Nat.le_of_ble_eq_true rfl) mD_Mo_bit_2 ⟨Nat.le_of_ble_eq_true rfl, Nat.le_of_ble_eq_true rfl⟩ (fun r2 x1 H locs hp1 hP _ _ hS => ?_)
  obtain ⟨hq_, rfl⟩ := hp1
  rw [hq_] at hP
  refine lv_bipush (v := nI 120) hx hb mD_Mo_bit_5 (by decide) ?_
  refine lv_icmp_ge (tgt := 14) hx hb mD_Mo_bit_7 rfl (fun hc => ?_) (fun hc => ?_)
  · skip
    refine lv_iconst (v := nI 0) hx hb mD_Mo_bit_14 (by decide) ?_
    refine lv_iconst (v := nI 1) hx hb mD_Mo_bit_15 (by decide) ?_
    refine lv_iconst (v := nI 1) hx hb mD_Mo_bit_16 (by decide) ?_
    refine gc_Vi (As := [.int (nI 0), .int (nI 1), .int (nI 1)]) (rest := []) hx hb hml hown htw hK hP hS 0 (k_Mo_goes l D ct ad hI x (b1 := false) (b2 := true) (b3 := true) rfl rfl rfl) gZ0_ok (fun _ _ _ => trivial) (gA_mono hS.1) (by decide) rfl rfl ww_691 ww_693 ww_16 ww_33 wC_Mo_goes mP_Mo_goes (by decide) rfl hl.1 rfl (Nat.le_of_ble_eq_true rfl) mD_Mo_bit_17 ⟨Nat.le_of_ble_eq_true rfl, Nat.le_of_ble_eq_true rfl⟩ (fun r4 x3 H locs hp3 hP _ _ hS => ?_)
    obtain ⟨hy, rfl⟩ := hp3
    have R1 : mR (α) (mCode false true true) x3 := by rw [hy]; exact mR_code hR
    refine lv_if_eq (tgt := 33) hx hb mD_Mo_bit_20 rfl (fun hc => ?_) (fun hc => ?_)
    · skip
      refine lv_iconst (v := nI 0) hx hb mD_Mo_bit_33 (by decide) ?_
      exact gw_iret hx hb hr hlocks hP hS (R1) mD_Mo_bit_34 (Nat.zero_le _) (Nat.zero_le _)
    · skip
      exfalso; exact hc rfl
  · skip
    exfalso; exact hc (tm_full hf)

set_option maxHeartbeats 4000000 in
set_option maxRecDepth 100000 in
theorem k_Mo_drop (l : Launch) (D : va_G) (ct : Nat → ClassId) (ad : Nat → Nat) (hI : gw_inj 8 ad) (x : mS) (α : tA) (t0 : Int32) (hR : mR α t0 x) {u : Nat} (hu : u < 120) (hut : aT α u = true)  : gMi l mY_Mo_drop mB_Mo_drop 2 (some .int) (rF 1 23) D (tT ct) gZ0 8 ad (mD ct ad) [.ref (ad 0), .int (nI u)] x (fun r x' => r = nI (aCnt (aT (aDrop α u)) 120) ∧ mR (aDrop α u) 0 x') := by
  refine gMi_enter (by decide) (Nat.le_of_ble_eq_true rfl) ?_
  intro p e s m below meth c ls hx hb hr htw hown hlocks hml hl hP hK hZ hS
  have hA : ∀ k, k < 8 → gA 8 ad s.heap.size (ad k) := fun _ h => gA_in h
  have hl : lv_has ls 2 [(0, .ref (ad 0)), (1, .int (nI u))] := hl
  refine lv_aload_n hx hb mD_Mo_drop_0 rfl (lv_at hl 0 rfl) ?_
  refine lv_aload_n hx hb mD_Mo_drop_1 rfl (lv_at hl 0 rfl) ?_
  refine lv_iload_n hx hb mD_Mo_drop_2 rfl (lv_at hl 1 rfl) ?_
  refine gc_Vi (As := [.int (nI u)]) (rest := [.ref (ad 0)]) hx hb hml hown htw hK hP hS 0 (k_Mo_isBit l D ct ad hI x (u := u) hu (mR_th hR hu hut)) gZ0_ok (fun _ _ _ => trivial) (gA_mono hS.1) (by decide) rfl rfl ww_703 ww_705 ww_18 ww_33 wC_Mo_isBit mP_Mo_isBit (by decide) rfl hl.1 rfl (Nat.le_of_ble_eq_true rfl) mD_Mo_drop_3 ⟨Nat.le_of_ble_eq_true rfl, Nat.le_of_ble_eq_true rfl⟩ (fun r2 x1 H locs hp1 hP _ _ hS => ?_)
  obtain ⟨hq_, rfl⟩ := hp1
  rw [hq_] at hP
  refine lv_iconst (v := nI 1) hx hb mD_Mo_drop_6 (by decide) ?_
  refine lv_iconst (v := nI 1) hx hb mD_Mo_drop_7 (by decide) ?_
  refine gc_Vi (As := [.int (nI 1), .int (nI 1), .int (nI 1)]) (rest := []) hx hb hml hown htw hK hP hS 0 (k_Mo_goes l D ct ad hI x (b1 := true) (b2 := true) (b3 := true) rfl rfl rfl) gZ0_ok (fun _ _ _ => trivial) (gA_mono hS.1) (by decide) rfl rfl ww_691 ww_693 ww_16 ww_33 wC_Mo_goes mP_Mo_goes (by decide) rfl hl.1 rfl (Nat.le_of_ble_eq_true rfl) mD_Mo_drop_8 ⟨Nat.le_of_ble_eq_true rfl, Nat.le_of_ble_eq_true rfl⟩ (fun r4 x3 H locs hp3 hP _ _ hS => ?_)
  obtain ⟨hy, rfl⟩ := hp3
  have R1 : mR (α) (mCode true true true) x3 := by rw [hy]; exact mR_code hR
  refine lv_if_ne (tgt := 16) hx hb mD_Mo_drop_11 rfl (fun hc => ?_) (fun hc => ?_)
  · skip
    refine lv_aload_n hx hb mD_Mo_drop_16 rfl (lv_at hl 0 rfl) ?_
    refine m_get (C := cN_Mo) (T := cF_Mo) (N := 11) (ci := 8) hx hb htw wU_Mo hown hK hP 0 (by decide) rfl rfl 1 (by decide) rfl ww_641 rfl mD_Mo_drop_17 ?_
    refine lv_iload_n hx hb mD_Mo_drop_20 rfl (lv_at hl 1 rfl) ?_
    refine lv_iconst (v := nI 0) hx hb mD_Mo_drop_21 (by decide) ?_
    refine m_zast hx hb hK hI hA hP hS 1 120 (by decide) (fun _ => rfl) u rfl (by omega) (by decide) (by first | exact Or.inl rfl | exact Or.inr rfl) mD_Mo_drop_22 (fun H locs hP hS => ?_)
    obtain ⟨x5, hx5⟩ : ∃ z_, z_ = va_up x3 1 (upd (x3 1) u (nI 0)) := ⟨_, rfl⟩
    rw [← hx5] at hP
    have R2 : mR (aDrop α u) 0 x5 := by rw [hx5]; exact mR_drop R1
    refine lv_aload_n hx hb mD_Mo_drop_23 rfl (lv_at hl 0 rfl) ?_
    refine gc_Vi (As := []) (rest := []) hx hb hml hown htw hK hP hS 0 (k_Mo_many l D ct ad hI x5 (f := aT (aDrop α u)) (fun q hq => (R2.1 q hq).1)) gZ0_ok (fun _ _ _ => trivial) (gA_mono hS.1) (by decide) rfl rfl ww_683 ww_685 ww_15 ww_33 wC_Mo_many mP_Mo_many (by decide) rfl hl.1 rfl (Nat.le_of_ble_eq_true rfl) mD_Mo_drop_24 ⟨Nat.le_of_ble_eq_true rfl, Nat.le_of_ble_eq_true rfl⟩ (fun r7 x6 H locs hp6 hP _ _ hS => ?_)
    obtain ⟨hq_, rfl⟩ := hp6
    rw [hq_] at hP
    exact gw_iret hx hb hr hlocks hP hS (⟨rfl, R2⟩) mD_Mo_drop_27 (Nat.zero_le _) (Nat.zero_le _)
  · skip
    exfalso; exact absurd hc (by decide)

set_option maxHeartbeats 4000000 in
set_option maxRecDepth 100000 in
theorem n1_Mo_drop (l : Launch) (D : va_G) (ct : Nat → ClassId) (ad : Nat → Nat) (hI : gw_inj 8 ad) (x : mS) (α : tA) (t0 : Int32) (hR : mR α t0 x) (a : Int32) (hh : ¬ aHas α a) : gMi l mY_Mo_drop mB_Mo_drop 2 (some .int) (rF 1 23) D (tT ct) gZ0 8 ad (mD ct ad) [.ref (ad 0), .int a] x (fun _ x' => mR α 1 x') := by
  refine gMi_enter (by decide) (Nat.le_of_ble_eq_true rfl) ?_
  intro p e s m below meth c ls hx hb hr htw hown hlocks hml hl hP hK hZ hS
  have hA : ∀ k, k < 8 → gA 8 ad s.heap.size (ad k) := fun _ h => gA_in h
  have hl : lv_has ls 2 [(0, .ref (ad 0)), (1, .int a)] := hl
  refine lv_aload_n hx hb mD_Mo_drop_0 rfl (lv_at hl 0 rfl) ?_
  refine lv_aload_n hx hb mD_Mo_drop_1 rfl (lv_at hl 0 rfl) ?_
  refine lv_iload_n hx hb mD_Mo_drop_2 rfl (lv_at hl 1 rfl) ?_
  refine gc_Vi (As := [.int a]) (rest := [.ref (ad 0)]) hx hb hml hown htw hK hP hS 0 (n_Mo_isBit l D ct ad hI x a (mR_no hR hh)) gZ0_ok (fun _ _ _ => trivial) (gA_mono hS.1) (by decide) rfl rfl ww_703 ww_705 ww_18 ww_33 wC_Mo_isBit mP_Mo_isBit (by decide) rfl hl.1 rfl (Nat.le_of_ble_eq_true rfl) mD_Mo_drop_3 ⟨Nat.le_of_ble_eq_true rfl, Nat.le_of_ble_eq_true rfl⟩ (fun r2 x1 H locs hp1 hP _ _ hS => ?_)
  obtain ⟨hq_, rfl⟩ := hp1
  rw [hq_] at hP
  refine lv_iconst (v := nI 1) hx hb mD_Mo_drop_6 (by decide) ?_
  refine lv_iconst (v := nI 1) hx hb mD_Mo_drop_7 (by decide) ?_
  refine gc_Vi (As := [.int (nI 0), .int (nI 1), .int (nI 1)]) (rest := []) hx hb hml hown htw hK hP hS 0 (k_Mo_goes l D ct ad hI x (b1 := false) (b2 := true) (b3 := true) rfl rfl rfl) gZ0_ok (fun _ _ _ => trivial) (gA_mono hS.1) (by decide) rfl rfl ww_691 ww_693 ww_16 ww_33 wC_Mo_goes mP_Mo_goes (by decide) rfl hl.1 rfl (Nat.le_of_ble_eq_true rfl) mD_Mo_drop_8 ⟨Nat.le_of_ble_eq_true rfl, Nat.le_of_ble_eq_true rfl⟩ (fun r4 x3 H locs hp3 hP _ _ hS => ?_)
  obtain ⟨hy, rfl⟩ := hp3
  have R1 : mR (α) (mCode false true true) x3 := by rw [hy]; exact mR_code hR
  refine lv_if_ne (tgt := 16) hx hb mD_Mo_drop_11 rfl (fun hc => ?_) (fun hc => ?_)
  · skip
    exfalso; exact hc rfl
  · skip
    refine lv_iconst (v := nI 0) hx hb mD_Mo_drop_14 (by decide) ?_
    exact gw_iret hx hb hr hlocks hP hS (R1) mD_Mo_drop_15 (Nat.zero_le _) (Nat.zero_le _)

set_option maxHeartbeats 4000000 in
set_option maxRecDepth 100000 in
theorem k_Mo_not (l : Launch) (D : va_G) (ct : Nat → ClassId) (ad : Nat → Nat) (hI : gw_inj 8 ad) (x : mS) (α : tA) (t0 : Int32) (hR : mR α t0 x) {u q : Nat} (hu : u < 120) (hut : aT α u = true) (hf : aFree α q) : gMi l mY_Mo_not mB_Mo_not 2 (some .int) (rF 1 23) D (tT ct) gZ0 8 ad (mD ct ad) [.ref (ad 0), .int (nI u)] x (fun r x' => r = nI q ∧ mR (aMade α q (!(aV α u)) (aB α u)) 0 x') := by
  refine gMi_enter (by decide) (Nat.le_of_ble_eq_true rfl) ?_
  intro p e s m below meth c ls hx hb hr htw hown hlocks hml hl hP hK hZ hS
  have hA : ∀ k, k < 8 → gA 8 ad s.heap.size (ad k) := fun _ h => gA_in h
  have hl : lv_has ls 2 [(0, .ref (ad 0)), (1, .int (nI u))] := hl
  refine lv_aload_n hx hb mD_Mo_not_0 rfl (lv_at hl 0 rfl) ?_
  refine lv_aload_n hx hb mD_Mo_not_1 rfl (lv_at hl 0 rfl) ?_
  refine lv_iload_n hx hb mD_Mo_not_2 rfl (lv_at hl 1 rfl) ?_
  refine gc_Vi (As := [.int (nI u)]) (rest := [.ref (ad 0)]) hx hb hml hown htw hK hP hS 0 (k_Mo_isBit l D ct ad hI x (u := u) hu (mR_th hR hu hut)) gZ0_ok (fun _ _ _ => trivial) (gA_mono hS.1) (by decide) rfl rfl ww_703 ww_705 ww_18 ww_33 wC_Mo_isBit mP_Mo_isBit (by decide) rfl hl.1 rfl (Nat.le_of_ble_eq_true rfl) mD_Mo_not_3 ⟨Nat.le_of_ble_eq_true rfl, Nat.le_of_ble_eq_true rfl⟩ (fun r2 x1 H locs hp1 hP _ _ hS => ?_)
  obtain ⟨hq_, rfl⟩ := hp1
  rw [hq_] at hP
  refine lv_aload_n hx hb mD_Mo_not_6 rfl (lv_at hl 0 rfl) ?_
  refine gc_Vi (As := []) (rest := [.int (nI 1), .ref (ad 0)]) hx hb hml hown htw hK hP hS 0 (k_Mo_many l D ct ad hI x (f := aT α) (fun q hq => (hR.1 q hq).1)) gZ0_ok (fun _ _ _ => trivial) (gA_mono hS.1) (by decide) rfl rfl ww_683 ww_685 ww_15 ww_33 wC_Mo_many mP_Mo_many (by decide) rfl hl.1 rfl (Nat.le_of_ble_eq_true rfl) mD_Mo_not_7 ⟨Nat.le_of_ble_eq_true rfl, Nat.le_of_ble_eq_true rfl⟩ (fun r4 x3 H locs hp3 hP _ _ hS => ?_)
  obtain ⟨hq_, rfl⟩ := hp3
  rw [hq_] at hP
  refine lv_bipush (v := nI 120) hx hb mD_Mo_not_10 (by decide) ?_
  refine lv_icmp_ge (tgt := 19) hx hb mD_Mo_not_12 rfl (fun hc => ?_) (fun hc => ?_)
  · skip
    exfalso; exact tm_free hf hc
  · skip
    refine lv_iconst (v := nI 1) hx hb mD_Mo_not_15 (by decide) ?_
    refine lv_goto (tgt := 20) hx hb mD_Mo_not_16 rfl ?_
    refine lv_iconst (v := nI 1) hx hb mD_Mo_not_20 (by decide) ?_
    refine gc_Vi (As := [.int (nI 1), .int (nI 1), .int (nI 1)]) (rest := []) hx hb hml hown htw hK hP hS 0 (k_Mo_goes l D ct ad hI x (b1 := true) (b2 := true) (b3 := true) rfl rfl rfl) gZ0_ok (fun _ _ _ => trivial) (gA_mono hS.1) (by decide) rfl rfl ww_691 ww_693 ww_16 ww_33 wC_Mo_goes mP_Mo_goes (by decide) rfl hl.1 rfl (Nat.le_of_ble_eq_true rfl) mD_Mo_not_21 ⟨Nat.le_of_ble_eq_true rfl, Nat.le_of_ble_eq_true rfl⟩ (fun r6 x5 H locs hp5 hP _ _ hS => ?_)
    obtain ⟨hy, rfl⟩ := hp5
    have R1 : mR (α) (mCode true true true) x5 := by rw [hy]; exact mR_code hR
    refine lv_if_eq (tgt := 54) hx hb mD_Mo_not_24 rfl (fun hc => ?_) (fun hc => ?_)
    · skip
      exfalso; exact absurd hc (by decide)
    · skip
      have w1 := (R1.1 u hu).2 hut
      refine lv_aload_n hx hb mD_Mo_not_27 rfl (lv_at hl 0 rfl) ?_
      refine lv_aload_n hx hb mD_Mo_not_28 rfl (lv_at hl 0 rfl) ?_
      refine m_get (C := cN_Mo) (T := cF_Mo) (N := 11) (ci := 8) hx hb htw wU_Mo hown hK hP 0 (by decide) rfl rfl 2 (by decide) rfl ww_642 rfl mD_Mo_not_29 ?_
      refine lv_iload_n hx hb mD_Mo_not_32 rfl (lv_at hl 1 rfl) ?_
      refine m_zald hx hb hK hP 2 120 (by decide) rfl u rfl (by omega) (by decide) mD_Mo_not_33 ?_
      refine lv_if_ne (tgt := 41) hx hb mD_Mo_not_34 rfl (fun a9 => ?_) (fun a9 => ?_)
      · skip
        refine lv_iconst (v := nI 0) hx hb mD_Mo_not_41 (by decide) ?_
        refine lv_aload_n hx hb mD_Mo_not_42 rfl (lv_at hl 0 rfl) ?_
        refine m_get (C := cN_Mo) (T := cF_Mo) (N := 11) (ci := 8) hx hb htw wU_Mo hown hK hP 0 (by decide) rfl rfl 3 (by decide) rfl ww_643 rfl mD_Mo_not_43 ?_
        refine lv_iload_n hx hb mD_Mo_not_46 rfl (lv_at hl 1 rfl) ?_
        refine m_iald hx hb hK hP 3 120 (by decide) rfl u rfl (by omega) (by decide) mD_Mo_not_47 ?_
        have hz_ : aV α u = true := (tBi_b w1.2.1).1 a9
        refine gc_Vi (As := [.int (nI 0), .int (x5 3 u)]) (rest := []) hx hb hml hown htw hK hP hS 0 (k_Mo_made l D ct ad hI x5 (z := !(aV α u)) (by rw [hz_]; rfl) (b := aB α u) (q := q) w1.2.2 hf.1 (mR_fr R1 hf).1 (mR_fr R1 hf).2) gZ0_ok (fun _ _ _ => trivial) (gA_mono hS.1) (by decide) rfl rfl ww_695 ww_697 ww_17 ww_33 wC_Mo_made mP_Mo_made (by decide) rfl hl.1 rfl (Nat.le_of_ble_eq_true rfl) mD_Mo_not_48 ⟨Nat.le_of_ble_eq_true rfl, Nat.le_of_ble_eq_true rfl⟩ (fun r8 x7 H locs hp7 hP _ _ hS => ?_)
        obtain ⟨rfl, ey⟩ := hp7
        refine lv_goto (tgt := 55) hx hb mD_Mo_not_51 rfl ?_
        exact gw_iret hx hb hr hlocks hP hS (⟨rfl, mR_made R1 w1.1 ey⟩) mD_Mo_not_55 (Nat.zero_le _) (Nat.zero_le _)
      · skip
        refine lv_iconst (v := nI 1) hx hb mD_Mo_not_37 (by decide) ?_
        refine lv_goto (tgt := 42) hx hb mD_Mo_not_38 rfl ?_
        refine lv_aload_n hx hb mD_Mo_not_42 rfl (lv_at hl 0 rfl) ?_
        refine m_get (C := cN_Mo) (T := cF_Mo) (N := 11) (ci := 8) hx hb htw wU_Mo hown hK hP 0 (by decide) rfl rfl 3 (by decide) rfl ww_643 rfl mD_Mo_not_43 ?_
        refine lv_iload_n hx hb mD_Mo_not_46 rfl (lv_at hl 1 rfl) ?_
        refine m_iald hx hb hK hP 3 120 (by decide) rfl u rfl (by omega) (by decide) mD_Mo_not_47 ?_
        have hz_ : aV α u = false := (tBi_b w1.2.1).2 a9
        refine gc_Vi (As := [.int (nI 1), .int (x5 3 u)]) (rest := []) hx hb hml hown htw hK hP hS 0 (k_Mo_made l D ct ad hI x5 (z := !(aV α u)) (by rw [hz_]; rfl) (b := aB α u) (q := q) w1.2.2 hf.1 (mR_fr R1 hf).1 (mR_fr R1 hf).2) gZ0_ok (fun _ _ _ => trivial) (gA_mono hS.1) (by decide) rfl rfl ww_695 ww_697 ww_17 ww_33 wC_Mo_made mP_Mo_made (by decide) rfl hl.1 rfl (Nat.le_of_ble_eq_true rfl) mD_Mo_not_48 ⟨Nat.le_of_ble_eq_true rfl, Nat.le_of_ble_eq_true rfl⟩ (fun r10 x9 H locs hp9 hP _ _ hS => ?_)
        obtain ⟨rfl, ey⟩ := hp9
        refine lv_goto (tgt := 55) hx hb mD_Mo_not_51 rfl ?_
        exact gw_iret hx hb hr hlocks hP hS (⟨rfl, mR_made R1 w1.1 ey⟩) mD_Mo_not_55 (Nat.zero_le _) (Nat.zero_le _)

set_option maxHeartbeats 4000000 in
set_option maxRecDepth 100000 in
theorem n1_Mo_not (l : Launch) (D : va_G) (ct : Nat → ClassId) (ad : Nat → Nat) (hI : gw_inj 8 ad) (x : mS) (α : tA) (t0 : Int32) (hR : mR α t0 x) (a : Int32) (hh : ¬ aHas α a) : gMi l mY_Mo_not mB_Mo_not 2 (some .int) (rF 1 23) D (tT ct) gZ0 8 ad (mD ct ad) [.ref (ad 0), .int a] x (fun _ x' => mR α 1 x') := by
  refine gMi_enter (by decide) (Nat.le_of_ble_eq_true rfl) ?_
  intro p e s m below meth c ls hx hb hr htw hown hlocks hml hl hP hK hZ hS
  have hA : ∀ k, k < 8 → gA 8 ad s.heap.size (ad k) := fun _ h => gA_in h
  have hl : lv_has ls 2 [(0, .ref (ad 0)), (1, .int a)] := hl
  refine lv_aload_n hx hb mD_Mo_not_0 rfl (lv_at hl 0 rfl) ?_
  refine lv_aload_n hx hb mD_Mo_not_1 rfl (lv_at hl 0 rfl) ?_
  refine lv_iload_n hx hb mD_Mo_not_2 rfl (lv_at hl 1 rfl) ?_
  refine gc_Vi (As := [.int a]) (rest := [.ref (ad 0)]) hx hb hml hown htw hK hP hS 0 (n_Mo_isBit l D ct ad hI x a (mR_no hR hh)) gZ0_ok (fun _ _ _ => trivial) (gA_mono hS.1) (by decide) rfl rfl ww_703 ww_705 ww_18 ww_33 wC_Mo_isBit mP_Mo_isBit (by decide) rfl hl.1 rfl (Nat.le_of_ble_eq_true rfl) mD_Mo_not_3 ⟨Nat.le_of_ble_eq_true rfl, Nat.le_of_ble_eq_true rfl⟩ (fun r2 x1 H locs hp1 hP _ _ hS => ?_)
  obtain ⟨hq_, rfl⟩ := hp1
  rw [hq_] at hP
  refine lv_aload_n hx hb mD_Mo_not_6 rfl (lv_at hl 0 rfl) ?_
  refine gc_Vi (As := []) (rest := [.int (nI 0), .ref (ad 0)]) hx hb hml hown htw hK hP hS 0 (k_Mo_many l D ct ad hI x (f := aT α) (fun q hq => (hR.1 q hq).1)) gZ0_ok (fun _ _ _ => trivial) (gA_mono hS.1) (by decide) rfl rfl ww_683 ww_685 ww_15 ww_33 wC_Mo_many mP_Mo_many (by decide) rfl hl.1 rfl (Nat.le_of_ble_eq_true rfl) mD_Mo_not_7 ⟨Nat.le_of_ble_eq_true rfl, Nat.le_of_ble_eq_true rfl⟩ (fun r4 x3 H locs hp3 hP _ _ hS => ?_)
  obtain ⟨hq_, rfl⟩ := hp3
  rw [hq_] at hP
  refine lv_bipush (v := nI 120) hx hb mD_Mo_not_10 (by decide) ?_
  refine lv_icmp_ge (tgt := 19) hx hb mD_Mo_not_12 rfl (fun hc => ?_) (fun hc => ?_)
  · skip
    refine lv_iconst (v := nI 0) hx hb mD_Mo_not_19 (by decide) ?_
    refine lv_iconst (v := nI 1) hx hb mD_Mo_not_20 (by decide) ?_
    refine gc_Vi (As := [.int (nI 0), .int (nI 0), .int (nI 1)]) (rest := []) hx hb hml hown htw hK hP hS 0 (k_Mo_goes l D ct ad hI x (b1 := false) (b2 := false) (b3 := true) rfl rfl rfl) gZ0_ok (fun _ _ _ => trivial) (gA_mono hS.1) (by decide) rfl rfl ww_691 ww_693 ww_16 ww_33 wC_Mo_goes mP_Mo_goes (by decide) rfl hl.1 rfl (Nat.le_of_ble_eq_true rfl) mD_Mo_not_21 ⟨Nat.le_of_ble_eq_true rfl, Nat.le_of_ble_eq_true rfl⟩ (fun r6 x5 H locs hp5 hP _ _ hS => ?_)
    obtain ⟨hy, rfl⟩ := hp5
    have R1 : mR (α) (mCode false false true) x5 := by rw [hy]; exact mR_code hR
    refine lv_if_eq (tgt := 54) hx hb mD_Mo_not_24 rfl (fun hc => ?_) (fun hc => ?_)
    · skip
      refine lv_iconst (v := nI 0) hx hb mD_Mo_not_54 (by decide) ?_
      exact gw_iret hx hb hr hlocks hP hS (R1) mD_Mo_not_55 (Nat.zero_le _) (Nat.zero_le _)
    · skip
      exfalso; exact hc rfl
  · skip
    refine lv_iconst (v := nI 1) hx hb mD_Mo_not_15 (by decide) ?_
    refine lv_goto (tgt := 20) hx hb mD_Mo_not_16 rfl ?_
    refine lv_iconst (v := nI 1) hx hb mD_Mo_not_20 (by decide) ?_
    refine gc_Vi (As := [.int (nI 0), .int (nI 1), .int (nI 1)]) (rest := []) hx hb hml hown htw hK hP hS 0 (k_Mo_goes l D ct ad hI x (b1 := false) (b2 := true) (b3 := true) rfl rfl rfl) gZ0_ok (fun _ _ _ => trivial) (gA_mono hS.1) (by decide) rfl rfl ww_691 ww_693 ww_16 ww_33 wC_Mo_goes mP_Mo_goes (by decide) rfl hl.1 rfl (Nat.le_of_ble_eq_true rfl) mD_Mo_not_21 ⟨Nat.le_of_ble_eq_true rfl, Nat.le_of_ble_eq_true rfl⟩ (fun r8 x7 H locs hp7 hP _ _ hS => ?_)
    obtain ⟨hy, rfl⟩ := hp7
    have R1 : mR (α) (mCode false true true) x7 := by rw [hy]; exact mR_code hR
    refine lv_if_eq (tgt := 54) hx hb mD_Mo_not_24 rfl (fun hc => ?_) (fun hc => ?_)
    · skip
      refine lv_iconst (v := nI 0) hx hb mD_Mo_not_54 (by decide) ?_
      exact gw_iret hx hb hr hlocks hP hS (R1) mD_Mo_not_55 (Nat.zero_le _) (Nat.zero_le _)
    · skip
      exfalso; exact hc rfl

set_option maxHeartbeats 4000000 in
set_option maxRecDepth 100000 in
theorem n2_Mo_not (l : Launch) (D : va_G) (ct : Nat → ClassId) (ad : Nat → Nat) (hI : gw_inj 8 ad) (x : mS) (α : tA) (t0 : Int32) (hR : mR α t0 x) {u : Nat} (hu : u < 120) (hut : aT α u = true) (hf : aFull α) : gMi l mY_Mo_not mB_Mo_not 2 (some .int) (rF 1 23) D (tT ct) gZ0 8 ad (mD ct ad) [.ref (ad 0), .int (nI u)] x (fun _ x' => mR α 2 x') := by
  refine gMi_enter (by decide) (Nat.le_of_ble_eq_true rfl) ?_
  intro p e s m below meth c ls hx hb hr htw hown hlocks hml hl hP hK hZ hS
  have hA : ∀ k, k < 8 → gA 8 ad s.heap.size (ad k) := fun _ h => gA_in h
  have hl : lv_has ls 2 [(0, .ref (ad 0)), (1, .int (nI u))] := hl
  refine lv_aload_n hx hb mD_Mo_not_0 rfl (lv_at hl 0 rfl) ?_
  refine lv_aload_n hx hb mD_Mo_not_1 rfl (lv_at hl 0 rfl) ?_
  refine lv_iload_n hx hb mD_Mo_not_2 rfl (lv_at hl 1 rfl) ?_
  refine gc_Vi (As := [.int (nI u)]) (rest := [.ref (ad 0)]) hx hb hml hown htw hK hP hS 0 (k_Mo_isBit l D ct ad hI x (u := u) hu (mR_th hR hu hut)) gZ0_ok (fun _ _ _ => trivial) (gA_mono hS.1) (by decide) rfl rfl ww_703 ww_705 ww_18 ww_33 wC_Mo_isBit mP_Mo_isBit (by decide) rfl hl.1 rfl (Nat.le_of_ble_eq_true rfl) mD_Mo_not_3 ⟨Nat.le_of_ble_eq_true rfl, Nat.le_of_ble_eq_true rfl⟩ (fun r2 x1 H locs hp1 hP _ _ hS => ?_)
  obtain ⟨hq_, rfl⟩ := hp1
  rw [hq_] at hP
  refine lv_aload_n hx hb mD_Mo_not_6 rfl (lv_at hl 0 rfl) ?_
  refine gc_Vi (As := []) (rest := [.int (nI 1), .ref (ad 0)]) hx hb hml hown htw hK hP hS 0 (k_Mo_many l D ct ad hI x (f := aT α) (fun q hq => (hR.1 q hq).1)) gZ0_ok (fun _ _ _ => trivial) (gA_mono hS.1) (by decide) rfl rfl ww_683 ww_685 ww_15 ww_33 wC_Mo_many mP_Mo_many (by decide) rfl hl.1 rfl (Nat.le_of_ble_eq_true rfl) mD_Mo_not_7 ⟨Nat.le_of_ble_eq_true rfl, Nat.le_of_ble_eq_true rfl⟩ (fun r4 x3 H locs hp3 hP _ _ hS => ?_)
  obtain ⟨hq_, rfl⟩ := hp3
  rw [hq_] at hP
  refine lv_bipush (v := nI 120) hx hb mD_Mo_not_10 (by decide) ?_
  refine lv_icmp_ge (tgt := 19) hx hb mD_Mo_not_12 rfl (fun hc => ?_) (fun hc => ?_)
  · skip
    refine lv_iconst (v := nI 0) hx hb mD_Mo_not_19 (by decide) ?_
    refine lv_iconst (v := nI 1) hx hb mD_Mo_not_20 (by decide) ?_
    refine gc_Vi (As := [.int (nI 1), .int (nI 0), .int (nI 1)]) (rest := []) hx hb hml hown htw hK hP hS 0 (k_Mo_goes l D ct ad hI x (b1 := true) (b2 := false) (b3 := true) rfl rfl rfl) gZ0_ok (fun _ _ _ => trivial) (gA_mono hS.1) (by decide) rfl rfl ww_691 ww_693 ww_16 ww_33 wC_Mo_goes mP_Mo_goes (by decide) rfl hl.1 rfl (Nat.le_of_ble_eq_true rfl) mD_Mo_not_21 ⟨Nat.le_of_ble_eq_true rfl, Nat.le_of_ble_eq_true rfl⟩ (fun r6 x5 H locs hp5 hP _ _ hS => ?_)
    obtain ⟨hy, rfl⟩ := hp5
    have R1 : mR (α) (mCode true false true) x5 := by rw [hy]; exact mR_code hR
    refine lv_if_eq (tgt := 54) hx hb mD_Mo_not_24 rfl (fun hc => ?_) (fun hc => ?_)
    · skip
      refine lv_iconst (v := nI 0) hx hb mD_Mo_not_54 (by decide) ?_
      exact gw_iret hx hb hr hlocks hP hS (R1) mD_Mo_not_55 (Nat.zero_le _) (Nat.zero_le _)
    · skip
      exfalso; exact hc rfl
  · skip
    exfalso; exact hc (tm_full hf)

set_option maxHeartbeats 4000000 in
set_option maxRecDepth 100000 in
theorem k_Mo_blur (l : Launch) (D : va_G) (ct : Nat → ClassId) (ad : Nat → Nat) (hI : gw_inj 8 ad) (x : mS) (α : tA) (t0 : Int32) (hR : mR α t0 x) {u n : Nat} (hu : u < 120) (hut : aT α u = true) (hn : n ≤ 1000) (hbd : aB α u + 16 * n < 1073741824) : gMi l mY_Mo_blur mB_Mo_blur 6 (some .int) (rF 1 23) D (tT ct) gZ0 8 ad (mD ct ad) [.ref (ad 0), .int (nI u), .int (nI n)] x (fun r x' => r = nI (aB α u + 16 * n) ∧ mR (aBound α u (aB α u + 16 * n)) 0 x') := by
  refine gMi_enter (by decide) (Nat.le_of_ble_eq_true rfl) ?_
  intro p e s m below meth c ls hx hb hr htw hown hlocks hml hl hP hK hZ hS
  have hA : ∀ k, k < 8 → gA 8 ad s.heap.size (ad k) := fun _ h => gA_in h
  have hl : lv_has ls 6 [(0, .ref (ad 0)), (1, .int (nI u)), (2, .int (nI n))] := hl
  refine lv_aload_n hx hb mD_Mo_blur_0 rfl (lv_at hl 0 rfl) ?_
  refine lv_iload_n hx hb mD_Mo_blur_1 rfl (lv_at hl 1 rfl) ?_
  refine gc_Vi (As := [.int (nI u)]) (rest := []) hx hb hml hown htw hK hP hS 0 (k_Mo_isBit l D ct ad hI x (u := u) hu (mR_th hR hu hut)) gZ0_ok (fun _ _ _ => trivial) (gA_mono hS.1) (by decide) rfl rfl ww_703 ww_705 ww_18 ww_33 wC_Mo_isBit mP_Mo_isBit (by decide) rfl hl.1 rfl (Nat.le_of_ble_eq_true rfl) mD_Mo_blur_2 ⟨Nat.le_of_ble_eq_true rfl, Nat.le_of_ble_eq_true rfl⟩ (fun r2 x1 H locs hp1 hP _ _ hS => ?_)
  obtain ⟨hq_, rfl⟩ := hp1
  rw [hq_] at hP
  refine lv_istore_n (lv' := [(3, .int (nI 1)), (0, .ref (ad 0)), (1, .int (nI u)), (2, .int (nI n))]) hx hb mD_Mo_blur_5 rfl hl (by decide) rfl (fun ls hl => ?_)
  have w1 := (hR.1 u hu).2 hut
  refine lv_iload_n hx hb mD_Mo_blur_6 rfl (lv_at hl 0 rfl) ?_
  refine lv_if_eq (tgt := 27) hx hb mD_Mo_blur_7 rfl (fun hc => ?_) (fun hc => ?_)
  · skip
    exfalso; exact absurd hc (by decide)
  · skip
    refine lv_aload_n hx hb mD_Mo_blur_10 rfl (lv_at hl 1 rfl) ?_
    refine m_get (C := cN_Mo) (T := cF_Mo) (N := 11) (ci := 8) hx hb htw wU_Mo hown hK hP 0 (by decide) rfl rfl 3 (by decide) rfl ww_643 rfl mD_Mo_blur_11 ?_
    refine lv_iload_n hx hb mD_Mo_blur_14 rfl (lv_at hl 2 rfl) ?_
    refine m_iald hx hb hK hP 3 120 (by decide) rfl u rfl (by omega) (by decide) mD_Mo_blur_15 ?_
    refine lv_i2l hx hb mD_Mo_blur_16 rfl ?_
    refine lv_ldc2 hx hb hown (htw _ ww_715) mD_Mo_blur_17 ?_
    refine lv_iload_n hx hb mD_Mo_blur_20 rfl (lv_at hl 3 rfl) ?_
    refine lv_i2l hx hb mD_Mo_blur_21 rfl ?_
    refine lv_lmul hx hb mD_Mo_blur_22 ?_
    refine lv_ladd hx hb mD_Mo_blur_23 ?_
    refine lv_goto (tgt := 28) hx hb mD_Mo_blur_24 rfl ?_
    rw [tn_blur w1.2.2 w1.1 hn]
    refine lv_lstore (lv' := [(4, .long (lN (aB α u + 16 * n))), (3, .int (nI 1)), (0, .ref (ad 0)), (1, .int (nI u)), (2, .int (nI n))]) hx hb mD_Mo_blur_28 hl (by decide) rfl (fun ls hl => ?_)
    refine lv_aload_n hx hb mD_Mo_blur_30 rfl (lv_at hl 2 rfl) ?_
    refine lv_iload_n hx hb mD_Mo_blur_31 rfl (lv_at hl 1 rfl) ?_
    refine lv_iload_n hx hb mD_Mo_blur_32 rfl (lv_at hl 4 rfl) ?_
    refine lv_if_lt (tgt := 47) hx hb mD_Mo_blur_33 rfl (fun hc => ?_) (fun hc => ?_)
    · skip
      exfalso; exact nI_pos (by omega) hc
    · skip
      refine lv_iload_n hx hb mD_Mo_blur_36 rfl (lv_at hl 4 rfl) ?_
      refine lv_sipush (v := nI 1000) hx hb mD_Mo_blur_37 (by decide) ?_
      refine lv_icmp_gt (tgt := 47) hx hb mD_Mo_blur_40 rfl (fun hc => ?_) (fun hc => ?_)
      · skip
        exfalso; exact nI_nlt (by omega) (by omega) hc
      · skip
        refine lv_iconst (v := nI 1) hx hb mD_Mo_blur_43 (by decide) ?_
        refine lv_goto (tgt := 48) hx hb mD_Mo_blur_44 rfl ?_
        refine lv_lload hx hb mD_Mo_blur_48 (lv_at hl 0 rfl) ?_
        refine lv_ldc2 hx hb hown (htw _ ww_716) mD_Mo_blur_50 ?_
        refine W.lcmp hx hb mD_Mo_blur_53 ?_
        refine lv_if_ge (tgt := 61) hx hb mD_Mo_blur_54 rfl (fun hc => ?_) (fun hc => ?_)
        · skip
          exfalso; exact Int32.not_le.mpr ((tl_ltn (m := 1073741824) (by omega) (by decide)).mpr hbd) hc
        · skip
          refine lv_iconst (v := nI 1) hx hb mD_Mo_blur_57 (by decide) ?_
          refine lv_goto (tgt := 62) hx hb mD_Mo_blur_58 rfl ?_
          refine gc_Vi (As := [.int (nI 1), .int (nI 1), .int (nI 1)]) (rest := []) hx hb hml hown htw hK hP hS 0 (k_Mo_goes l D ct ad hI x (b1 := true) (b2 := true) (b3 := true) rfl rfl rfl) gZ0_ok (fun _ _ _ => trivial) (gA_mono hS.1) (by decide) rfl rfl ww_691 ww_693 ww_16 ww_33 wC_Mo_goes mP_Mo_goes (by decide) rfl hl.1 rfl (Nat.le_of_ble_eq_true rfl) mD_Mo_blur_62 ⟨Nat.le_of_ble_eq_true rfl, Nat.le_of_ble_eq_true rfl⟩ (fun r4 x3 H locs hp3 hP _ _ hS => ?_)
          obtain ⟨hy, rfl⟩ := hp3
          have R1 : mR (α) (mCode true true true) x3 := by rw [hy]; exact mR_code hR
          refine lv_if_eq (tgt := 78) hx hb mD_Mo_blur_65 rfl (fun hc => ?_) (fun hc => ?_)
          · skip
            exfalso; exact absurd hc (by decide)
          · skip
            refine lv_aload_n hx hb mD_Mo_blur_68 rfl (lv_at hl 2 rfl) ?_
            refine lv_iload_n hx hb mD_Mo_blur_69 rfl (lv_at hl 3 rfl) ?_
            refine lv_lload hx hb mD_Mo_blur_70 (lv_at hl 0 rfl) ?_
            refine gc_Vi (As := [.int (nI u), .long (lN (aB α u + 16 * n))]) (rest := []) hx hb hml hown htw hK hP hS 0 (k_Mo_bounded l D ct ad hI x3 (u := u) (n := aB α u + 16 * n) hu) gZ0_ok (fun _ _ _ => trivial) (gA_mono hS.1) (by decide) rfl rfl ww_717 ww_719 ww_19 ww_33 wC_Mo_bounded mP_Mo_bounded (by decide) rfl hl.1 rfl (Nat.le_of_ble_eq_true rfl) mD_Mo_blur_72 ⟨Nat.le_of_ble_eq_true rfl, Nat.le_of_ble_eq_true rfl⟩ (fun r6 x5 H locs hp5 hP _ _ hS => ?_)
            obtain ⟨rfl, ey⟩ := hp5
            refine lv_goto (tgt := 79) hx hb mD_Mo_blur_75 rfl ?_
            exact gw_iret hx hb hr hlocks hP hS (⟨rfl, by rw [ey]; exact mR_bound R1 hbd⟩) mD_Mo_blur_79 (Nat.zero_le _) (Nat.zero_le _)

set_option maxHeartbeats 4000000 in
set_option maxRecDepth 100000 in
theorem n1_Mo_blur (l : Launch) (D : va_G) (ct : Nat → ClassId) (ad : Nat → Nat) (hI : gw_inj 8 ad) (x : mS) (α : tA) (t0 : Int32) (hR : mR α t0 x) (a b : Int32) (hh : ¬ aHas α a) : gMi l mY_Mo_blur mB_Mo_blur 6 (some .int) (rF 1 23) D (tT ct) gZ0 8 ad (mD ct ad) [.ref (ad 0), .int a, .int b] x (fun _ x' => mR α 1 x') := by
  refine gMi_enter (by decide) (Nat.le_of_ble_eq_true rfl) ?_
  intro p e s m below meth c ls hx hb hr htw hown hlocks hml hl hP hK hZ hS
  have hA : ∀ k, k < 8 → gA 8 ad s.heap.size (ad k) := fun _ h => gA_in h
  have hl : lv_has ls 6 [(0, .ref (ad 0)), (1, .int a), (2, .int b)] := hl
  refine lv_aload_n hx hb mD_Mo_blur_0 rfl (lv_at hl 0 rfl) ?_
  refine lv_iload_n hx hb mD_Mo_blur_1 rfl (lv_at hl 1 rfl) ?_
  refine gc_Vi (As := [.int a]) (rest := []) hx hb hml hown htw hK hP hS 0 (n_Mo_isBit l D ct ad hI x a (mR_no hR hh)) gZ0_ok (fun _ _ _ => trivial) (gA_mono hS.1) (by decide) rfl rfl ww_703 ww_705 ww_18 ww_33 wC_Mo_isBit mP_Mo_isBit (by decide) rfl hl.1 rfl (Nat.le_of_ble_eq_true rfl) mD_Mo_blur_2 ⟨Nat.le_of_ble_eq_true rfl, Nat.le_of_ble_eq_true rfl⟩ (fun r2 x1 H locs hp1 hP _ _ hS => ?_)
  obtain ⟨hq_, rfl⟩ := hp1
  rw [hq_] at hP
  refine lv_istore_n (lv' := [(3, .int (nI 0)), (0, .ref (ad 0)), (1, .int a), (2, .int b)]) hx hb mD_Mo_blur_5 rfl hl (by decide) rfl (fun ls hl => ?_)
  refine lv_iload_n hx hb mD_Mo_blur_6 rfl (lv_at hl 0 rfl) ?_
  refine lv_if_eq (tgt := 27) hx hb mD_Mo_blur_7 rfl (fun hc => ?_) (fun hc => ?_)
  · skip
    refine lv_lconst (v := lN 0) hx hb mD_Mo_blur_27 (by decide) ?_
    refine lv_lstore (lv' := [(4, .long (lN 0)), (3, .int (nI 0)), (0, .ref (ad 0)), (1, .int a), (2, .int b)]) hx hb mD_Mo_blur_28 hl (by decide) rfl (fun ls hl => ?_)
    refine lv_aload_n hx hb mD_Mo_blur_30 rfl (lv_at hl 2 rfl) ?_
    refine lv_iload_n hx hb mD_Mo_blur_31 rfl (lv_at hl 1 rfl) ?_
    refine lv_iload_n hx hb mD_Mo_blur_32 rfl (lv_at hl 4 rfl) ?_
    refine lv_if_lt (tgt := 47) hx hb mD_Mo_blur_33 rfl (fun hc => ?_) (fun hc => ?_)
    · skip
      refine lv_iconst (v := nI 0) hx hb mD_Mo_blur_47 (by decide) ?_
      refine lv_lload hx hb mD_Mo_blur_48 (lv_at hl 0 rfl) ?_
      refine lv_ldc2 hx hb hown (htw _ ww_716) mD_Mo_blur_50 ?_
      refine W.lcmp hx hb mD_Mo_blur_53 ?_
      refine lv_if_ge (tgt := 61) hx hb mD_Mo_blur_54 rfl (fun hc => ?_) (fun hc => ?_)
      · skip
        refine lv_iconst (v := nI 0) hx hb mD_Mo_blur_61 (by decide) ?_
        refine gc_Vi (As := [.int (nI 0), .int (nI 0), .int (nI 0)]) (rest := []) hx hb hml hown htw hK hP hS 0 (k_Mo_goes l D ct ad hI x (b1 := false) (b2 := false) (b3 := false) rfl rfl rfl) gZ0_ok (fun _ _ _ => trivial) (gA_mono hS.1) (by decide) rfl rfl ww_691 ww_693 ww_16 ww_33 wC_Mo_goes mP_Mo_goes (by decide) rfl hl.1 rfl (Nat.le_of_ble_eq_true rfl) mD_Mo_blur_62 ⟨Nat.le_of_ble_eq_true rfl, Nat.le_of_ble_eq_true rfl⟩ (fun r4 x3 H locs hp3 hP _ _ hS => ?_)
        obtain ⟨hy, rfl⟩ := hp3
        have R1 : mR (α) (mCode false false false) x3 := by rw [hy]; exact mR_code hR
        refine lv_if_eq (tgt := 78) hx hb mD_Mo_blur_65 rfl (fun hc => ?_) (fun hc => ?_)
        · skip
          refine lv_iconst (v := nI 0) hx hb mD_Mo_blur_78 (by decide) ?_
          exact gw_iret hx hb hr hlocks hP hS (R1) mD_Mo_blur_79 (Nat.zero_le _) (Nat.zero_le _)
        · skip
          exfalso; exact hc rfl
      · skip
        refine lv_iconst (v := nI 1) hx hb mD_Mo_blur_57 (by decide) ?_
        refine lv_goto (tgt := 62) hx hb mD_Mo_blur_58 rfl ?_
        refine gc_Vi (As := [.int (nI 0), .int (nI 0), .int (nI 1)]) (rest := []) hx hb hml hown htw hK hP hS 0 (k_Mo_goes l D ct ad hI x (b1 := false) (b2 := false) (b3 := true) rfl rfl rfl) gZ0_ok (fun _ _ _ => trivial) (gA_mono hS.1) (by decide) rfl rfl ww_691 ww_693 ww_16 ww_33 wC_Mo_goes mP_Mo_goes (by decide) rfl hl.1 rfl (Nat.le_of_ble_eq_true rfl) mD_Mo_blur_62 ⟨Nat.le_of_ble_eq_true rfl, Nat.le_of_ble_eq_true rfl⟩ (fun r6 x5 H locs hp5 hP _ _ hS => ?_)
        obtain ⟨hy, rfl⟩ := hp5
        have R1 : mR (α) (mCode false false true) x5 := by rw [hy]; exact mR_code hR
        refine lv_if_eq (tgt := 78) hx hb mD_Mo_blur_65 rfl (fun hc => ?_) (fun hc => ?_)
        · skip
          refine lv_iconst (v := nI 0) hx hb mD_Mo_blur_78 (by decide) ?_
          exact gw_iret hx hb hr hlocks hP hS (R1) mD_Mo_blur_79 (Nat.zero_le _) (Nat.zero_le _)
        · skip
          exfalso; exact hc rfl
    · skip
      refine lv_iload_n hx hb mD_Mo_blur_36 rfl (lv_at hl 4 rfl) ?_
      refine lv_sipush (v := nI 1000) hx hb mD_Mo_blur_37 (by decide) ?_
      refine lv_icmp_gt (tgt := 47) hx hb mD_Mo_blur_40 rfl (fun hc => ?_) (fun hc => ?_)
      · skip
        refine lv_iconst (v := nI 0) hx hb mD_Mo_blur_47 (by decide) ?_
        refine lv_lload hx hb mD_Mo_blur_48 (lv_at hl 0 rfl) ?_
        refine lv_ldc2 hx hb hown (htw _ ww_716) mD_Mo_blur_50 ?_
        refine W.lcmp hx hb mD_Mo_blur_53 ?_
        refine lv_if_ge (tgt := 61) hx hb mD_Mo_blur_54 rfl (fun hc => ?_) (fun hc => ?_)
        · skip
          refine lv_iconst (v := nI 0) hx hb mD_Mo_blur_61 (by decide) ?_
          refine gc_Vi (As := [.int (nI 0), .int (nI 0), .int (nI 0)]) (rest := []) hx hb hml hown htw hK hP hS 0 (k_Mo_goes l D ct ad hI x (b1 := false) (b2 := false) (b3 := false) rfl rfl rfl) gZ0_ok (fun _ _ _ => trivial) (gA_mono hS.1) (by decide) rfl rfl ww_691 ww_693 ww_16 ww_33 wC_Mo_goes mP_Mo_goes (by decide) rfl hl.1 rfl (Nat.le_of_ble_eq_true rfl) mD_Mo_blur_62 ⟨Nat.le_of_ble_eq_true rfl, Nat.le_of_ble_eq_true rfl⟩ (fun r8 x7 H locs hp7 hP _ _ hS => ?_)
          obtain ⟨hy, rfl⟩ := hp7
          have R1 : mR (α) (mCode false false false) x7 := by rw [hy]; exact mR_code hR
          refine lv_if_eq (tgt := 78) hx hb mD_Mo_blur_65 rfl (fun hc => ?_) (fun hc => ?_)
          · skip
            refine lv_iconst (v := nI 0) hx hb mD_Mo_blur_78 (by decide) ?_
            exact gw_iret hx hb hr hlocks hP hS (R1) mD_Mo_blur_79 (Nat.zero_le _) (Nat.zero_le _)
          · skip
            exfalso; exact hc rfl
        · skip
          refine lv_iconst (v := nI 1) hx hb mD_Mo_blur_57 (by decide) ?_
          refine lv_goto (tgt := 62) hx hb mD_Mo_blur_58 rfl ?_
          refine gc_Vi (As := [.int (nI 0), .int (nI 0), .int (nI 1)]) (rest := []) hx hb hml hown htw hK hP hS 0 (k_Mo_goes l D ct ad hI x (b1 := false) (b2 := false) (b3 := true) rfl rfl rfl) gZ0_ok (fun _ _ _ => trivial) (gA_mono hS.1) (by decide) rfl rfl ww_691 ww_693 ww_16 ww_33 wC_Mo_goes mP_Mo_goes (by decide) rfl hl.1 rfl (Nat.le_of_ble_eq_true rfl) mD_Mo_blur_62 ⟨Nat.le_of_ble_eq_true rfl, Nat.le_of_ble_eq_true rfl⟩ (fun r10 x9 H locs hp9 hP _ _ hS => ?_)
          obtain ⟨hy, rfl⟩ := hp9
          have R1 : mR (α) (mCode false false true) x9 := by rw [hy]; exact mR_code hR
          refine lv_if_eq (tgt := 78) hx hb mD_Mo_blur_65 rfl (fun hc => ?_) (fun hc => ?_)
          · skip
            refine lv_iconst (v := nI 0) hx hb mD_Mo_blur_78 (by decide) ?_
            exact gw_iret hx hb hr hlocks hP hS (R1) mD_Mo_blur_79 (Nat.zero_le _) (Nat.zero_le _)
          · skip
            exfalso; exact hc rfl
      · skip
        refine lv_iconst (v := nI 1) hx hb mD_Mo_blur_43 (by decide) ?_
        refine lv_goto (tgt := 48) hx hb mD_Mo_blur_44 rfl ?_
        refine lv_lload hx hb mD_Mo_blur_48 (lv_at hl 0 rfl) ?_
        refine lv_ldc2 hx hb hown (htw _ ww_716) mD_Mo_blur_50 ?_
        refine W.lcmp hx hb mD_Mo_blur_53 ?_
        refine lv_if_ge (tgt := 61) hx hb mD_Mo_blur_54 rfl (fun hc => ?_) (fun hc => ?_)
        · skip
          refine lv_iconst (v := nI 0) hx hb mD_Mo_blur_61 (by decide) ?_
          refine gc_Vi (As := [.int (nI 0), .int (nI 1), .int (nI 0)]) (rest := []) hx hb hml hown htw hK hP hS 0 (k_Mo_goes l D ct ad hI x (b1 := false) (b2 := true) (b3 := false) rfl rfl rfl) gZ0_ok (fun _ _ _ => trivial) (gA_mono hS.1) (by decide) rfl rfl ww_691 ww_693 ww_16 ww_33 wC_Mo_goes mP_Mo_goes (by decide) rfl hl.1 rfl (Nat.le_of_ble_eq_true rfl) mD_Mo_blur_62 ⟨Nat.le_of_ble_eq_true rfl, Nat.le_of_ble_eq_true rfl⟩ (fun r12 x11 H locs hp11 hP _ _ hS => ?_)
          obtain ⟨hy, rfl⟩ := hp11
          have R1 : mR (α) (mCode false true false) x11 := by rw [hy]; exact mR_code hR
          refine lv_if_eq (tgt := 78) hx hb mD_Mo_blur_65 rfl (fun hc => ?_) (fun hc => ?_)
          · skip
            refine lv_iconst (v := nI 0) hx hb mD_Mo_blur_78 (by decide) ?_
            exact gw_iret hx hb hr hlocks hP hS (R1) mD_Mo_blur_79 (Nat.zero_le _) (Nat.zero_le _)
          · skip
            exfalso; exact hc rfl
        · skip
          refine lv_iconst (v := nI 1) hx hb mD_Mo_blur_57 (by decide) ?_
          refine lv_goto (tgt := 62) hx hb mD_Mo_blur_58 rfl ?_
          refine gc_Vi (As := [.int (nI 0), .int (nI 1), .int (nI 1)]) (rest := []) hx hb hml hown htw hK hP hS 0 (k_Mo_goes l D ct ad hI x (b1 := false) (b2 := true) (b3 := true) rfl rfl rfl) gZ0_ok (fun _ _ _ => trivial) (gA_mono hS.1) (by decide) rfl rfl ww_691 ww_693 ww_16 ww_33 wC_Mo_goes mP_Mo_goes (by decide) rfl hl.1 rfl (Nat.le_of_ble_eq_true rfl) mD_Mo_blur_62 ⟨Nat.le_of_ble_eq_true rfl, Nat.le_of_ble_eq_true rfl⟩ (fun r14 x13 H locs hp13 hP _ _ hS => ?_)
          obtain ⟨hy, rfl⟩ := hp13
          have R1 : mR (α) (mCode false true true) x13 := by rw [hy]; exact mR_code hR
          refine lv_if_eq (tgt := 78) hx hb mD_Mo_blur_65 rfl (fun hc => ?_) (fun hc => ?_)
          · skip
            refine lv_iconst (v := nI 0) hx hb mD_Mo_blur_78 (by decide) ?_
            exact gw_iret hx hb hr hlocks hP hS (R1) mD_Mo_blur_79 (Nat.zero_le _) (Nat.zero_le _)
          · skip
            exfalso; exact hc rfl
  · skip
    exfalso; exact hc rfl

set_option maxHeartbeats 4000000 in
set_option maxRecDepth 100000 in
theorem n2_Mo_blur (l : Launch) (D : va_G) (ct : Nat → ClassId) (ad : Nat → Nat) (hI : gw_inj 8 ad) (x : mS) (α : tA) (t0 : Int32) (hR : mR α t0 x) {u : Nat} (hu : u < 120) (hut : aT α u = true) (b : Int32) (hn : ¬ ∃ q, q ≤ 1000 ∧ b = nI q) : gMi l mY_Mo_blur mB_Mo_blur 6 (some .int) (rF 1 23) D (tT ct) gZ0 8 ad (mD ct ad) [.ref (ad 0), .int (nI u), .int b] x (fun _ x' => mR α 2 x') := by
  refine gMi_enter (by decide) (Nat.le_of_ble_eq_true rfl) ?_
  intro p e s m below meth c ls hx hb hr htw hown hlocks hml hl hP hK hZ hS
  have hA : ∀ k, k < 8 → gA 8 ad s.heap.size (ad k) := fun _ h => gA_in h
  have hl : lv_has ls 6 [(0, .ref (ad 0)), (1, .int (nI u)), (2, .int b)] := hl
  refine lv_aload_n hx hb mD_Mo_blur_0 rfl (lv_at hl 0 rfl) ?_
  refine lv_iload_n hx hb mD_Mo_blur_1 rfl (lv_at hl 1 rfl) ?_
  refine gc_Vi (As := [.int (nI u)]) (rest := []) hx hb hml hown htw hK hP hS 0 (k_Mo_isBit l D ct ad hI x (u := u) hu (mR_th hR hu hut)) gZ0_ok (fun _ _ _ => trivial) (gA_mono hS.1) (by decide) rfl rfl ww_703 ww_705 ww_18 ww_33 wC_Mo_isBit mP_Mo_isBit (by decide) rfl hl.1 rfl (Nat.le_of_ble_eq_true rfl) mD_Mo_blur_2 ⟨Nat.le_of_ble_eq_true rfl, Nat.le_of_ble_eq_true rfl⟩ (fun r2 x1 H locs hp1 hP _ _ hS => ?_)
  obtain ⟨hq_, rfl⟩ := hp1
  rw [hq_] at hP
  refine lv_istore_n (lv' := [(3, .int (nI 1)), (0, .ref (ad 0)), (1, .int (nI u)), (2, .int b)]) hx hb mD_Mo_blur_5 rfl hl (by decide) rfl (fun ls hl => ?_)
  have w1 := (hR.1 u hu).2 hut
  refine lv_iload_n hx hb mD_Mo_blur_6 rfl (lv_at hl 0 rfl) ?_
  refine lv_if_eq (tgt := 27) hx hb mD_Mo_blur_7 rfl (fun hc => ?_) (fun hc => ?_)
  · skip
    exfalso; exact absurd hc (by decide)
  · skip
    refine lv_aload_n hx hb mD_Mo_blur_10 rfl (lv_at hl 1 rfl) ?_
    refine m_get (C := cN_Mo) (T := cF_Mo) (N := 11) (ci := 8) hx hb htw wU_Mo hown hK hP 0 (by decide) rfl rfl 3 (by decide) rfl ww_643 rfl mD_Mo_blur_11 ?_
    refine lv_iload_n hx hb mD_Mo_blur_14 rfl (lv_at hl 2 rfl) ?_
    refine m_iald hx hb hK hP 3 120 (by decide) rfl u rfl (by omega) (by decide) mD_Mo_blur_15 ?_
    refine lv_i2l hx hb mD_Mo_blur_16 rfl ?_
    refine lv_ldc2 hx hb hown (htw _ ww_715) mD_Mo_blur_17 ?_
    refine lv_iload_n hx hb mD_Mo_blur_20 rfl (lv_at hl 3 rfl) ?_
    refine lv_i2l hx hb mD_Mo_blur_21 rfl ?_
    refine lv_lmul hx hb mD_Mo_blur_22 ?_
    refine lv_ladd hx hb mD_Mo_blur_23 ?_
    refine lv_goto (tgt := 28) hx hb mD_Mo_blur_24 rfl ?_
    refine lv_lstore (lv' := [(4, .long (((x 3 u).toInt64) + (((16 : Int64)) * b.toInt64))), (3, .int (nI 1)), (0, .ref (ad 0)), (1, .int (nI u)), (2, .int b)]) hx hb mD_Mo_blur_28 hl (by decide) rfl (fun ls hl => ?_)
    refine lv_aload_n hx hb mD_Mo_blur_30 rfl (lv_at hl 2 rfl) ?_
    refine lv_iload_n hx hb mD_Mo_blur_31 rfl (lv_at hl 1 rfl) ?_
    refine lv_iload_n hx hb mD_Mo_blur_32 rfl (lv_at hl 4 rfl) ?_
    refine lv_if_lt (tgt := 47) hx hb mD_Mo_blur_33 rfl (fun a0 => ?_) (fun a0 => ?_)
    · skip
      refine lv_iconst (v := nI 0) hx hb mD_Mo_blur_47 (by decide) ?_
      refine lv_lload hx hb mD_Mo_blur_48 (lv_at hl 0 rfl) ?_
      refine lv_ldc2 hx hb hown (htw _ ww_716) mD_Mo_blur_50 ?_
      refine W.lcmp hx hb mD_Mo_blur_53 ?_
      refine lv_if_ge (tgt := 61) hx hb mD_Mo_blur_54 rfl (fun hc => ?_) (fun hc => ?_)
      · skip
        refine lv_iconst (v := nI 0) hx hb mD_Mo_blur_61 (by decide) ?_
        refine gc_Vi (As := [.int (nI 1), .int (nI 0), .int (nI 0)]) (rest := []) hx hb hml hown htw hK hP hS 0 (k_Mo_goes l D ct ad hI x (b1 := true) (b2 := false) (b3 := false) rfl rfl rfl) gZ0_ok (fun _ _ _ => trivial) (gA_mono hS.1) (by decide) rfl rfl ww_691 ww_693 ww_16 ww_33 wC_Mo_goes mP_Mo_goes (by decide) rfl hl.1 rfl (Nat.le_of_ble_eq_true rfl) mD_Mo_blur_62 ⟨Nat.le_of_ble_eq_true rfl, Nat.le_of_ble_eq_true rfl⟩ (fun r4 x3 H locs hp3 hP _ _ hS => ?_)
        obtain ⟨hy, rfl⟩ := hp3
        have R1 : mR (α) (mCode true false false) x3 := by rw [hy]; exact mR_code hR
        refine lv_if_eq (tgt := 78) hx hb mD_Mo_blur_65 rfl (fun hc => ?_) (fun hc => ?_)
        · skip
          refine lv_iconst (v := nI 0) hx hb mD_Mo_blur_78 (by decide) ?_
          exact gw_iret hx hb hr hlocks hP hS (R1) mD_Mo_blur_79 (Nat.zero_le _) (Nat.zero_le _)
        · skip
          exfalso; exact hc rfl
      · skip
        refine lv_iconst (v := nI 1) hx hb mD_Mo_blur_57 (by decide) ?_
        refine lv_goto (tgt := 62) hx hb mD_Mo_blur_58 rfl ?_
        refine gc_Vi (As := [.int (nI 1), .int (nI 0), .int (nI 1)]) (rest := []) hx hb hml hown htw hK hP hS 0 (k_Mo_goes l D ct ad hI x (b1 := true) (b2 := false) (b3 := true) rfl rfl rfl) gZ0_ok (fun _ _ _ => trivial) (gA_mono hS.1) (by decide) rfl rfl ww_691 ww_693 ww_16 ww_33 wC_Mo_goes mP_Mo_goes (by decide) rfl hl.1 rfl (Nat.le_of_ble_eq_true rfl) mD_Mo_blur_62 ⟨Nat.le_of_ble_eq_true rfl, Nat.le_of_ble_eq_true rfl⟩ (fun r6 x5 H locs hp5 hP _ _ hS => ?_)
        obtain ⟨hy, rfl⟩ := hp5
        have R1 : mR (α) (mCode true false true) x5 := by rw [hy]; exact mR_code hR
        refine lv_if_eq (tgt := 78) hx hb mD_Mo_blur_65 rfl (fun hc => ?_) (fun hc => ?_)
        · skip
          refine lv_iconst (v := nI 0) hx hb mD_Mo_blur_78 (by decide) ?_
          exact gw_iret hx hb hr hlocks hP hS (R1) mD_Mo_blur_79 (Nat.zero_le _) (Nat.zero_le _)
        · skip
          exfalso; exact hc rfl
    · skip
      refine lv_iload_n hx hb mD_Mo_blur_36 rfl (lv_at hl 4 rfl) ?_
      refine lv_sipush (v := nI 1000) hx hb mD_Mo_blur_37 (by decide) ?_
      refine lv_icmp_gt (tgt := 47) hx hb mD_Mo_blur_40 rfl (fun a1 => ?_) (fun a1 => ?_)
      · skip
        refine lv_iconst (v := nI 0) hx hb mD_Mo_blur_47 (by decide) ?_
        refine lv_lload hx hb mD_Mo_blur_48 (lv_at hl 0 rfl) ?_
        refine lv_ldc2 hx hb hown (htw _ ww_716) mD_Mo_blur_50 ?_
        refine W.lcmp hx hb mD_Mo_blur_53 ?_
        refine lv_if_ge (tgt := 61) hx hb mD_Mo_blur_54 rfl (fun hc => ?_) (fun hc => ?_)
        · skip
          refine lv_iconst (v := nI 0) hx hb mD_Mo_blur_61 (by decide) ?_
          refine gc_Vi (As := [.int (nI 1), .int (nI 0), .int (nI 0)]) (rest := []) hx hb hml hown htw hK hP hS 0 (k_Mo_goes l D ct ad hI x (b1 := true) (b2 := false) (b3 := false) rfl rfl rfl) gZ0_ok (fun _ _ _ => trivial) (gA_mono hS.1) (by decide) rfl rfl ww_691 ww_693 ww_16 ww_33 wC_Mo_goes mP_Mo_goes (by decide) rfl hl.1 rfl (Nat.le_of_ble_eq_true rfl) mD_Mo_blur_62 ⟨Nat.le_of_ble_eq_true rfl, Nat.le_of_ble_eq_true rfl⟩ (fun r8 x7 H locs hp7 hP _ _ hS => ?_)
          obtain ⟨hy, rfl⟩ := hp7
          have R1 : mR (α) (mCode true false false) x7 := by rw [hy]; exact mR_code hR
          refine lv_if_eq (tgt := 78) hx hb mD_Mo_blur_65 rfl (fun hc => ?_) (fun hc => ?_)
          · skip
            refine lv_iconst (v := nI 0) hx hb mD_Mo_blur_78 (by decide) ?_
            exact gw_iret hx hb hr hlocks hP hS (R1) mD_Mo_blur_79 (Nat.zero_le _) (Nat.zero_le _)
          · skip
            exfalso; exact hc rfl
        · skip
          refine lv_iconst (v := nI 1) hx hb mD_Mo_blur_57 (by decide) ?_
          refine lv_goto (tgt := 62) hx hb mD_Mo_blur_58 rfl ?_
          refine gc_Vi (As := [.int (nI 1), .int (nI 0), .int (nI 1)]) (rest := []) hx hb hml hown htw hK hP hS 0 (k_Mo_goes l D ct ad hI x (b1 := true) (b2 := false) (b3 := true) rfl rfl rfl) gZ0_ok (fun _ _ _ => trivial) (gA_mono hS.1) (by decide) rfl rfl ww_691 ww_693 ww_16 ww_33 wC_Mo_goes mP_Mo_goes (by decide) rfl hl.1 rfl (Nat.le_of_ble_eq_true rfl) mD_Mo_blur_62 ⟨Nat.le_of_ble_eq_true rfl, Nat.le_of_ble_eq_true rfl⟩ (fun r10 x9 H locs hp9 hP _ _ hS => ?_)
          obtain ⟨hy, rfl⟩ := hp9
          have R1 : mR (α) (mCode true false true) x9 := by rw [hy]; exact mR_code hR
          refine lv_if_eq (tgt := 78) hx hb mD_Mo_blur_65 rfl (fun hc => ?_) (fun hc => ?_)
          · skip
            refine lv_iconst (v := nI 0) hx hb mD_Mo_blur_78 (by decide) ?_
            exact gw_iret hx hb hr hlocks hP hS (R1) mD_Mo_blur_79 (Nat.zero_le _) (Nat.zero_le _)
          · skip
            exfalso; exact hc rfl
      · skip
        exfalso; exact hn (tk_rng (by decide) a0 (Int32.not_lt.mp a1))

set_option maxHeartbeats 4000000 in
set_option maxRecDepth 100000 in
theorem n3_Mo_blur (l : Launch) (D : va_G) (ct : Nat → ClassId) (ad : Nat → Nat) (hI : gw_inj 8 ad) (x : mS) (α : tA) (t0 : Int32) (hR : mR α t0 x) {u n : Nat} (hu : u < 120) (hut : aT α u = true) (hn : n ≤ 1000) (hbd : 1073741824 ≤ aB α u + 16 * n) : gMi l mY_Mo_blur mB_Mo_blur 6 (some .int) (rF 1 23) D (tT ct) gZ0 8 ad (mD ct ad) [.ref (ad 0), .int (nI u), .int (nI n)] x (fun _ x' => mR α 3 x') := by
  refine gMi_enter (by decide) (Nat.le_of_ble_eq_true rfl) ?_
  intro p e s m below meth c ls hx hb hr htw hown hlocks hml hl hP hK hZ hS
  have hA : ∀ k, k < 8 → gA 8 ad s.heap.size (ad k) := fun _ h => gA_in h
  have hl : lv_has ls 6 [(0, .ref (ad 0)), (1, .int (nI u)), (2, .int (nI n))] := hl
  refine lv_aload_n hx hb mD_Mo_blur_0 rfl (lv_at hl 0 rfl) ?_
  refine lv_iload_n hx hb mD_Mo_blur_1 rfl (lv_at hl 1 rfl) ?_
  refine gc_Vi (As := [.int (nI u)]) (rest := []) hx hb hml hown htw hK hP hS 0 (k_Mo_isBit l D ct ad hI x (u := u) hu (mR_th hR hu hut)) gZ0_ok (fun _ _ _ => trivial) (gA_mono hS.1) (by decide) rfl rfl ww_703 ww_705 ww_18 ww_33 wC_Mo_isBit mP_Mo_isBit (by decide) rfl hl.1 rfl (Nat.le_of_ble_eq_true rfl) mD_Mo_blur_2 ⟨Nat.le_of_ble_eq_true rfl, Nat.le_of_ble_eq_true rfl⟩ (fun r2 x1 H locs hp1 hP _ _ hS => ?_)
  obtain ⟨hq_, rfl⟩ := hp1
  rw [hq_] at hP
  refine lv_istore_n (lv' := [(3, .int (nI 1)), (0, .ref (ad 0)), (1, .int (nI u)), (2, .int (nI n))]) hx hb mD_Mo_blur_5 rfl hl (by decide) rfl (fun ls hl => ?_)
  have w1 := (hR.1 u hu).2 hut
  refine lv_iload_n hx hb mD_Mo_blur_6 rfl (lv_at hl 0 rfl) ?_
  refine lv_if_eq (tgt := 27) hx hb mD_Mo_blur_7 rfl (fun hc => ?_) (fun hc => ?_)
  · skip
    exfalso; exact absurd hc (by decide)
  · skip
    refine lv_aload_n hx hb mD_Mo_blur_10 rfl (lv_at hl 1 rfl) ?_
    refine m_get (C := cN_Mo) (T := cF_Mo) (N := 11) (ci := 8) hx hb htw wU_Mo hown hK hP 0 (by decide) rfl rfl 3 (by decide) rfl ww_643 rfl mD_Mo_blur_11 ?_
    refine lv_iload_n hx hb mD_Mo_blur_14 rfl (lv_at hl 2 rfl) ?_
    refine m_iald hx hb hK hP 3 120 (by decide) rfl u rfl (by omega) (by decide) mD_Mo_blur_15 ?_
    refine lv_i2l hx hb mD_Mo_blur_16 rfl ?_
    refine lv_ldc2 hx hb hown (htw _ ww_715) mD_Mo_blur_17 ?_
    refine lv_iload_n hx hb mD_Mo_blur_20 rfl (lv_at hl 3 rfl) ?_
    refine lv_i2l hx hb mD_Mo_blur_21 rfl ?_
    refine lv_lmul hx hb mD_Mo_blur_22 ?_
    refine lv_ladd hx hb mD_Mo_blur_23 ?_
    refine lv_goto (tgt := 28) hx hb mD_Mo_blur_24 rfl ?_
    rw [tn_blur w1.2.2 w1.1 hn]
    refine lv_lstore (lv' := [(4, .long (lN (aB α u + 16 * n))), (3, .int (nI 1)), (0, .ref (ad 0)), (1, .int (nI u)), (2, .int (nI n))]) hx hb mD_Mo_blur_28 hl (by decide) rfl (fun ls hl => ?_)
    refine lv_aload_n hx hb mD_Mo_blur_30 rfl (lv_at hl 2 rfl) ?_
    refine lv_iload_n hx hb mD_Mo_blur_31 rfl (lv_at hl 1 rfl) ?_
    refine lv_iload_n hx hb mD_Mo_blur_32 rfl (lv_at hl 4 rfl) ?_
    refine lv_if_lt (tgt := 47) hx hb mD_Mo_blur_33 rfl (fun hc => ?_) (fun hc => ?_)
    · skip
      exfalso; exact nI_pos (by omega) hc
    · skip
      refine lv_iload_n hx hb mD_Mo_blur_36 rfl (lv_at hl 4 rfl) ?_
      refine lv_sipush (v := nI 1000) hx hb mD_Mo_blur_37 (by decide) ?_
      refine lv_icmp_gt (tgt := 47) hx hb mD_Mo_blur_40 rfl (fun hc => ?_) (fun hc => ?_)
      · skip
        exfalso; exact nI_nlt (by omega) (by omega) hc
      · skip
        refine lv_iconst (v := nI 1) hx hb mD_Mo_blur_43 (by decide) ?_
        refine lv_goto (tgt := 48) hx hb mD_Mo_blur_44 rfl ?_
        refine lv_lload hx hb mD_Mo_blur_48 (lv_at hl 0 rfl) ?_
        refine lv_ldc2 hx hb hown (htw _ ww_716) mD_Mo_blur_50 ?_
        refine W.lcmp hx hb mD_Mo_blur_53 ?_
        refine lv_if_ge (tgt := 61) hx hb mD_Mo_blur_54 rfl (fun hc => ?_) (fun hc => ?_)
        · skip
          refine lv_iconst (v := nI 0) hx hb mD_Mo_blur_61 (by decide) ?_
          refine gc_Vi (As := [.int (nI 1), .int (nI 1), .int (nI 0)]) (rest := []) hx hb hml hown htw hK hP hS 0 (k_Mo_goes l D ct ad hI x (b1 := true) (b2 := true) (b3 := false) rfl rfl rfl) gZ0_ok (fun _ _ _ => trivial) (gA_mono hS.1) (by decide) rfl rfl ww_691 ww_693 ww_16 ww_33 wC_Mo_goes mP_Mo_goes (by decide) rfl hl.1 rfl (Nat.le_of_ble_eq_true rfl) mD_Mo_blur_62 ⟨Nat.le_of_ble_eq_true rfl, Nat.le_of_ble_eq_true rfl⟩ (fun r4 x3 H locs hp3 hP _ _ hS => ?_)
          obtain ⟨hy, rfl⟩ := hp3
          have R1 : mR (α) (mCode true true false) x3 := by rw [hy]; exact mR_code hR
          refine lv_if_eq (tgt := 78) hx hb mD_Mo_blur_65 rfl (fun hc => ?_) (fun hc => ?_)
          · skip
            refine lv_iconst (v := nI 0) hx hb mD_Mo_blur_78 (by decide) ?_
            exact gw_iret hx hb hr hlocks hP hS (R1) mD_Mo_blur_79 (Nat.zero_le _) (Nat.zero_le _)
          · skip
            exfalso; exact hc rfl
        · skip
          exfalso; exact hc (Int32.not_lt.mp (fun z => by have := (tl_ltn (m := 1073741824) (by have := w1.1; omega) (by decide)).mp z; omega))

set_option maxHeartbeats 4000000 in
set_option maxRecDepth 100000 in
theorem k_Mo_pile (l : Launch) (D : va_G) (ct : Nat → ClassId) (ad : Nat → Nat) (hI : gw_inj 8 ad) (x : mS) (α : tA) (t0 : Int32) (hR : mR α t0 x) {u n : Nat} (hu : u < 120) (hut : aT α u = true) (hn : n ≤ 100) (hbd : aB α u * (8 * n + 1) < 1073741824) : gMi l mY_Mo_pile mB_Mo_pile 6 (some .int) (rF 1 23) D (tT ct) gZ0 8 ad (mD ct ad) [.ref (ad 0), .int (nI u), .int (nI n)] x (fun r x' => r = nI (aB α u * (8 * n + 1)) ∧ mR (aBound α u (aB α u * (8 * n + 1))) 0 x') := by
  refine gMi_enter (by decide) (Nat.le_of_ble_eq_true rfl) ?_
  intro p e s m below meth c ls hx hb hr htw hown hlocks hml hl hP hK hZ hS
  have hA : ∀ k, k < 8 → gA 8 ad s.heap.size (ad k) := fun _ h => gA_in h
  have hl : lv_has ls 6 [(0, .ref (ad 0)), (1, .int (nI u)), (2, .int (nI n))] := hl
  refine lv_aload_n hx hb mD_Mo_pile_0 rfl (lv_at hl 0 rfl) ?_
  refine lv_iload_n hx hb mD_Mo_pile_1 rfl (lv_at hl 1 rfl) ?_
  refine gc_Vi (As := [.int (nI u)]) (rest := []) hx hb hml hown htw hK hP hS 0 (k_Mo_isBit l D ct ad hI x (u := u) hu (mR_th hR hu hut)) gZ0_ok (fun _ _ _ => trivial) (gA_mono hS.1) (by decide) rfl rfl ww_703 ww_705 ww_18 ww_33 wC_Mo_isBit mP_Mo_isBit (by decide) rfl hl.1 rfl (Nat.le_of_ble_eq_true rfl) mD_Mo_pile_2 ⟨Nat.le_of_ble_eq_true rfl, Nat.le_of_ble_eq_true rfl⟩ (fun r2 x1 H locs hp1 hP _ _ hS => ?_)
  obtain ⟨hq_, rfl⟩ := hp1
  rw [hq_] at hP
  refine lv_istore_n (lv' := [(3, .int (nI 1)), (0, .ref (ad 0)), (1, .int (nI u)), (2, .int (nI n))]) hx hb mD_Mo_pile_5 rfl hl (by decide) rfl (fun ls hl => ?_)
  have w1 := (hR.1 u hu).2 hut
  refine lv_iload_n hx hb mD_Mo_pile_6 rfl (lv_at hl 0 rfl) ?_
  refine lv_if_eq (tgt := 29) hx hb mD_Mo_pile_7 rfl (fun hc => ?_) (fun hc => ?_)
  · skip
    exfalso; exact absurd hc (by decide)
  · skip
    refine lv_aload_n hx hb mD_Mo_pile_10 rfl (lv_at hl 1 rfl) ?_
    refine m_get (C := cN_Mo) (T := cF_Mo) (N := 11) (ci := 8) hx hb htw wU_Mo hown hK hP 0 (by decide) rfl rfl 3 (by decide) rfl ww_643 rfl mD_Mo_pile_11 ?_
    refine lv_iload_n hx hb mD_Mo_pile_14 rfl (lv_at hl 2 rfl) ?_
    refine m_iald hx hb hK hP 3 120 (by decide) rfl u rfl (by omega) (by decide) mD_Mo_pile_15 ?_
    refine lv_i2l hx hb mD_Mo_pile_16 rfl ?_
    refine lv_ldc2 hx hb hown (htw _ ww_725) mD_Mo_pile_17 ?_
    refine lv_iload_n hx hb mD_Mo_pile_20 rfl (lv_at hl 3 rfl) ?_
    refine lv_i2l hx hb mD_Mo_pile_21 rfl ?_
    refine lv_lmul hx hb mD_Mo_pile_22 ?_
    refine lv_lconst (v := lN 1) hx hb mD_Mo_pile_23 (by decide) ?_
    refine lv_ladd hx hb mD_Mo_pile_24 ?_
    refine lv_lmul hx hb mD_Mo_pile_25 ?_
    refine lv_goto (tgt := 30) hx hb mD_Mo_pile_26 rfl ?_
    rw [tn_pile2 w1.2.2 w1.1 hn]
    refine lv_lstore (lv' := [(4, .long (lN (aB α u * (8 * n + 1)))), (3, .int (nI 1)), (0, .ref (ad 0)), (1, .int (nI u)), (2, .int (nI n))]) hx hb mD_Mo_pile_30 hl (by decide) rfl (fun ls hl => ?_)
    refine lv_aload_n hx hb mD_Mo_pile_32 rfl (lv_at hl 2 rfl) ?_
    refine lv_iload_n hx hb mD_Mo_pile_33 rfl (lv_at hl 1 rfl) ?_
    refine lv_iload_n hx hb mD_Mo_pile_34 rfl (lv_at hl 4 rfl) ?_
    refine lv_if_lt (tgt := 48) hx hb mD_Mo_pile_35 rfl (fun hc => ?_) (fun hc => ?_)
    · skip
      exfalso; exact nI_pos (by omega) hc
    · skip
      refine lv_iload_n hx hb mD_Mo_pile_38 rfl (lv_at hl 4 rfl) ?_
      refine lv_bipush (v := nI 100) hx hb mD_Mo_pile_39 (by decide) ?_
      refine lv_icmp_gt (tgt := 48) hx hb mD_Mo_pile_41 rfl (fun hc => ?_) (fun hc => ?_)
      · skip
        exfalso; exact nI_nlt (by omega) (by omega) hc
      · skip
        refine lv_iconst (v := nI 1) hx hb mD_Mo_pile_44 (by decide) ?_
        refine lv_goto (tgt := 49) hx hb mD_Mo_pile_45 rfl ?_
        refine lv_lload hx hb mD_Mo_pile_49 (lv_at hl 0 rfl) ?_
        refine lv_ldc2 hx hb hown (htw _ ww_716) mD_Mo_pile_51 ?_
        refine W.lcmp hx hb mD_Mo_pile_54 ?_
        refine lv_if_ge (tgt := 62) hx hb mD_Mo_pile_55 rfl (fun hc => ?_) (fun hc => ?_)
        · skip
          exfalso; exact Int32.not_le.mpr ((tl_ltn (m := 1073741824) (by omega) (by decide)).mpr hbd) hc
        · skip
          refine lv_iconst (v := nI 1) hx hb mD_Mo_pile_58 (by decide) ?_
          refine lv_goto (tgt := 63) hx hb mD_Mo_pile_59 rfl ?_
          refine gc_Vi (As := [.int (nI 1), .int (nI 1), .int (nI 1)]) (rest := []) hx hb hml hown htw hK hP hS 0 (k_Mo_goes l D ct ad hI x (b1 := true) (b2 := true) (b3 := true) rfl rfl rfl) gZ0_ok (fun _ _ _ => trivial) (gA_mono hS.1) (by decide) rfl rfl ww_691 ww_693 ww_16 ww_33 wC_Mo_goes mP_Mo_goes (by decide) rfl hl.1 rfl (Nat.le_of_ble_eq_true rfl) mD_Mo_pile_63 ⟨Nat.le_of_ble_eq_true rfl, Nat.le_of_ble_eq_true rfl⟩ (fun r4 x3 H locs hp3 hP _ _ hS => ?_)
          obtain ⟨hy, rfl⟩ := hp3
          have R1 : mR (α) (mCode true true true) x3 := by rw [hy]; exact mR_code hR
          refine lv_if_eq (tgt := 79) hx hb mD_Mo_pile_66 rfl (fun hc => ?_) (fun hc => ?_)
          · skip
            exfalso; exact absurd hc (by decide)
          · skip
            refine lv_aload_n hx hb mD_Mo_pile_69 rfl (lv_at hl 2 rfl) ?_
            refine lv_iload_n hx hb mD_Mo_pile_70 rfl (lv_at hl 3 rfl) ?_
            refine lv_lload hx hb mD_Mo_pile_71 (lv_at hl 0 rfl) ?_
            refine gc_Vi (As := [.int (nI u), .long (lN (aB α u * (8 * n + 1)))]) (rest := []) hx hb hml hown htw hK hP hS 0 (k_Mo_bounded l D ct ad hI x3 (u := u) (n := aB α u * (8 * n + 1)) hu) gZ0_ok (fun _ _ _ => trivial) (gA_mono hS.1) (by decide) rfl rfl ww_717 ww_719 ww_19 ww_33 wC_Mo_bounded mP_Mo_bounded (by decide) rfl hl.1 rfl (Nat.le_of_ble_eq_true rfl) mD_Mo_pile_73 ⟨Nat.le_of_ble_eq_true rfl, Nat.le_of_ble_eq_true rfl⟩ (fun r6 x5 H locs hp5 hP _ _ hS => ?_)
            obtain ⟨rfl, ey⟩ := hp5
            refine lv_goto (tgt := 80) hx hb mD_Mo_pile_76 rfl ?_
            exact gw_iret hx hb hr hlocks hP hS (⟨rfl, by rw [ey]; exact mR_bound R1 hbd⟩) mD_Mo_pile_80 (Nat.zero_le _) (Nat.zero_le _)

set_option maxHeartbeats 4000000 in
set_option maxRecDepth 100000 in
theorem n1_Mo_pile (l : Launch) (D : va_G) (ct : Nat → ClassId) (ad : Nat → Nat) (hI : gw_inj 8 ad) (x : mS) (α : tA) (t0 : Int32) (hR : mR α t0 x) (a b : Int32) (hh : ¬ aHas α a) : gMi l mY_Mo_pile mB_Mo_pile 6 (some .int) (rF 1 23) D (tT ct) gZ0 8 ad (mD ct ad) [.ref (ad 0), .int a, .int b] x (fun _ x' => mR α 1 x') := by
  refine gMi_enter (by decide) (Nat.le_of_ble_eq_true rfl) ?_
  intro p e s m below meth c ls hx hb hr htw hown hlocks hml hl hP hK hZ hS
  have hA : ∀ k, k < 8 → gA 8 ad s.heap.size (ad k) := fun _ h => gA_in h
  have hl : lv_has ls 6 [(0, .ref (ad 0)), (1, .int a), (2, .int b)] := hl
  refine lv_aload_n hx hb mD_Mo_pile_0 rfl (lv_at hl 0 rfl) ?_
  refine lv_iload_n hx hb mD_Mo_pile_1 rfl (lv_at hl 1 rfl) ?_
  refine gc_Vi (As := [.int a]) (rest := []) hx hb hml hown htw hK hP hS 0 (n_Mo_isBit l D ct ad hI x a (mR_no hR hh)) gZ0_ok (fun _ _ _ => trivial) (gA_mono hS.1) (by decide) rfl rfl ww_703 ww_705 ww_18 ww_33 wC_Mo_isBit mP_Mo_isBit (by decide) rfl hl.1 rfl (Nat.le_of_ble_eq_true rfl) mD_Mo_pile_2 ⟨Nat.le_of_ble_eq_true rfl, Nat.le_of_ble_eq_true rfl⟩ (fun r2 x1 H locs hp1 hP _ _ hS => ?_)
  obtain ⟨hq_, rfl⟩ := hp1
  rw [hq_] at hP
  refine lv_istore_n (lv' := [(3, .int (nI 0)), (0, .ref (ad 0)), (1, .int a), (2, .int b)]) hx hb mD_Mo_pile_5 rfl hl (by decide) rfl (fun ls hl => ?_)
  refine lv_iload_n hx hb mD_Mo_pile_6 rfl (lv_at hl 0 rfl) ?_
  refine lv_if_eq (tgt := 29) hx hb mD_Mo_pile_7 rfl (fun hc => ?_) (fun hc => ?_)
  · skip
    refine lv_lconst (v := lN 0) hx hb mD_Mo_pile_29 (by decide) ?_
    refine lv_lstore (lv' := [(4, .long (lN 0)), (3, .int (nI 0)), (0, .ref (ad 0)), (1, .int a), (2, .int b)]) hx hb mD_Mo_pile_30 hl (by decide) rfl (fun ls hl => ?_)
    refine lv_aload_n hx hb mD_Mo_pile_32 rfl (lv_at hl 2 rfl) ?_
    refine lv_iload_n hx hb mD_Mo_pile_33 rfl (lv_at hl 1 rfl) ?_
    refine lv_iload_n hx hb mD_Mo_pile_34 rfl (lv_at hl 4 rfl) ?_
    refine lv_if_lt (tgt := 48) hx hb mD_Mo_pile_35 rfl (fun hc => ?_) (fun hc => ?_)
    · skip
      refine lv_iconst (v := nI 0) hx hb mD_Mo_pile_48 (by decide) ?_
      refine lv_lload hx hb mD_Mo_pile_49 (lv_at hl 0 rfl) ?_
      refine lv_ldc2 hx hb hown (htw _ ww_716) mD_Mo_pile_51 ?_
      refine W.lcmp hx hb mD_Mo_pile_54 ?_
      refine lv_if_ge (tgt := 62) hx hb mD_Mo_pile_55 rfl (fun hc => ?_) (fun hc => ?_)
      · skip
        refine lv_iconst (v := nI 0) hx hb mD_Mo_pile_62 (by decide) ?_
        refine gc_Vi (As := [.int (nI 0), .int (nI 0), .int (nI 0)]) (rest := []) hx hb hml hown htw hK hP hS 0 (k_Mo_goes l D ct ad hI x (b1 := false) (b2 := false) (b3 := false) rfl rfl rfl) gZ0_ok (fun _ _ _ => trivial) (gA_mono hS.1) (by decide) rfl rfl ww_691 ww_693 ww_16 ww_33 wC_Mo_goes mP_Mo_goes (by decide) rfl hl.1 rfl (Nat.le_of_ble_eq_true rfl) mD_Mo_pile_63 ⟨Nat.le_of_ble_eq_true rfl, Nat.le_of_ble_eq_true rfl⟩ (fun r4 x3 H locs hp3 hP _ _ hS => ?_)
        obtain ⟨hy, rfl⟩ := hp3
        have R1 : mR (α) (mCode false false false) x3 := by rw [hy]; exact mR_code hR
        refine lv_if_eq (tgt := 79) hx hb mD_Mo_pile_66 rfl (fun hc => ?_) (fun hc => ?_)
        · skip
          refine lv_iconst (v := nI 0) hx hb mD_Mo_pile_79 (by decide) ?_
          exact gw_iret hx hb hr hlocks hP hS (R1) mD_Mo_pile_80 (Nat.zero_le _) (Nat.zero_le _)
        · skip
          exfalso; exact hc rfl
      · skip
        refine lv_iconst (v := nI 1) hx hb mD_Mo_pile_58 (by decide) ?_
        refine lv_goto (tgt := 63) hx hb mD_Mo_pile_59 rfl ?_
        refine gc_Vi (As := [.int (nI 0), .int (nI 0), .int (nI 1)]) (rest := []) hx hb hml hown htw hK hP hS 0 (k_Mo_goes l D ct ad hI x (b1 := false) (b2 := false) (b3 := true) rfl rfl rfl) gZ0_ok (fun _ _ _ => trivial) (gA_mono hS.1) (by decide) rfl rfl ww_691 ww_693 ww_16 ww_33 wC_Mo_goes mP_Mo_goes (by decide) rfl hl.1 rfl (Nat.le_of_ble_eq_true rfl) mD_Mo_pile_63 ⟨Nat.le_of_ble_eq_true rfl, Nat.le_of_ble_eq_true rfl⟩ (fun r6 x5 H locs hp5 hP _ _ hS => ?_)
        obtain ⟨hy, rfl⟩ := hp5
        have R1 : mR (α) (mCode false false true) x5 := by rw [hy]; exact mR_code hR
        refine lv_if_eq (tgt := 79) hx hb mD_Mo_pile_66 rfl (fun hc => ?_) (fun hc => ?_)
        · skip
          refine lv_iconst (v := nI 0) hx hb mD_Mo_pile_79 (by decide) ?_
          exact gw_iret hx hb hr hlocks hP hS (R1) mD_Mo_pile_80 (Nat.zero_le _) (Nat.zero_le _)
        · skip
          exfalso; exact hc rfl
    · skip
      refine lv_iload_n hx hb mD_Mo_pile_38 rfl (lv_at hl 4 rfl) ?_
      refine lv_bipush (v := nI 100) hx hb mD_Mo_pile_39 (by decide) ?_
      refine lv_icmp_gt (tgt := 48) hx hb mD_Mo_pile_41 rfl (fun hc => ?_) (fun hc => ?_)
      · skip
        refine lv_iconst (v := nI 0) hx hb mD_Mo_pile_48 (by decide) ?_
        refine lv_lload hx hb mD_Mo_pile_49 (lv_at hl 0 rfl) ?_
        refine lv_ldc2 hx hb hown (htw _ ww_716) mD_Mo_pile_51 ?_
        refine W.lcmp hx hb mD_Mo_pile_54 ?_
        refine lv_if_ge (tgt := 62) hx hb mD_Mo_pile_55 rfl (fun hc => ?_) (fun hc => ?_)
        · skip
          refine lv_iconst (v := nI 0) hx hb mD_Mo_pile_62 (by decide) ?_
          refine gc_Vi (As := [.int (nI 0), .int (nI 0), .int (nI 0)]) (rest := []) hx hb hml hown htw hK hP hS 0 (k_Mo_goes l D ct ad hI x (b1 := false) (b2 := false) (b3 := false) rfl rfl rfl) gZ0_ok (fun _ _ _ => trivial) (gA_mono hS.1) (by decide) rfl rfl ww_691 ww_693 ww_16 ww_33 wC_Mo_goes mP_Mo_goes (by decide) rfl hl.1 rfl (Nat.le_of_ble_eq_true rfl) mD_Mo_pile_63 ⟨Nat.le_of_ble_eq_true rfl, Nat.le_of_ble_eq_true rfl⟩ (fun r8 x7 H locs hp7 hP _ _ hS => ?_)
          obtain ⟨hy, rfl⟩ := hp7
          have R1 : mR (α) (mCode false false false) x7 := by rw [hy]; exact mR_code hR
          refine lv_if_eq (tgt := 79) hx hb mD_Mo_pile_66 rfl (fun hc => ?_) (fun hc => ?_)
          · skip
            refine lv_iconst (v := nI 0) hx hb mD_Mo_pile_79 (by decide) ?_
            exact gw_iret hx hb hr hlocks hP hS (R1) mD_Mo_pile_80 (Nat.zero_le _) (Nat.zero_le _)
          · skip
            exfalso; exact hc rfl
        · skip
          refine lv_iconst (v := nI 1) hx hb mD_Mo_pile_58 (by decide) ?_
          refine lv_goto (tgt := 63) hx hb mD_Mo_pile_59 rfl ?_
          refine gc_Vi (As := [.int (nI 0), .int (nI 0), .int (nI 1)]) (rest := []) hx hb hml hown htw hK hP hS 0 (k_Mo_goes l D ct ad hI x (b1 := false) (b2 := false) (b3 := true) rfl rfl rfl) gZ0_ok (fun _ _ _ => trivial) (gA_mono hS.1) (by decide) rfl rfl ww_691 ww_693 ww_16 ww_33 wC_Mo_goes mP_Mo_goes (by decide) rfl hl.1 rfl (Nat.le_of_ble_eq_true rfl) mD_Mo_pile_63 ⟨Nat.le_of_ble_eq_true rfl, Nat.le_of_ble_eq_true rfl⟩ (fun r10 x9 H locs hp9 hP _ _ hS => ?_)
          obtain ⟨hy, rfl⟩ := hp9
          have R1 : mR (α) (mCode false false true) x9 := by rw [hy]; exact mR_code hR
          refine lv_if_eq (tgt := 79) hx hb mD_Mo_pile_66 rfl (fun hc => ?_) (fun hc => ?_)
          · skip
            refine lv_iconst (v := nI 0) hx hb mD_Mo_pile_79 (by decide) ?_
            exact gw_iret hx hb hr hlocks hP hS (R1) mD_Mo_pile_80 (Nat.zero_le _) (Nat.zero_le _)
          · skip
            exfalso; exact hc rfl
      · skip
        refine lv_iconst (v := nI 1) hx hb mD_Mo_pile_44 (by decide) ?_
        refine lv_goto (tgt := 49) hx hb mD_Mo_pile_45 rfl ?_
        refine lv_lload hx hb mD_Mo_pile_49 (lv_at hl 0 rfl) ?_
        refine lv_ldc2 hx hb hown (htw _ ww_716) mD_Mo_pile_51 ?_
        refine W.lcmp hx hb mD_Mo_pile_54 ?_
        refine lv_if_ge (tgt := 62) hx hb mD_Mo_pile_55 rfl (fun hc => ?_) (fun hc => ?_)
        · skip
          refine lv_iconst (v := nI 0) hx hb mD_Mo_pile_62 (by decide) ?_
          refine gc_Vi (As := [.int (nI 0), .int (nI 1), .int (nI 0)]) (rest := []) hx hb hml hown htw hK hP hS 0 (k_Mo_goes l D ct ad hI x (b1 := false) (b2 := true) (b3 := false) rfl rfl rfl) gZ0_ok (fun _ _ _ => trivial) (gA_mono hS.1) (by decide) rfl rfl ww_691 ww_693 ww_16 ww_33 wC_Mo_goes mP_Mo_goes (by decide) rfl hl.1 rfl (Nat.le_of_ble_eq_true rfl) mD_Mo_pile_63 ⟨Nat.le_of_ble_eq_true rfl, Nat.le_of_ble_eq_true rfl⟩ (fun r12 x11 H locs hp11 hP _ _ hS => ?_)
          obtain ⟨hy, rfl⟩ := hp11
          have R1 : mR (α) (mCode false true false) x11 := by rw [hy]; exact mR_code hR
          refine lv_if_eq (tgt := 79) hx hb mD_Mo_pile_66 rfl (fun hc => ?_) (fun hc => ?_)
          · skip
            refine lv_iconst (v := nI 0) hx hb mD_Mo_pile_79 (by decide) ?_
            exact gw_iret hx hb hr hlocks hP hS (R1) mD_Mo_pile_80 (Nat.zero_le _) (Nat.zero_le _)
          · skip
            exfalso; exact hc rfl
        · skip
          refine lv_iconst (v := nI 1) hx hb mD_Mo_pile_58 (by decide) ?_
          refine lv_goto (tgt := 63) hx hb mD_Mo_pile_59 rfl ?_
          refine gc_Vi (As := [.int (nI 0), .int (nI 1), .int (nI 1)]) (rest := []) hx hb hml hown htw hK hP hS 0 (k_Mo_goes l D ct ad hI x (b1 := false) (b2 := true) (b3 := true) rfl rfl rfl) gZ0_ok (fun _ _ _ => trivial) (gA_mono hS.1) (by decide) rfl rfl ww_691 ww_693 ww_16 ww_33 wC_Mo_goes mP_Mo_goes (by decide) rfl hl.1 rfl (Nat.le_of_ble_eq_true rfl) mD_Mo_pile_63 ⟨Nat.le_of_ble_eq_true rfl, Nat.le_of_ble_eq_true rfl⟩ (fun r14 x13 H locs hp13 hP _ _ hS => ?_)
          obtain ⟨hy, rfl⟩ := hp13
          have R1 : mR (α) (mCode false true true) x13 := by rw [hy]; exact mR_code hR
          refine lv_if_eq (tgt := 79) hx hb mD_Mo_pile_66 rfl (fun hc => ?_) (fun hc => ?_)
          · skip
            refine lv_iconst (v := nI 0) hx hb mD_Mo_pile_79 (by decide) ?_
            exact gw_iret hx hb hr hlocks hP hS (R1) mD_Mo_pile_80 (Nat.zero_le _) (Nat.zero_le _)
          · skip
            exfalso; exact hc rfl
  · skip
    exfalso; exact hc rfl

set_option maxHeartbeats 4000000 in
set_option maxRecDepth 100000 in
theorem n2_Mo_pile (l : Launch) (D : va_G) (ct : Nat → ClassId) (ad : Nat → Nat) (hI : gw_inj 8 ad) (x : mS) (α : tA) (t0 : Int32) (hR : mR α t0 x) {u : Nat} (hu : u < 120) (hut : aT α u = true) (b : Int32) (hn : ¬ ∃ q, q ≤ 100 ∧ b = nI q) : gMi l mY_Mo_pile mB_Mo_pile 6 (some .int) (rF 1 23) D (tT ct) gZ0 8 ad (mD ct ad) [.ref (ad 0), .int (nI u), .int b] x (fun _ x' => mR α 2 x') := by
  refine gMi_enter (by decide) (Nat.le_of_ble_eq_true rfl) ?_
  intro p e s m below meth c ls hx hb hr htw hown hlocks hml hl hP hK hZ hS
  have hA : ∀ k, k < 8 → gA 8 ad s.heap.size (ad k) := fun _ h => gA_in h
  have hl : lv_has ls 6 [(0, .ref (ad 0)), (1, .int (nI u)), (2, .int b)] := hl
  refine lv_aload_n hx hb mD_Mo_pile_0 rfl (lv_at hl 0 rfl) ?_
  refine lv_iload_n hx hb mD_Mo_pile_1 rfl (lv_at hl 1 rfl) ?_
  refine gc_Vi (As := [.int (nI u)]) (rest := []) hx hb hml hown htw hK hP hS 0 (k_Mo_isBit l D ct ad hI x (u := u) hu (mR_th hR hu hut)) gZ0_ok (fun _ _ _ => trivial) (gA_mono hS.1) (by decide) rfl rfl ww_703 ww_705 ww_18 ww_33 wC_Mo_isBit mP_Mo_isBit (by decide) rfl hl.1 rfl (Nat.le_of_ble_eq_true rfl) mD_Mo_pile_2 ⟨Nat.le_of_ble_eq_true rfl, Nat.le_of_ble_eq_true rfl⟩ (fun r2 x1 H locs hp1 hP _ _ hS => ?_)
  obtain ⟨hq_, rfl⟩ := hp1
  rw [hq_] at hP
  refine lv_istore_n (lv' := [(3, .int (nI 1)), (0, .ref (ad 0)), (1, .int (nI u)), (2, .int b)]) hx hb mD_Mo_pile_5 rfl hl (by decide) rfl (fun ls hl => ?_)
  have w1 := (hR.1 u hu).2 hut
  refine lv_iload_n hx hb mD_Mo_pile_6 rfl (lv_at hl 0 rfl) ?_
  refine lv_if_eq (tgt := 29) hx hb mD_Mo_pile_7 rfl (fun hc => ?_) (fun hc => ?_)
  · skip
    exfalso; exact absurd hc (by decide)
  · skip
    refine lv_aload_n hx hb mD_Mo_pile_10 rfl (lv_at hl 1 rfl) ?_
    refine m_get (C := cN_Mo) (T := cF_Mo) (N := 11) (ci := 8) hx hb htw wU_Mo hown hK hP 0 (by decide) rfl rfl 3 (by decide) rfl ww_643 rfl mD_Mo_pile_11 ?_
    refine lv_iload_n hx hb mD_Mo_pile_14 rfl (lv_at hl 2 rfl) ?_
    refine m_iald hx hb hK hP 3 120 (by decide) rfl u rfl (by omega) (by decide) mD_Mo_pile_15 ?_
    refine lv_i2l hx hb mD_Mo_pile_16 rfl ?_
    refine lv_ldc2 hx hb hown (htw _ ww_725) mD_Mo_pile_17 ?_
    refine lv_iload_n hx hb mD_Mo_pile_20 rfl (lv_at hl 3 rfl) ?_
    refine lv_i2l hx hb mD_Mo_pile_21 rfl ?_
    refine lv_lmul hx hb mD_Mo_pile_22 ?_
    refine lv_lconst (v := lN 1) hx hb mD_Mo_pile_23 (by decide) ?_
    refine lv_ladd hx hb mD_Mo_pile_24 ?_
    refine lv_lmul hx hb mD_Mo_pile_25 ?_
    refine lv_goto (tgt := 30) hx hb mD_Mo_pile_26 rfl ?_
    refine lv_lstore (lv' := [(4, .long (((x 3 u).toInt64) * ((((8 : Int64)) * b.toInt64) + (lN 1)))), (3, .int (nI 1)), (0, .ref (ad 0)), (1, .int (nI u)), (2, .int b)]) hx hb mD_Mo_pile_30 hl (by decide) rfl (fun ls hl => ?_)
    refine lv_aload_n hx hb mD_Mo_pile_32 rfl (lv_at hl 2 rfl) ?_
    refine lv_iload_n hx hb mD_Mo_pile_33 rfl (lv_at hl 1 rfl) ?_
    refine lv_iload_n hx hb mD_Mo_pile_34 rfl (lv_at hl 4 rfl) ?_
    refine lv_if_lt (tgt := 48) hx hb mD_Mo_pile_35 rfl (fun a0 => ?_) (fun a0 => ?_)
    · skip
      refine lv_iconst (v := nI 0) hx hb mD_Mo_pile_48 (by decide) ?_
      refine lv_lload hx hb mD_Mo_pile_49 (lv_at hl 0 rfl) ?_
      refine lv_ldc2 hx hb hown (htw _ ww_716) mD_Mo_pile_51 ?_
      refine W.lcmp hx hb mD_Mo_pile_54 ?_
      refine lv_if_ge (tgt := 62) hx hb mD_Mo_pile_55 rfl (fun hc => ?_) (fun hc => ?_)
      · skip
        refine lv_iconst (v := nI 0) hx hb mD_Mo_pile_62 (by decide) ?_
        refine gc_Vi (As := [.int (nI 1), .int (nI 0), .int (nI 0)]) (rest := []) hx hb hml hown htw hK hP hS 0 (k_Mo_goes l D ct ad hI x (b1 := true) (b2 := false) (b3 := false) rfl rfl rfl) gZ0_ok (fun _ _ _ => trivial) (gA_mono hS.1) (by decide) rfl rfl ww_691 ww_693 ww_16 ww_33 wC_Mo_goes mP_Mo_goes (by decide) rfl hl.1 rfl (Nat.le_of_ble_eq_true rfl) mD_Mo_pile_63 ⟨Nat.le_of_ble_eq_true rfl, Nat.le_of_ble_eq_true rfl⟩ (fun r4 x3 H locs hp3 hP _ _ hS => ?_)
        obtain ⟨hy, rfl⟩ := hp3
        have R1 : mR (α) (mCode true false false) x3 := by rw [hy]; exact mR_code hR
        refine lv_if_eq (tgt := 79) hx hb mD_Mo_pile_66 rfl (fun hc => ?_) (fun hc => ?_)
        · skip
          refine lv_iconst (v := nI 0) hx hb mD_Mo_pile_79 (by decide) ?_
          exact gw_iret hx hb hr hlocks hP hS (R1) mD_Mo_pile_80 (Nat.zero_le _) (Nat.zero_le _)
        · skip
          exfalso; exact hc rfl
      · skip
        refine lv_iconst (v := nI 1) hx hb mD_Mo_pile_58 (by decide) ?_
        refine lv_goto (tgt := 63) hx hb mD_Mo_pile_59 rfl ?_
        refine gc_Vi (As := [.int (nI 1), .int (nI 0), .int (nI 1)]) (rest := []) hx hb hml hown htw hK hP hS 0 (k_Mo_goes l D ct ad hI x (b1 := true) (b2 := false) (b3 := true) rfl rfl rfl) gZ0_ok (fun _ _ _ => trivial) (gA_mono hS.1) (by decide) rfl rfl ww_691 ww_693 ww_16 ww_33 wC_Mo_goes mP_Mo_goes (by decide) rfl hl.1 rfl (Nat.le_of_ble_eq_true rfl) mD_Mo_pile_63 ⟨Nat.le_of_ble_eq_true rfl, Nat.le_of_ble_eq_true rfl⟩ (fun r6 x5 H locs hp5 hP _ _ hS => ?_)
        obtain ⟨hy, rfl⟩ := hp5
        have R1 : mR (α) (mCode true false true) x5 := by rw [hy]; exact mR_code hR
        refine lv_if_eq (tgt := 79) hx hb mD_Mo_pile_66 rfl (fun hc => ?_) (fun hc => ?_)
        · skip
          refine lv_iconst (v := nI 0) hx hb mD_Mo_pile_79 (by decide) ?_
          exact gw_iret hx hb hr hlocks hP hS (R1) mD_Mo_pile_80 (Nat.zero_le _) (Nat.zero_le _)
        · skip
          exfalso; exact hc rfl
    · skip
      refine lv_iload_n hx hb mD_Mo_pile_38 rfl (lv_at hl 4 rfl) ?_
      refine lv_bipush (v := nI 100) hx hb mD_Mo_pile_39 (by decide) ?_
      refine lv_icmp_gt (tgt := 48) hx hb mD_Mo_pile_41 rfl (fun a1 => ?_) (fun a1 => ?_)
      · skip
        refine lv_iconst (v := nI 0) hx hb mD_Mo_pile_48 (by decide) ?_
        refine lv_lload hx hb mD_Mo_pile_49 (lv_at hl 0 rfl) ?_
        refine lv_ldc2 hx hb hown (htw _ ww_716) mD_Mo_pile_51 ?_
        refine W.lcmp hx hb mD_Mo_pile_54 ?_
        refine lv_if_ge (tgt := 62) hx hb mD_Mo_pile_55 rfl (fun hc => ?_) (fun hc => ?_)
        · skip
          refine lv_iconst (v := nI 0) hx hb mD_Mo_pile_62 (by decide) ?_
          refine gc_Vi (As := [.int (nI 1), .int (nI 0), .int (nI 0)]) (rest := []) hx hb hml hown htw hK hP hS 0 (k_Mo_goes l D ct ad hI x (b1 := true) (b2 := false) (b3 := false) rfl rfl rfl) gZ0_ok (fun _ _ _ => trivial) (gA_mono hS.1) (by decide) rfl rfl ww_691 ww_693 ww_16 ww_33 wC_Mo_goes mP_Mo_goes (by decide) rfl hl.1 rfl (Nat.le_of_ble_eq_true rfl) mD_Mo_pile_63 ⟨Nat.le_of_ble_eq_true rfl, Nat.le_of_ble_eq_true rfl⟩ (fun r8 x7 H locs hp7 hP _ _ hS => ?_)
          obtain ⟨hy, rfl⟩ := hp7
          have R1 : mR (α) (mCode true false false) x7 := by rw [hy]; exact mR_code hR
          refine lv_if_eq (tgt := 79) hx hb mD_Mo_pile_66 rfl (fun hc => ?_) (fun hc => ?_)
          · skip
            refine lv_iconst (v := nI 0) hx hb mD_Mo_pile_79 (by decide) ?_
            exact gw_iret hx hb hr hlocks hP hS (R1) mD_Mo_pile_80 (Nat.zero_le _) (Nat.zero_le _)
          · skip
            exfalso; exact hc rfl
        · skip
          refine lv_iconst (v := nI 1) hx hb mD_Mo_pile_58 (by decide) ?_
          refine lv_goto (tgt := 63) hx hb mD_Mo_pile_59 rfl ?_
          refine gc_Vi (As := [.int (nI 1), .int (nI 0), .int (nI 1)]) (rest := []) hx hb hml hown htw hK hP hS 0 (k_Mo_goes l D ct ad hI x (b1 := true) (b2 := false) (b3 := true) rfl rfl rfl) gZ0_ok (fun _ _ _ => trivial) (gA_mono hS.1) (by decide) rfl rfl ww_691 ww_693 ww_16 ww_33 wC_Mo_goes mP_Mo_goes (by decide) rfl hl.1 rfl (Nat.le_of_ble_eq_true rfl) mD_Mo_pile_63 ⟨Nat.le_of_ble_eq_true rfl, Nat.le_of_ble_eq_true rfl⟩ (fun r10 x9 H locs hp9 hP _ _ hS => ?_)
          obtain ⟨hy, rfl⟩ := hp9
          have R1 : mR (α) (mCode true false true) x9 := by rw [hy]; exact mR_code hR
          refine lv_if_eq (tgt := 79) hx hb mD_Mo_pile_66 rfl (fun hc => ?_) (fun hc => ?_)
          · skip
            refine lv_iconst (v := nI 0) hx hb mD_Mo_pile_79 (by decide) ?_
            exact gw_iret hx hb hr hlocks hP hS (R1) mD_Mo_pile_80 (Nat.zero_le _) (Nat.zero_le _)
          · skip
            exfalso; exact hc rfl
      · skip
        exfalso; exact hn (tk_rng (by decide) a0 (Int32.not_lt.mp a1))

set_option maxHeartbeats 4000000 in
set_option maxRecDepth 100000 in
theorem n3_Mo_pile (l : Launch) (D : va_G) (ct : Nat → ClassId) (ad : Nat → Nat) (hI : gw_inj 8 ad) (x : mS) (α : tA) (t0 : Int32) (hR : mR α t0 x) {u n : Nat} (hu : u < 120) (hut : aT α u = true) (hn : n ≤ 100) (hbd : 1073741824 ≤ aB α u * (8 * n + 1)) : gMi l mY_Mo_pile mB_Mo_pile 6 (some .int) (rF 1 23) D (tT ct) gZ0 8 ad (mD ct ad) [.ref (ad 0), .int (nI u), .int (nI n)] x (fun _ x' => mR α 3 x') := by
  refine gMi_enter (by decide) (Nat.le_of_ble_eq_true rfl) ?_
  intro p e s m below meth c ls hx hb hr htw hown hlocks hml hl hP hK hZ hS
  have hA : ∀ k, k < 8 → gA 8 ad s.heap.size (ad k) := fun _ h => gA_in h
  have hl : lv_has ls 6 [(0, .ref (ad 0)), (1, .int (nI u)), (2, .int (nI n))] := hl
  refine lv_aload_n hx hb mD_Mo_pile_0 rfl (lv_at hl 0 rfl) ?_
  refine lv_iload_n hx hb mD_Mo_pile_1 rfl (lv_at hl 1 rfl) ?_
  refine gc_Vi (As := [.int (nI u)]) (rest := []) hx hb hml hown htw hK hP hS 0 (k_Mo_isBit l D ct ad hI x (u := u) hu (mR_th hR hu hut)) gZ0_ok (fun _ _ _ => trivial) (gA_mono hS.1) (by decide) rfl rfl ww_703 ww_705 ww_18 ww_33 wC_Mo_isBit mP_Mo_isBit (by decide) rfl hl.1 rfl (Nat.le_of_ble_eq_true rfl) mD_Mo_pile_2 ⟨Nat.le_of_ble_eq_true rfl, Nat.le_of_ble_eq_true rfl⟩ (fun r2 x1 H locs hp1 hP _ _ hS => ?_)
  obtain ⟨hq_, rfl⟩ := hp1
  rw [hq_] at hP
  refine lv_istore_n (lv' := [(3, .int (nI 1)), (0, .ref (ad 0)), (1, .int (nI u)), (2, .int (nI n))]) hx hb mD_Mo_pile_5 rfl hl (by decide) rfl (fun ls hl => ?_)
  have w1 := (hR.1 u hu).2 hut
  refine lv_iload_n hx hb mD_Mo_pile_6 rfl (lv_at hl 0 rfl) ?_
  refine lv_if_eq (tgt := 29) hx hb mD_Mo_pile_7 rfl (fun hc => ?_) (fun hc => ?_)
  · skip
    exfalso; exact absurd hc (by decide)
  · skip
    refine lv_aload_n hx hb mD_Mo_pile_10 rfl (lv_at hl 1 rfl) ?_
    refine m_get (C := cN_Mo) (T := cF_Mo) (N := 11) (ci := 8) hx hb htw wU_Mo hown hK hP 0 (by decide) rfl rfl 3 (by decide) rfl ww_643 rfl mD_Mo_pile_11 ?_
    refine lv_iload_n hx hb mD_Mo_pile_14 rfl (lv_at hl 2 rfl) ?_
    refine m_iald hx hb hK hP 3 120 (by decide) rfl u rfl (by omega) (by decide) mD_Mo_pile_15 ?_
    refine lv_i2l hx hb mD_Mo_pile_16 rfl ?_
    refine lv_ldc2 hx hb hown (htw _ ww_725) mD_Mo_pile_17 ?_
    refine lv_iload_n hx hb mD_Mo_pile_20 rfl (lv_at hl 3 rfl) ?_
    refine lv_i2l hx hb mD_Mo_pile_21 rfl ?_
    refine lv_lmul hx hb mD_Mo_pile_22 ?_
    refine lv_lconst (v := lN 1) hx hb mD_Mo_pile_23 (by decide) ?_
    refine lv_ladd hx hb mD_Mo_pile_24 ?_
    refine lv_lmul hx hb mD_Mo_pile_25 ?_
    refine lv_goto (tgt := 30) hx hb mD_Mo_pile_26 rfl ?_
    rw [tn_pile2 w1.2.2 w1.1 hn]
    refine lv_lstore (lv' := [(4, .long (lN (aB α u * (8 * n + 1)))), (3, .int (nI 1)), (0, .ref (ad 0)), (1, .int (nI u)), (2, .int (nI n))]) hx hb mD_Mo_pile_30 hl (by decide) rfl (fun ls hl => ?_)
    refine lv_aload_n hx hb mD_Mo_pile_32 rfl (lv_at hl 2 rfl) ?_
    refine lv_iload_n hx hb mD_Mo_pile_33 rfl (lv_at hl 1 rfl) ?_
    refine lv_iload_n hx hb mD_Mo_pile_34 rfl (lv_at hl 4 rfl) ?_
    refine lv_if_lt (tgt := 48) hx hb mD_Mo_pile_35 rfl (fun hc => ?_) (fun hc => ?_)
    · skip
      exfalso; exact nI_pos (by omega) hc
    · skip
      refine lv_iload_n hx hb mD_Mo_pile_38 rfl (lv_at hl 4 rfl) ?_
      refine lv_bipush (v := nI 100) hx hb mD_Mo_pile_39 (by decide) ?_
      refine lv_icmp_gt (tgt := 48) hx hb mD_Mo_pile_41 rfl (fun hc => ?_) (fun hc => ?_)
      · skip
        exfalso; exact nI_nlt (by omega) (by omega) hc
      · skip
        refine lv_iconst (v := nI 1) hx hb mD_Mo_pile_44 (by decide) ?_
        refine lv_goto (tgt := 49) hx hb mD_Mo_pile_45 rfl ?_
        refine lv_lload hx hb mD_Mo_pile_49 (lv_at hl 0 rfl) ?_
        refine lv_ldc2 hx hb hown (htw _ ww_716) mD_Mo_pile_51 ?_
        refine W.lcmp hx hb mD_Mo_pile_54 ?_
        refine lv_if_ge (tgt := 62) hx hb mD_Mo_pile_55 rfl (fun hc => ?_) (fun hc => ?_)
        · skip
          refine lv_iconst (v := nI 0) hx hb mD_Mo_pile_62 (by decide) ?_
          refine gc_Vi (As := [.int (nI 1), .int (nI 1), .int (nI 0)]) (rest := []) hx hb hml hown htw hK hP hS 0 (k_Mo_goes l D ct ad hI x (b1 := true) (b2 := true) (b3 := false) rfl rfl rfl) gZ0_ok (fun _ _ _ => trivial) (gA_mono hS.1) (by decide) rfl rfl ww_691 ww_693 ww_16 ww_33 wC_Mo_goes mP_Mo_goes (by decide) rfl hl.1 rfl (Nat.le_of_ble_eq_true rfl) mD_Mo_pile_63 ⟨Nat.le_of_ble_eq_true rfl, Nat.le_of_ble_eq_true rfl⟩ (fun r4 x3 H locs hp3 hP _ _ hS => ?_)
          obtain ⟨hy, rfl⟩ := hp3
          have R1 : mR (α) (mCode true true false) x3 := by rw [hy]; exact mR_code hR
          refine lv_if_eq (tgt := 79) hx hb mD_Mo_pile_66 rfl (fun hc => ?_) (fun hc => ?_)
          · skip
            refine lv_iconst (v := nI 0) hx hb mD_Mo_pile_79 (by decide) ?_
            exact gw_iret hx hb hr hlocks hP hS (R1) mD_Mo_pile_80 (Nat.zero_le _) (Nat.zero_le _)
          · skip
            exfalso; exact hc rfl
        · skip
          exfalso; exact hc (Int32.not_lt.mp (fun z => by have := (tl_ltn (m := 1073741824) (tn_plt w1.1 hn) (by decide)).mp z; omega))

set_option maxHeartbeats 4000000 in
set_option maxRecDepth 100000 in
theorem k_Mo_gate (l : Launch) (D : va_G) (ct : Nat → ClassId) (ad : Nat → Nat) (hI : gw_inj 8 ad) (x : mS) (α : tA) (t0 : Int32) (hR : mR α t0 x) {gt u1 u2 : Nat} (hgt : gt < 8) (hu1 : u1 < 120) (hut1 : aT α u1 = true) (hu2 : u2 < 120) (hut2 : aT α u2 = true) {q : Nat} (hfar : ¬ tp_far gt (aB α u1) (aB α u2)) (hf : aFree α q) : gMi l mY_Mo_gate mB_Mo_gate 6 (some .int) (rF 1 25) D (tT ct) gZ0 8 ad (mD ct ad) [.ref (ad 0), .int (nI gt), .int (nI u1), .int (nI u2)] x (fun r x' => r = nI q ∧ mR (aGates (aMade α q (tp_truth gt (aV α u1) (aV α u2)) 3186688) (aG α + 1)) 0 x') := by
  refine gMi_enter (by decide) (Nat.le_of_ble_eq_true rfl) ?_
  intro p e s m below meth c ls hx hb hr htw hown hlocks hml hl hP hK hZ hS
  have hA : ∀ k, k < 8 → gA 8 ad s.heap.size (ad k) := fun _ h => gA_in h
  have hl : lv_has ls 6 [(0, .ref (ad 0)), (1, .int (nI gt)), (2, .int (nI u1)), (3, .int (nI u2))] := hl
  refine lv_iload_n hx hb mD_Mo_gate_0 rfl (lv_at hl 1 rfl) ?_
  refine gc_Si (As := [.int (nI gt)]) (rest := []) hx hb hml hown htw hK hP hS (k_Mo_isGate l D ct ad hI x (q := gt) hgt) gZ0_ok (fun _ _ _ => trivial) (gA_mono hS.1) ww_730 ww_731 ww_33 wC_Mo_isGate mP_Mo_isGate (by decide) rfl hl.1 rfl (Nat.le_of_ble_eq_true rfl) mD_Mo_gate_1 ⟨Nat.le_of_ble_eq_true rfl, Nat.le_of_ble_eq_true rfl⟩ (fun r2 x1 H locs hp1 hP _ _ hS => ?_)
  obtain ⟨hq_, rfl⟩ := hp1
  rw [hq_] at hP
  refine lv_if_eq (tgt := 27) hx hb mD_Mo_gate_4 rfl (fun hc => ?_) (fun hc => ?_)
  · skip
    exfalso; exact absurd hc (by decide)
  · skip
    refine lv_aload_n hx hb mD_Mo_gate_7 rfl (lv_at hl 0 rfl) ?_
    refine lv_iload_n hx hb mD_Mo_gate_8 rfl (lv_at hl 2 rfl) ?_
    refine gc_Vi (As := [.int (nI u1)]) (rest := []) hx hb hml hown htw hK hP hS 0 (k_Mo_isBit l D ct ad hI x (u := u1) hu1 (mR_th hR hu1 hut1)) gZ0_ok (fun _ _ _ => trivial) (gA_mono hS.1) (by decide) rfl rfl ww_703 ww_705 ww_18 ww_33 wC_Mo_isBit mP_Mo_isBit (by decide) rfl hl.1 rfl (Nat.le_of_ble_eq_true rfl) mD_Mo_gate_9 ⟨Nat.le_of_ble_eq_true rfl, Nat.le_of_ble_eq_true rfl⟩ (fun r4 x3 H locs hp3 hP _ _ hS => ?_)
    obtain ⟨hq_, rfl⟩ := hp3
    rw [hq_] at hP
    refine lv_if_eq (tgt := 27) hx hb mD_Mo_gate_12 rfl (fun hc => ?_) (fun hc => ?_)
    · skip
      exfalso; exact absurd hc (by decide)
    · skip
      refine lv_aload_n hx hb mD_Mo_gate_15 rfl (lv_at hl 0 rfl) ?_
      refine lv_iload_n hx hb mD_Mo_gate_16 rfl (lv_at hl 3 rfl) ?_
      refine gc_Vi (As := [.int (nI u2)]) (rest := []) hx hb hml hown htw hK hP hS 0 (k_Mo_isBit l D ct ad hI x (u := u2) hu2 (mR_th hR hu2 hut2)) gZ0_ok (fun _ _ _ => trivial) (gA_mono hS.1) (by decide) rfl rfl ww_703 ww_705 ww_18 ww_33 wC_Mo_isBit mP_Mo_isBit (by decide) rfl hl.1 rfl (Nat.le_of_ble_eq_true rfl) mD_Mo_gate_17 ⟨Nat.le_of_ble_eq_true rfl, Nat.le_of_ble_eq_true rfl⟩ (fun r6 x5 H locs hp5 hP _ _ hS => ?_)
      obtain ⟨hq_, rfl⟩ := hp5
      rw [hq_] at hP
      refine lv_if_eq (tgt := 27) hx hb mD_Mo_gate_20 rfl (fun hc => ?_) (fun hc => ?_)
      · skip
        exfalso; exact absurd hc (by decide)
      · skip
        refine lv_iconst (v := nI 1) hx hb mD_Mo_gate_23 (by decide) ?_
        refine lv_goto (tgt := 28) hx hb mD_Mo_gate_24 rfl ?_
        refine lv_istore (lv' := [(4, .int (nI 1)), (0, .ref (ad 0)), (1, .int (nI gt)), (2, .int (nI u1)), (3, .int (nI u2))]) hx hb mD_Mo_gate_28 hl (by decide) rfl (fun ls hl => ?_)
        refine lv_iload hx hb mD_Mo_gate_30 (lv_at hl 0 rfl) ?_
        refine lv_if_eq (tgt := 49) hx hb mD_Mo_gate_32 rfl (fun hc => ?_) (fun hc => ?_)
        · skip
          exfalso; exact absurd hc (by decide)
        · skip
          have w1 := (hR.1 u1 hu1).2 hut1
          have w2 := (hR.1 u2 hu2).2 hut2
          refine lv_aload_n hx hb mD_Mo_gate_35 rfl (lv_at hl 1 rfl) ?_
          refine lv_iload_n hx hb mD_Mo_gate_36 rfl (lv_at hl 2 rfl) ?_
          refine lv_iload_n hx hb mD_Mo_gate_37 rfl (lv_at hl 3 rfl) ?_
          refine lv_iload_n hx hb mD_Mo_gate_38 rfl (lv_at hl 4 rfl) ?_
          refine gc_Vi (As := [.int (nI gt), .int (nI u1), .int (nI u2)]) (rest := []) hx hb hml hown htw hK hP hS 0 (k_Mo_great l D ct ad hI x (gt := gt) hgt hu1 hu2 w1.2.2 w2.2.2 w1.1 w2.1) gZ0_ok (fun _ _ _ => trivial) (gA_mono hS.1) (by decide) rfl rfl ww_733 ww_735 ww_20 ww_33 wC_Mo_great mP_Mo_great (by decide) rfl hl.1 rfl (Nat.le_of_ble_eq_true rfl) mD_Mo_gate_39 ⟨Nat.le_of_ble_eq_true rfl, Nat.le_of_ble_eq_true rfl⟩ (fun r8 x7 H locs hp7 hP _ _ hS => ?_)
          obtain ⟨hq_, hr_⟩ := hp7
          rw [hq_] at hP
          have er : r8 = nI 0 := by rcases hr_ with ⟨_, h⟩ | ⟨e, _⟩; exact absurd h hfar; exact e
          subst er
          refine lv_if_eq (tgt := 49) hx hb mD_Mo_gate_42 rfl (fun hc => ?_) (fun hc => ?_)
          · skip
            refine lv_iconst (v := nI 0) hx hb mD_Mo_gate_49 (by decide) ?_
            refine lv_istore (lv' := [(5, .int (nI 0)), (4, .int (nI 1)), (0, .ref (ad 0)), (1, .int (nI gt)), (2, .int (nI u1)), (3, .int (nI u2))]) hx hb mD_Mo_gate_50 hl (by decide) rfl (fun ls hl => ?_)
            refine lv_aload_n hx hb mD_Mo_gate_52 rfl (lv_at hl 2 rfl) ?_
            refine lv_iload hx hb mD_Mo_gate_53 (lv_at hl 0 rfl) ?_
            refine lv_if_eq (tgt := 67) hx hb mD_Mo_gate_55 rfl (fun hc => ?_) (fun hc => ?_)
            · skip
              refine lv_aload_n hx hb mD_Mo_gate_67 rfl (lv_at hl 2 rfl) ?_
              refine m_get (C := cN_Mo) (T := cF_Mo) (N := 11) (ci := 8) hx hb htw wU_Mo hown hK hP 0 (by decide) rfl rfl 5 (by decide) rfl ww_645 rfl mD_Mo_gate_68 ?_
              refine m_put (C := cN_Mo) (T := cF_Mo) (N := 11) (ci := 8) hx hb htw wU_Mo cT_Mo cO_Mo cM_Mo hown hK hI hA hP hS 0 (by decide) rfl rfl 5 (by decide) rfl ww_645 rfl rfl rfl (Nat.le_of_ble_eq_true rfl) rfl mD_Mo_gate_71 (fun H locs hP hS => ?_)
              obtain ⟨x9, hx9⟩ : ∃ z_, z_ = va_up x 0 (upd (x 0) 5 (x 0 5)) := ⟨_, rfl⟩
              rw [← hx9] at hP
              have R0 : mR α t0 x9 := by rw [hx9]; exact mR_ref0 hR
              refine lv_aload_n hx hb mD_Mo_gate_74 rfl (lv_at hl 2 rfl) ?_
              refine lv_iload hx hb mD_Mo_gate_75 (lv_at hl 1 rfl) ?_
              refine lv_iload hx hb mD_Mo_gate_77 (lv_at hl 0 rfl) ?_
              refine lv_if_ne (tgt := 95) hx hb mD_Mo_gate_79 rfl (fun hc => ?_) (fun hc => ?_)
              · skip
                exfalso; exact hc rfl
              · skip
                refine lv_aload_n hx hb mD_Mo_gate_82 rfl (lv_at hl 2 rfl) ?_
                refine gc_Vi (As := []) (rest := [.int (nI 1), .ref (ad 0)]) hx hb hml hown htw hK hP hS 0 (k_Mo_many l D ct ad hI x9 (f := aT α) (fun q hq => (R0.1 q hq).1)) gZ0_ok (fun _ _ _ => trivial) (gA_mono hS.1) (by decide) rfl rfl ww_683 ww_685 ww_15 ww_33 wC_Mo_many mP_Mo_many (by decide) rfl hl.1 rfl (Nat.le_of_ble_eq_true rfl) mD_Mo_gate_83 ⟨Nat.le_of_ble_eq_true rfl, Nat.le_of_ble_eq_true rfl⟩ (fun r11 x10 H locs hp10 hP _ _ hS => ?_)
                obtain ⟨hq_, rfl⟩ := hp10
                rw [hq_] at hP
                refine lv_bipush (v := nI 120) hx hb mD_Mo_gate_86 (by decide) ?_
                refine lv_icmp_ge (tgt := 95) hx hb mD_Mo_gate_88 rfl (fun hc => ?_) (fun hc => ?_)
                · skip
                  exfalso; exact tm_free hf hc
                · skip
                  refine lv_iconst (v := nI 1) hx hb mD_Mo_gate_91 (by decide) ?_
                  refine lv_goto (tgt := 96) hx hb mD_Mo_gate_92 rfl ?_
                  refine lv_iconst (v := nI 1) hx hb mD_Mo_gate_96 (by decide) ?_
                  refine gc_Vi (As := [.int (nI 1), .int (nI 1), .int (nI 1)]) (rest := []) hx hb hml hown htw hK hP hS 0 (k_Mo_goes l D ct ad hI x9 (b1 := true) (b2 := true) (b3 := true) rfl rfl rfl) gZ0_ok (fun _ _ _ => trivial) (gA_mono hS.1) (by decide) rfl rfl ww_691 ww_693 ww_16 ww_33 wC_Mo_goes mP_Mo_goes (by decide) rfl hl.1 rfl (Nat.le_of_ble_eq_true rfl) mD_Mo_gate_97 ⟨Nat.le_of_ble_eq_true rfl, Nat.le_of_ble_eq_true rfl⟩ (fun r13 x12 H locs hp12 hP _ _ hS => ?_)
                  obtain ⟨hy, rfl⟩ := hp12
                  have R1 : mR (α) (mCode true true true) x12 := by rw [hy]; exact mR_code R0
                  refine lv_if_ne (tgt := 105) hx hb mD_Mo_gate_100 rfl (fun hc => ?_) (fun hc => ?_)
                  · skip
                    refine lv_aload_n hx hb mD_Mo_gate_105 rfl (lv_at hl 2 rfl) ?_
                    refine lv_dup hx hb mD_Mo_gate_106 rfl ?_
                    refine m_get (C := cN_Mo) (T := cF_Mo) (N := 11) (ci := 8) hx hb htw wU_Mo hown hK hP 0 (by decide) rfl rfl 4 (by decide) rfl ww_644 rfl mD_Mo_gate_107 ?_
                    refine lv_iconst (v := nI 1) hx hb mD_Mo_gate_110 (by decide) ?_
                    refine lv_iadd hx hb mD_Mo_gate_111 ?_
                    refine m_put (C := cN_Mo) (T := cF_Mo) (N := 11) (ci := 8) hx hb htw wU_Mo cT_Mo cO_Mo cM_Mo hown hK hI hA hP hS 0 (by decide) rfl rfl 4 (by decide) rfl ww_644 rfl rfl rfl (Nat.le_of_ble_eq_true rfl) rfl mD_Mo_gate_112 (fun H locs hP hS => ?_)
                    obtain ⟨x14, hx14⟩ : ∃ z_, z_ = va_up x12 0 (upd (x12 0) 4 ((x12 0 4) + (nI 1))) := ⟨_, rfl⟩
                    rw [← hx14] at hP
                    have R2 : mR (aGates α (aG α + 1)) 0 x14 := by rw [hx14, R1.2.1]; exact mR_gates R1
                    have v1 := (R2.1 u1 hu1).2 hut1
                    have v2 := (R2.1 u2 hu2).2 hut2
                    refine lv_aload_n hx hb mD_Mo_gate_115 rfl (lv_at hl 2 rfl) ?_
                    refine lv_iload_n hx hb mD_Mo_gate_116 rfl (lv_at hl 3 rfl) ?_
                    refine lv_aload_n hx hb mD_Mo_gate_117 rfl (lv_at hl 2 rfl) ?_
                    refine m_get (C := cN_Mo) (T := cF_Mo) (N := 11) (ci := 8) hx hb htw wU_Mo hown hK hP 0 (by decide) rfl rfl 2 (by decide) rfl ww_642 rfl mD_Mo_gate_118 ?_
                    refine lv_iload_n hx hb mD_Mo_gate_121 rfl (lv_at hl 4 rfl) ?_
                    refine m_zald hx hb hK hP 2 120 (by decide) rfl u1 rfl (by omega) (by decide) mD_Mo_gate_122 ?_
                    refine lv_aload_n hx hb mD_Mo_gate_123 rfl (lv_at hl 2 rfl) ?_
                    refine m_get (C := cN_Mo) (T := cF_Mo) (N := 11) (ci := 8) hx hb htw wU_Mo hown hK hP 0 (by decide) rfl rfl 2 (by decide) rfl ww_642 rfl mD_Mo_gate_124 ?_
                    refine lv_iload_n hx hb mD_Mo_gate_127 rfl (lv_at hl 5 rfl) ?_
                    refine m_zald hx hb hK hP 2 120 (by decide) rfl u2 rfl (by omega) (by decide) mD_Mo_gate_128 ?_
                    refine gc_Si (As := [.int (nI gt), .int (x14 2 u1), .int (x14 2 u2)]) (rest := [.ref (ad 0)]) hx hb hml hown htw hK hP hS (k_Mo_value l D ct ad hI x14 (gt := gt) hgt (z1 := aV α u1) (z2 := aV α u2) v1.2.1 v2.2.1) gZ0_ok (fun _ _ _ => trivial) (gA_mono hS.1) ww_740 ww_741 ww_33 wC_Mo_value mP_Mo_value (by decide) rfl hl.1 rfl (Nat.le_of_ble_eq_true rfl) mD_Mo_gate_129 ⟨Nat.le_of_ble_eq_true rfl, Nat.le_of_ble_eq_true rfl⟩ (fun r16 x15 H locs hp15 hP _ _ hS => ?_)
                    obtain ⟨hq_, rfl⟩ := hp15
                    rw [hq_] at hP
                    refine lv_ldc hx hb hown (htw _ ww_743) mD_Mo_gate_132 ?_
                    refine gc_Vi (As := [.int (tBi (tp_truth gt (aV α u1) (aV α u2))), .int ((3186688 : Int32))]) (rest := []) hx hb hml hown htw hK hP hS 0 (k_Mo_made l D ct ad hI x14 (z := tp_truth gt (aV α u1) (aV α u2)) rfl (b := 3186688) (q := q) rfl hf.1 (mR_fr R2 hf).1 (mR_fr R2 hf).2) gZ0_ok (fun _ _ _ => trivial) (gA_mono hS.1) (by decide) rfl rfl ww_695 ww_697 ww_17 ww_33 wC_Mo_made mP_Mo_made (by decide) rfl hl.1 rfl (Nat.le_of_ble_eq_true rfl) mD_Mo_gate_134 ⟨Nat.le_of_ble_eq_true rfl, Nat.le_of_ble_eq_true rfl⟩ (fun r18 x17 H locs hp17 hP _ _ hS => ?_)
                    obtain ⟨rfl, ey⟩ := hp17
                    exact gw_iret hx hb hr hlocks hP hS (⟨rfl, mR_made R2 (by decide) ey⟩) mD_Mo_gate_137 (Nat.zero_le _) (Nat.zero_le _)
                  · skip
                    exfalso; exact absurd hc (by decide)
            · skip
              exfalso; exact hc rfl
          · skip
            exfalso; exact hc rfl

set_option maxHeartbeats 4000000 in
set_option maxRecDepth 100000 in
theorem n1a_Mo_gate (l : Launch) (D : va_G) (ct : Nat → ClassId) (ad : Nat → Nat) (hI : gw_inj 8 ad) (x : mS) (α : tA) (t0 : Int32) (hR : mR α t0 x) (a b c_ : Int32) (hh : ¬ ∃ q, q < 8 ∧ a = nI q) : gMi l mY_Mo_gate mB_Mo_gate 6 (some .int) (rF 1 25) D (tT ct) gZ0 8 ad (mD ct ad) [.ref (ad 0), .int a, .int b, .int c_] x (fun _ x' => mR α 1 x') := by
  refine gMi_enter (by decide) (Nat.le_of_ble_eq_true rfl) ?_
  intro p e s m below meth c ls hx hb hr htw hown hlocks hml hl hP hK hZ hS
  have hA : ∀ k, k < 8 → gA 8 ad s.heap.size (ad k) := fun _ h => gA_in h
  have hl : lv_has ls 6 [(0, .ref (ad 0)), (1, .int a), (2, .int b), (3, .int c_)] := hl
  refine lv_iload_n hx hb mD_Mo_gate_0 rfl (lv_at hl 1 rfl) ?_
  refine gc_Si (As := [.int a]) (rest := []) hx hb hml hown htw hK hP hS (n_Mo_isGate l D ct ad hI x a hh) gZ0_ok (fun _ _ _ => trivial) (gA_mono hS.1) ww_730 ww_731 ww_33 wC_Mo_isGate mP_Mo_isGate (by decide) rfl hl.1 rfl (Nat.le_of_ble_eq_true rfl) mD_Mo_gate_1 ⟨Nat.le_of_ble_eq_true rfl, Nat.le_of_ble_eq_true rfl⟩ (fun r2 x1 H locs hp1 hP _ _ hS => ?_)
  obtain ⟨hq_, rfl⟩ := hp1
  rw [hq_] at hP
  refine lv_if_eq (tgt := 27) hx hb mD_Mo_gate_4 rfl (fun hc => ?_) (fun hc => ?_)
  · skip
    refine lv_iconst (v := nI 0) hx hb mD_Mo_gate_27 (by decide) ?_
    refine lv_istore (lv' := [(4, .int (nI 0)), (0, .ref (ad 0)), (1, .int a), (2, .int b), (3, .int c_)]) hx hb mD_Mo_gate_28 hl (by decide) rfl (fun ls hl => ?_)
    refine lv_iload hx hb mD_Mo_gate_30 (lv_at hl 0 rfl) ?_
    refine lv_if_eq (tgt := 49) hx hb mD_Mo_gate_32 rfl (fun hc => ?_) (fun hc => ?_)
    · skip
      refine lv_iconst (v := nI 0) hx hb mD_Mo_gate_49 (by decide) ?_
      refine lv_istore (lv' := [(5, .int (nI 0)), (4, .int (nI 0)), (0, .ref (ad 0)), (1, .int a), (2, .int b), (3, .int c_)]) hx hb mD_Mo_gate_50 hl (by decide) rfl (fun ls hl => ?_)
      refine lv_aload_n hx hb mD_Mo_gate_52 rfl (lv_at hl 2 rfl) ?_
      refine lv_iload hx hb mD_Mo_gate_53 (lv_at hl 0 rfl) ?_
      refine lv_if_eq (tgt := 67) hx hb mD_Mo_gate_55 rfl (fun hc => ?_) (fun hc => ?_)
      · skip
        refine lv_aload_n hx hb mD_Mo_gate_67 rfl (lv_at hl 2 rfl) ?_
        refine m_get (C := cN_Mo) (T := cF_Mo) (N := 11) (ci := 8) hx hb htw wU_Mo hown hK hP 0 (by decide) rfl rfl 5 (by decide) rfl ww_645 rfl mD_Mo_gate_68 ?_
        refine m_put (C := cN_Mo) (T := cF_Mo) (N := 11) (ci := 8) hx hb htw wU_Mo cT_Mo cO_Mo cM_Mo hown hK hI hA hP hS 0 (by decide) rfl rfl 5 (by decide) rfl ww_645 rfl rfl rfl (Nat.le_of_ble_eq_true rfl) rfl mD_Mo_gate_71 (fun H locs hP hS => ?_)
        obtain ⟨x3, hx3⟩ : ∃ z_, z_ = va_up x 0 (upd (x 0) 5 (x 0 5)) := ⟨_, rfl⟩
        rw [← hx3] at hP
        have R0 : mR α t0 x3 := by rw [hx3]; exact mR_ref0 hR
        refine lv_aload_n hx hb mD_Mo_gate_74 rfl (lv_at hl 2 rfl) ?_
        refine lv_iload hx hb mD_Mo_gate_75 (lv_at hl 1 rfl) ?_
        refine lv_iload hx hb mD_Mo_gate_77 (lv_at hl 0 rfl) ?_
        refine lv_if_ne (tgt := 95) hx hb mD_Mo_gate_79 rfl (fun hc => ?_) (fun hc => ?_)
        · skip
          exfalso; exact hc rfl
        · skip
          refine lv_aload_n hx hb mD_Mo_gate_82 rfl (lv_at hl 2 rfl) ?_
          refine gc_Vi (As := []) (rest := [.int (nI 0), .ref (ad 0)]) hx hb hml hown htw hK hP hS 0 (k_Mo_many l D ct ad hI x3 (f := aT α) (fun q hq => (R0.1 q hq).1)) gZ0_ok (fun _ _ _ => trivial) (gA_mono hS.1) (by decide) rfl rfl ww_683 ww_685 ww_15 ww_33 wC_Mo_many mP_Mo_many (by decide) rfl hl.1 rfl (Nat.le_of_ble_eq_true rfl) mD_Mo_gate_83 ⟨Nat.le_of_ble_eq_true rfl, Nat.le_of_ble_eq_true rfl⟩ (fun r5 x4 H locs hp4 hP _ _ hS => ?_)
          obtain ⟨hq_, rfl⟩ := hp4
          rw [hq_] at hP
          refine lv_bipush (v := nI 120) hx hb mD_Mo_gate_86 (by decide) ?_
          refine lv_icmp_ge (tgt := 95) hx hb mD_Mo_gate_88 rfl (fun hc => ?_) (fun hc => ?_)
          · skip
            refine lv_iconst (v := nI 0) hx hb mD_Mo_gate_95 (by decide) ?_
            refine lv_iconst (v := nI 1) hx hb mD_Mo_gate_96 (by decide) ?_
            refine gc_Vi (As := [.int (nI 0), .int (nI 0), .int (nI 1)]) (rest := []) hx hb hml hown htw hK hP hS 0 (k_Mo_goes l D ct ad hI x3 (b1 := false) (b2 := false) (b3 := true) rfl rfl rfl) gZ0_ok (fun _ _ _ => trivial) (gA_mono hS.1) (by decide) rfl rfl ww_691 ww_693 ww_16 ww_33 wC_Mo_goes mP_Mo_goes (by decide) rfl hl.1 rfl (Nat.le_of_ble_eq_true rfl) mD_Mo_gate_97 ⟨Nat.le_of_ble_eq_true rfl, Nat.le_of_ble_eq_true rfl⟩ (fun r7 x6 H locs hp6 hP _ _ hS => ?_)
            obtain ⟨hy, rfl⟩ := hp6
            have R1 : mR (α) (mCode false false true) x6 := by rw [hy]; exact mR_code R0
            refine lv_if_ne (tgt := 105) hx hb mD_Mo_gate_100 rfl (fun hc => ?_) (fun hc => ?_)
            · skip
              exfalso; exact hc rfl
            · skip
              refine lv_iconst (v := nI 0) hx hb mD_Mo_gate_103 (by decide) ?_
              exact gw_iret hx hb hr hlocks hP hS (R1) mD_Mo_gate_104 (Nat.zero_le _) (Nat.zero_le _)
          · skip
            refine lv_iconst (v := nI 1) hx hb mD_Mo_gate_91 (by decide) ?_
            refine lv_goto (tgt := 96) hx hb mD_Mo_gate_92 rfl ?_
            refine lv_iconst (v := nI 1) hx hb mD_Mo_gate_96 (by decide) ?_
            refine gc_Vi (As := [.int (nI 0), .int (nI 1), .int (nI 1)]) (rest := []) hx hb hml hown htw hK hP hS 0 (k_Mo_goes l D ct ad hI x3 (b1 := false) (b2 := true) (b3 := true) rfl rfl rfl) gZ0_ok (fun _ _ _ => trivial) (gA_mono hS.1) (by decide) rfl rfl ww_691 ww_693 ww_16 ww_33 wC_Mo_goes mP_Mo_goes (by decide) rfl hl.1 rfl (Nat.le_of_ble_eq_true rfl) mD_Mo_gate_97 ⟨Nat.le_of_ble_eq_true rfl, Nat.le_of_ble_eq_true rfl⟩ (fun r9 x8 H locs hp8 hP _ _ hS => ?_)
            obtain ⟨hy, rfl⟩ := hp8
            have R1 : mR (α) (mCode false true true) x8 := by rw [hy]; exact mR_code R0
            refine lv_if_ne (tgt := 105) hx hb mD_Mo_gate_100 rfl (fun hc => ?_) (fun hc => ?_)
            · skip
              exfalso; exact hc rfl
            · skip
              refine lv_iconst (v := nI 0) hx hb mD_Mo_gate_103 (by decide) ?_
              exact gw_iret hx hb hr hlocks hP hS (R1) mD_Mo_gate_104 (Nat.zero_le _) (Nat.zero_le _)
      · skip
        exfalso; exact hc rfl
    · skip
      exfalso; exact hc rfl
  · skip
    exfalso; exact hc rfl

set_option maxHeartbeats 4000000 in
set_option maxRecDepth 100000 in
theorem n1b_Mo_gate (l : Launch) (D : va_G) (ct : Nat → ClassId) (ad : Nat → Nat) (hI : gw_inj 8 ad) (x : mS) (α : tA) (t0 : Int32) (hR : mR α t0 x) {gt : Nat} (hgt : gt < 8) (b c_ : Int32) (hh : ¬ aHas α b) : gMi l mY_Mo_gate mB_Mo_gate 6 (some .int) (rF 1 25) D (tT ct) gZ0 8 ad (mD ct ad) [.ref (ad 0), .int (nI gt), .int b, .int c_] x (fun _ x' => mR α 1 x') := by
  refine gMi_enter (by decide) (Nat.le_of_ble_eq_true rfl) ?_
  intro p e s m below meth c ls hx hb hr htw hown hlocks hml hl hP hK hZ hS
  have hA : ∀ k, k < 8 → gA 8 ad s.heap.size (ad k) := fun _ h => gA_in h
  have hl : lv_has ls 6 [(0, .ref (ad 0)), (1, .int (nI gt)), (2, .int b), (3, .int c_)] := hl
  refine lv_iload_n hx hb mD_Mo_gate_0 rfl (lv_at hl 1 rfl) ?_
  refine gc_Si (As := [.int (nI gt)]) (rest := []) hx hb hml hown htw hK hP hS (k_Mo_isGate l D ct ad hI x (q := gt) hgt) gZ0_ok (fun _ _ _ => trivial) (gA_mono hS.1) ww_730 ww_731 ww_33 wC_Mo_isGate mP_Mo_isGate (by decide) rfl hl.1 rfl (Nat.le_of_ble_eq_true rfl) mD_Mo_gate_1 ⟨Nat.le_of_ble_eq_true rfl, Nat.le_of_ble_eq_true rfl⟩ (fun r2 x1 H locs hp1 hP _ _ hS => ?_)
  obtain ⟨hq_, rfl⟩ := hp1
  rw [hq_] at hP
  refine lv_if_eq (tgt := 27) hx hb mD_Mo_gate_4 rfl (fun hc => ?_) (fun hc => ?_)
  · skip
    exfalso; exact absurd hc (by decide)
  · skip
    refine lv_aload_n hx hb mD_Mo_gate_7 rfl (lv_at hl 0 rfl) ?_
    refine lv_iload_n hx hb mD_Mo_gate_8 rfl (lv_at hl 2 rfl) ?_
    refine gc_Vi (As := [.int b]) (rest := []) hx hb hml hown htw hK hP hS 0 (n_Mo_isBit l D ct ad hI x b (mR_no hR hh)) gZ0_ok (fun _ _ _ => trivial) (gA_mono hS.1) (by decide) rfl rfl ww_703 ww_705 ww_18 ww_33 wC_Mo_isBit mP_Mo_isBit (by decide) rfl hl.1 rfl (Nat.le_of_ble_eq_true rfl) mD_Mo_gate_9 ⟨Nat.le_of_ble_eq_true rfl, Nat.le_of_ble_eq_true rfl⟩ (fun r4 x3 H locs hp3 hP _ _ hS => ?_)
    obtain ⟨hq_, rfl⟩ := hp3
    rw [hq_] at hP
    refine lv_if_eq (tgt := 27) hx hb mD_Mo_gate_12 rfl (fun hc => ?_) (fun hc => ?_)
    · skip
      refine lv_iconst (v := nI 0) hx hb mD_Mo_gate_27 (by decide) ?_
      refine lv_istore (lv' := [(4, .int (nI 0)), (0, .ref (ad 0)), (1, .int (nI gt)), (2, .int b), (3, .int c_)]) hx hb mD_Mo_gate_28 hl (by decide) rfl (fun ls hl => ?_)
      refine lv_iload hx hb mD_Mo_gate_30 (lv_at hl 0 rfl) ?_
      refine lv_if_eq (tgt := 49) hx hb mD_Mo_gate_32 rfl (fun hc => ?_) (fun hc => ?_)
      · skip
        refine lv_iconst (v := nI 0) hx hb mD_Mo_gate_49 (by decide) ?_
        refine lv_istore (lv' := [(5, .int (nI 0)), (4, .int (nI 0)), (0, .ref (ad 0)), (1, .int (nI gt)), (2, .int b), (3, .int c_)]) hx hb mD_Mo_gate_50 hl (by decide) rfl (fun ls hl => ?_)
        refine lv_aload_n hx hb mD_Mo_gate_52 rfl (lv_at hl 2 rfl) ?_
        refine lv_iload hx hb mD_Mo_gate_53 (lv_at hl 0 rfl) ?_
        refine lv_if_eq (tgt := 67) hx hb mD_Mo_gate_55 rfl (fun hc => ?_) (fun hc => ?_)
        · skip
          refine lv_aload_n hx hb mD_Mo_gate_67 rfl (lv_at hl 2 rfl) ?_
          refine m_get (C := cN_Mo) (T := cF_Mo) (N := 11) (ci := 8) hx hb htw wU_Mo hown hK hP 0 (by decide) rfl rfl 5 (by decide) rfl ww_645 rfl mD_Mo_gate_68 ?_
          refine m_put (C := cN_Mo) (T := cF_Mo) (N := 11) (ci := 8) hx hb htw wU_Mo cT_Mo cO_Mo cM_Mo hown hK hI hA hP hS 0 (by decide) rfl rfl 5 (by decide) rfl ww_645 rfl rfl rfl (Nat.le_of_ble_eq_true rfl) rfl mD_Mo_gate_71 (fun H locs hP hS => ?_)
          obtain ⟨x5, hx5⟩ : ∃ z_, z_ = va_up x 0 (upd (x 0) 5 (x 0 5)) := ⟨_, rfl⟩
          rw [← hx5] at hP
          have R0 : mR α t0 x5 := by rw [hx5]; exact mR_ref0 hR
          refine lv_aload_n hx hb mD_Mo_gate_74 rfl (lv_at hl 2 rfl) ?_
          refine lv_iload hx hb mD_Mo_gate_75 (lv_at hl 1 rfl) ?_
          refine lv_iload hx hb mD_Mo_gate_77 (lv_at hl 0 rfl) ?_
          refine lv_if_ne (tgt := 95) hx hb mD_Mo_gate_79 rfl (fun hc => ?_) (fun hc => ?_)
          · skip
            exfalso; exact hc rfl
          · skip
            refine lv_aload_n hx hb mD_Mo_gate_82 rfl (lv_at hl 2 rfl) ?_
            refine gc_Vi (As := []) (rest := [.int (nI 0), .ref (ad 0)]) hx hb hml hown htw hK hP hS 0 (k_Mo_many l D ct ad hI x5 (f := aT α) (fun q hq => (R0.1 q hq).1)) gZ0_ok (fun _ _ _ => trivial) (gA_mono hS.1) (by decide) rfl rfl ww_683 ww_685 ww_15 ww_33 wC_Mo_many mP_Mo_many (by decide) rfl hl.1 rfl (Nat.le_of_ble_eq_true rfl) mD_Mo_gate_83 ⟨Nat.le_of_ble_eq_true rfl, Nat.le_of_ble_eq_true rfl⟩ (fun r7 x6 H locs hp6 hP _ _ hS => ?_)
            obtain ⟨hq_, rfl⟩ := hp6
            rw [hq_] at hP
            refine lv_bipush (v := nI 120) hx hb mD_Mo_gate_86 (by decide) ?_
            refine lv_icmp_ge (tgt := 95) hx hb mD_Mo_gate_88 rfl (fun hc => ?_) (fun hc => ?_)
            · skip
              refine lv_iconst (v := nI 0) hx hb mD_Mo_gate_95 (by decide) ?_
              refine lv_iconst (v := nI 1) hx hb mD_Mo_gate_96 (by decide) ?_
              refine gc_Vi (As := [.int (nI 0), .int (nI 0), .int (nI 1)]) (rest := []) hx hb hml hown htw hK hP hS 0 (k_Mo_goes l D ct ad hI x5 (b1 := false) (b2 := false) (b3 := true) rfl rfl rfl) gZ0_ok (fun _ _ _ => trivial) (gA_mono hS.1) (by decide) rfl rfl ww_691 ww_693 ww_16 ww_33 wC_Mo_goes mP_Mo_goes (by decide) rfl hl.1 rfl (Nat.le_of_ble_eq_true rfl) mD_Mo_gate_97 ⟨Nat.le_of_ble_eq_true rfl, Nat.le_of_ble_eq_true rfl⟩ (fun r9 x8 H locs hp8 hP _ _ hS => ?_)
              obtain ⟨hy, rfl⟩ := hp8
              have R1 : mR (α) (mCode false false true) x8 := by rw [hy]; exact mR_code R0
              refine lv_if_ne (tgt := 105) hx hb mD_Mo_gate_100 rfl (fun hc => ?_) (fun hc => ?_)
              · skip
                exfalso; exact hc rfl
              · skip
                refine lv_iconst (v := nI 0) hx hb mD_Mo_gate_103 (by decide) ?_
                exact gw_iret hx hb hr hlocks hP hS (R1) mD_Mo_gate_104 (Nat.zero_le _) (Nat.zero_le _)
            · skip
              refine lv_iconst (v := nI 1) hx hb mD_Mo_gate_91 (by decide) ?_
              refine lv_goto (tgt := 96) hx hb mD_Mo_gate_92 rfl ?_
              refine lv_iconst (v := nI 1) hx hb mD_Mo_gate_96 (by decide) ?_
              refine gc_Vi (As := [.int (nI 0), .int (nI 1), .int (nI 1)]) (rest := []) hx hb hml hown htw hK hP hS 0 (k_Mo_goes l D ct ad hI x5 (b1 := false) (b2 := true) (b3 := true) rfl rfl rfl) gZ0_ok (fun _ _ _ => trivial) (gA_mono hS.1) (by decide) rfl rfl ww_691 ww_693 ww_16 ww_33 wC_Mo_goes mP_Mo_goes (by decide) rfl hl.1 rfl (Nat.le_of_ble_eq_true rfl) mD_Mo_gate_97 ⟨Nat.le_of_ble_eq_true rfl, Nat.le_of_ble_eq_true rfl⟩ (fun r11 x10 H locs hp10 hP _ _ hS => ?_)
              obtain ⟨hy, rfl⟩ := hp10
              have R1 : mR (α) (mCode false true true) x10 := by rw [hy]; exact mR_code R0
              refine lv_if_ne (tgt := 105) hx hb mD_Mo_gate_100 rfl (fun hc => ?_) (fun hc => ?_)
              · skip
                exfalso; exact hc rfl
              · skip
                refine lv_iconst (v := nI 0) hx hb mD_Mo_gate_103 (by decide) ?_
                exact gw_iret hx hb hr hlocks hP hS (R1) mD_Mo_gate_104 (Nat.zero_le _) (Nat.zero_le _)
        · skip
          exfalso; exact hc rfl
      · skip
        exfalso; exact hc rfl
    · skip
      exfalso; exact hc rfl

set_option maxHeartbeats 4000000 in
set_option maxRecDepth 100000 in
theorem n1c_Mo_gate (l : Launch) (D : va_G) (ct : Nat → ClassId) (ad : Nat → Nat) (hI : gw_inj 8 ad) (x : mS) (α : tA) (t0 : Int32) (hR : mR α t0 x) {gt u1 : Nat} (hgt : gt < 8) (hu1 : u1 < 120) (hut1 : aT α u1 = true) (c_ : Int32) (hh : ¬ aHas α c_) : gMi l mY_Mo_gate mB_Mo_gate 6 (some .int) (rF 1 25) D (tT ct) gZ0 8 ad (mD ct ad) [.ref (ad 0), .int (nI gt), .int (nI u1), .int c_] x (fun _ x' => mR α 1 x') := by
  refine gMi_enter (by decide) (Nat.le_of_ble_eq_true rfl) ?_
  intro p e s m below meth c ls hx hb hr htw hown hlocks hml hl hP hK hZ hS
  have hA : ∀ k, k < 8 → gA 8 ad s.heap.size (ad k) := fun _ h => gA_in h
  have hl : lv_has ls 6 [(0, .ref (ad 0)), (1, .int (nI gt)), (2, .int (nI u1)), (3, .int c_)] := hl
  refine lv_iload_n hx hb mD_Mo_gate_0 rfl (lv_at hl 1 rfl) ?_
  refine gc_Si (As := [.int (nI gt)]) (rest := []) hx hb hml hown htw hK hP hS (k_Mo_isGate l D ct ad hI x (q := gt) hgt) gZ0_ok (fun _ _ _ => trivial) (gA_mono hS.1) ww_730 ww_731 ww_33 wC_Mo_isGate mP_Mo_isGate (by decide) rfl hl.1 rfl (Nat.le_of_ble_eq_true rfl) mD_Mo_gate_1 ⟨Nat.le_of_ble_eq_true rfl, Nat.le_of_ble_eq_true rfl⟩ (fun r2 x1 H locs hp1 hP _ _ hS => ?_)
  obtain ⟨hq_, rfl⟩ := hp1
  rw [hq_] at hP
  refine lv_if_eq (tgt := 27) hx hb mD_Mo_gate_4 rfl (fun hc => ?_) (fun hc => ?_)
  · skip
    exfalso; exact absurd hc (by decide)
  · skip
    refine lv_aload_n hx hb mD_Mo_gate_7 rfl (lv_at hl 0 rfl) ?_
    refine lv_iload_n hx hb mD_Mo_gate_8 rfl (lv_at hl 2 rfl) ?_
    refine gc_Vi (As := [.int (nI u1)]) (rest := []) hx hb hml hown htw hK hP hS 0 (k_Mo_isBit l D ct ad hI x (u := u1) hu1 (mR_th hR hu1 hut1)) gZ0_ok (fun _ _ _ => trivial) (gA_mono hS.1) (by decide) rfl rfl ww_703 ww_705 ww_18 ww_33 wC_Mo_isBit mP_Mo_isBit (by decide) rfl hl.1 rfl (Nat.le_of_ble_eq_true rfl) mD_Mo_gate_9 ⟨Nat.le_of_ble_eq_true rfl, Nat.le_of_ble_eq_true rfl⟩ (fun r4 x3 H locs hp3 hP _ _ hS => ?_)
    obtain ⟨hq_, rfl⟩ := hp3
    rw [hq_] at hP
    refine lv_if_eq (tgt := 27) hx hb mD_Mo_gate_12 rfl (fun hc => ?_) (fun hc => ?_)
    · skip
      exfalso; exact absurd hc (by decide)
    · skip
      refine lv_aload_n hx hb mD_Mo_gate_15 rfl (lv_at hl 0 rfl) ?_
      refine lv_iload_n hx hb mD_Mo_gate_16 rfl (lv_at hl 3 rfl) ?_
      refine gc_Vi (As := [.int c_]) (rest := []) hx hb hml hown htw hK hP hS 0 (n_Mo_isBit l D ct ad hI x c_ (mR_no hR hh)) gZ0_ok (fun _ _ _ => trivial) (gA_mono hS.1) (by decide) rfl rfl ww_703 ww_705 ww_18 ww_33 wC_Mo_isBit mP_Mo_isBit (by decide) rfl hl.1 rfl (Nat.le_of_ble_eq_true rfl) mD_Mo_gate_17 ⟨Nat.le_of_ble_eq_true rfl, Nat.le_of_ble_eq_true rfl⟩ (fun r6 x5 H locs hp5 hP _ _ hS => ?_)
      obtain ⟨hq_, rfl⟩ := hp5
      rw [hq_] at hP
      refine lv_if_eq (tgt := 27) hx hb mD_Mo_gate_20 rfl (fun hc => ?_) (fun hc => ?_)
      · skip
        refine lv_iconst (v := nI 0) hx hb mD_Mo_gate_27 (by decide) ?_
        refine lv_istore (lv' := [(4, .int (nI 0)), (0, .ref (ad 0)), (1, .int (nI gt)), (2, .int (nI u1)), (3, .int c_)]) hx hb mD_Mo_gate_28 hl (by decide) rfl (fun ls hl => ?_)
        refine lv_iload hx hb mD_Mo_gate_30 (lv_at hl 0 rfl) ?_
        refine lv_if_eq (tgt := 49) hx hb mD_Mo_gate_32 rfl (fun hc => ?_) (fun hc => ?_)
        · skip
          refine lv_iconst (v := nI 0) hx hb mD_Mo_gate_49 (by decide) ?_
          refine lv_istore (lv' := [(5, .int (nI 0)), (4, .int (nI 0)), (0, .ref (ad 0)), (1, .int (nI gt)), (2, .int (nI u1)), (3, .int c_)]) hx hb mD_Mo_gate_50 hl (by decide) rfl (fun ls hl => ?_)
          refine lv_aload_n hx hb mD_Mo_gate_52 rfl (lv_at hl 2 rfl) ?_
          refine lv_iload hx hb mD_Mo_gate_53 (lv_at hl 0 rfl) ?_
          refine lv_if_eq (tgt := 67) hx hb mD_Mo_gate_55 rfl (fun hc => ?_) (fun hc => ?_)
          · skip
            refine lv_aload_n hx hb mD_Mo_gate_67 rfl (lv_at hl 2 rfl) ?_
            refine m_get (C := cN_Mo) (T := cF_Mo) (N := 11) (ci := 8) hx hb htw wU_Mo hown hK hP 0 (by decide) rfl rfl 5 (by decide) rfl ww_645 rfl mD_Mo_gate_68 ?_
            refine m_put (C := cN_Mo) (T := cF_Mo) (N := 11) (ci := 8) hx hb htw wU_Mo cT_Mo cO_Mo cM_Mo hown hK hI hA hP hS 0 (by decide) rfl rfl 5 (by decide) rfl ww_645 rfl rfl rfl (Nat.le_of_ble_eq_true rfl) rfl mD_Mo_gate_71 (fun H locs hP hS => ?_)
            obtain ⟨x7, hx7⟩ : ∃ z_, z_ = va_up x 0 (upd (x 0) 5 (x 0 5)) := ⟨_, rfl⟩
            rw [← hx7] at hP
            have R0 : mR α t0 x7 := by rw [hx7]; exact mR_ref0 hR
            refine lv_aload_n hx hb mD_Mo_gate_74 rfl (lv_at hl 2 rfl) ?_
            refine lv_iload hx hb mD_Mo_gate_75 (lv_at hl 1 rfl) ?_
            refine lv_iload hx hb mD_Mo_gate_77 (lv_at hl 0 rfl) ?_
            refine lv_if_ne (tgt := 95) hx hb mD_Mo_gate_79 rfl (fun hc => ?_) (fun hc => ?_)
            · skip
              exfalso; exact hc rfl
            · skip
              refine lv_aload_n hx hb mD_Mo_gate_82 rfl (lv_at hl 2 rfl) ?_
              refine gc_Vi (As := []) (rest := [.int (nI 0), .ref (ad 0)]) hx hb hml hown htw hK hP hS 0 (k_Mo_many l D ct ad hI x7 (f := aT α) (fun q hq => (R0.1 q hq).1)) gZ0_ok (fun _ _ _ => trivial) (gA_mono hS.1) (by decide) rfl rfl ww_683 ww_685 ww_15 ww_33 wC_Mo_many mP_Mo_many (by decide) rfl hl.1 rfl (Nat.le_of_ble_eq_true rfl) mD_Mo_gate_83 ⟨Nat.le_of_ble_eq_true rfl, Nat.le_of_ble_eq_true rfl⟩ (fun r9 x8 H locs hp8 hP _ _ hS => ?_)
              obtain ⟨hq_, rfl⟩ := hp8
              rw [hq_] at hP
              refine lv_bipush (v := nI 120) hx hb mD_Mo_gate_86 (by decide) ?_
              refine lv_icmp_ge (tgt := 95) hx hb mD_Mo_gate_88 rfl (fun hc => ?_) (fun hc => ?_)
              · skip
                refine lv_iconst (v := nI 0) hx hb mD_Mo_gate_95 (by decide) ?_
                refine lv_iconst (v := nI 1) hx hb mD_Mo_gate_96 (by decide) ?_
                refine gc_Vi (As := [.int (nI 0), .int (nI 0), .int (nI 1)]) (rest := []) hx hb hml hown htw hK hP hS 0 (k_Mo_goes l D ct ad hI x7 (b1 := false) (b2 := false) (b3 := true) rfl rfl rfl) gZ0_ok (fun _ _ _ => trivial) (gA_mono hS.1) (by decide) rfl rfl ww_691 ww_693 ww_16 ww_33 wC_Mo_goes mP_Mo_goes (by decide) rfl hl.1 rfl (Nat.le_of_ble_eq_true rfl) mD_Mo_gate_97 ⟨Nat.le_of_ble_eq_true rfl, Nat.le_of_ble_eq_true rfl⟩ (fun r11 x10 H locs hp10 hP _ _ hS => ?_)
                obtain ⟨hy, rfl⟩ := hp10
                have R1 : mR (α) (mCode false false true) x10 := by rw [hy]; exact mR_code R0
                refine lv_if_ne (tgt := 105) hx hb mD_Mo_gate_100 rfl (fun hc => ?_) (fun hc => ?_)
                · skip
                  exfalso; exact hc rfl
                · skip
                  refine lv_iconst (v := nI 0) hx hb mD_Mo_gate_103 (by decide) ?_
                  exact gw_iret hx hb hr hlocks hP hS (R1) mD_Mo_gate_104 (Nat.zero_le _) (Nat.zero_le _)
              · skip
                refine lv_iconst (v := nI 1) hx hb mD_Mo_gate_91 (by decide) ?_
                refine lv_goto (tgt := 96) hx hb mD_Mo_gate_92 rfl ?_
                refine lv_iconst (v := nI 1) hx hb mD_Mo_gate_96 (by decide) ?_
                refine gc_Vi (As := [.int (nI 0), .int (nI 1), .int (nI 1)]) (rest := []) hx hb hml hown htw hK hP hS 0 (k_Mo_goes l D ct ad hI x7 (b1 := false) (b2 := true) (b3 := true) rfl rfl rfl) gZ0_ok (fun _ _ _ => trivial) (gA_mono hS.1) (by decide) rfl rfl ww_691 ww_693 ww_16 ww_33 wC_Mo_goes mP_Mo_goes (by decide) rfl hl.1 rfl (Nat.le_of_ble_eq_true rfl) mD_Mo_gate_97 ⟨Nat.le_of_ble_eq_true rfl, Nat.le_of_ble_eq_true rfl⟩ (fun r13 x12 H locs hp12 hP _ _ hS => ?_)
                obtain ⟨hy, rfl⟩ := hp12
                have R1 : mR (α) (mCode false true true) x12 := by rw [hy]; exact mR_code R0
                refine lv_if_ne (tgt := 105) hx hb mD_Mo_gate_100 rfl (fun hc => ?_) (fun hc => ?_)
                · skip
                  exfalso; exact hc rfl
                · skip
                  refine lv_iconst (v := nI 0) hx hb mD_Mo_gate_103 (by decide) ?_
                  exact gw_iret hx hb hr hlocks hP hS (R1) mD_Mo_gate_104 (Nat.zero_le _) (Nat.zero_le _)
          · skip
            exfalso; exact hc rfl
        · skip
          exfalso; exact hc rfl
      · skip
        exfalso; exact hc rfl

set_option maxHeartbeats 4000000 in
set_option maxRecDepth 100000 in
theorem n2a_Mo_gate (l : Launch) (D : va_G) (ct : Nat → ClassId) (ad : Nat → Nat) (hI : gw_inj 8 ad) (x : mS) (α : tA) (t0 : Int32) (hR : mR α t0 x) {gt u1 u2 : Nat} (hgt : gt < 8) (hu1 : u1 < 120) (hut1 : aT α u1 = true) (hu2 : u2 < 120) (hut2 : aT α u2 = true) (htoo : tp_far gt (aB α u1) (aB α u2)) : gMi l mY_Mo_gate mB_Mo_gate 6 (some .int) (rF 1 25) D (tT ct) gZ0 8 ad (mD ct ad) [.ref (ad 0), .int (nI gt), .int (nI u1), .int (nI u2)] x (fun _ x' => mR (aRefus α) 2 x') := by
  refine gMi_enter (by decide) (Nat.le_of_ble_eq_true rfl) ?_
  intro p e s m below meth c ls hx hb hr htw hown hlocks hml hl hP hK hZ hS
  have hA : ∀ k, k < 8 → gA 8 ad s.heap.size (ad k) := fun _ h => gA_in h
  have hl : lv_has ls 6 [(0, .ref (ad 0)), (1, .int (nI gt)), (2, .int (nI u1)), (3, .int (nI u2))] := hl
  refine lv_iload_n hx hb mD_Mo_gate_0 rfl (lv_at hl 1 rfl) ?_
  refine gc_Si (As := [.int (nI gt)]) (rest := []) hx hb hml hown htw hK hP hS (k_Mo_isGate l D ct ad hI x (q := gt) hgt) gZ0_ok (fun _ _ _ => trivial) (gA_mono hS.1) ww_730 ww_731 ww_33 wC_Mo_isGate mP_Mo_isGate (by decide) rfl hl.1 rfl (Nat.le_of_ble_eq_true rfl) mD_Mo_gate_1 ⟨Nat.le_of_ble_eq_true rfl, Nat.le_of_ble_eq_true rfl⟩ (fun r2 x1 H locs hp1 hP _ _ hS => ?_)
  obtain ⟨hq_, rfl⟩ := hp1
  rw [hq_] at hP
  refine lv_if_eq (tgt := 27) hx hb mD_Mo_gate_4 rfl (fun hc => ?_) (fun hc => ?_)
  · skip
    exfalso; exact absurd hc (by decide)
  · skip
    refine lv_aload_n hx hb mD_Mo_gate_7 rfl (lv_at hl 0 rfl) ?_
    refine lv_iload_n hx hb mD_Mo_gate_8 rfl (lv_at hl 2 rfl) ?_
    refine gc_Vi (As := [.int (nI u1)]) (rest := []) hx hb hml hown htw hK hP hS 0 (k_Mo_isBit l D ct ad hI x (u := u1) hu1 (mR_th hR hu1 hut1)) gZ0_ok (fun _ _ _ => trivial) (gA_mono hS.1) (by decide) rfl rfl ww_703 ww_705 ww_18 ww_33 wC_Mo_isBit mP_Mo_isBit (by decide) rfl hl.1 rfl (Nat.le_of_ble_eq_true rfl) mD_Mo_gate_9 ⟨Nat.le_of_ble_eq_true rfl, Nat.le_of_ble_eq_true rfl⟩ (fun r4 x3 H locs hp3 hP _ _ hS => ?_)
    obtain ⟨hq_, rfl⟩ := hp3
    rw [hq_] at hP
    refine lv_if_eq (tgt := 27) hx hb mD_Mo_gate_12 rfl (fun hc => ?_) (fun hc => ?_)
    · skip
      exfalso; exact absurd hc (by decide)
    · skip
      refine lv_aload_n hx hb mD_Mo_gate_15 rfl (lv_at hl 0 rfl) ?_
      refine lv_iload_n hx hb mD_Mo_gate_16 rfl (lv_at hl 3 rfl) ?_
      refine gc_Vi (As := [.int (nI u2)]) (rest := []) hx hb hml hown htw hK hP hS 0 (k_Mo_isBit l D ct ad hI x (u := u2) hu2 (mR_th hR hu2 hut2)) gZ0_ok (fun _ _ _ => trivial) (gA_mono hS.1) (by decide) rfl rfl ww_703 ww_705 ww_18 ww_33 wC_Mo_isBit mP_Mo_isBit (by decide) rfl hl.1 rfl (Nat.le_of_ble_eq_true rfl) mD_Mo_gate_17 ⟨Nat.le_of_ble_eq_true rfl, Nat.le_of_ble_eq_true rfl⟩ (fun r6 x5 H locs hp5 hP _ _ hS => ?_)
      obtain ⟨hq_, rfl⟩ := hp5
      rw [hq_] at hP
      refine lv_if_eq (tgt := 27) hx hb mD_Mo_gate_20 rfl (fun hc => ?_) (fun hc => ?_)
      · skip
        exfalso; exact absurd hc (by decide)
      · skip
        refine lv_iconst (v := nI 1) hx hb mD_Mo_gate_23 (by decide) ?_
        refine lv_goto (tgt := 28) hx hb mD_Mo_gate_24 rfl ?_
        refine lv_istore (lv' := [(4, .int (nI 1)), (0, .ref (ad 0)), (1, .int (nI gt)), (2, .int (nI u1)), (3, .int (nI u2))]) hx hb mD_Mo_gate_28 hl (by decide) rfl (fun ls hl => ?_)
        refine lv_iload hx hb mD_Mo_gate_30 (lv_at hl 0 rfl) ?_
        refine lv_if_eq (tgt := 49) hx hb mD_Mo_gate_32 rfl (fun hc => ?_) (fun hc => ?_)
        · skip
          exfalso; exact absurd hc (by decide)
        · skip
          have w1 := (hR.1 u1 hu1).2 hut1
          have w2 := (hR.1 u2 hu2).2 hut2
          refine lv_aload_n hx hb mD_Mo_gate_35 rfl (lv_at hl 1 rfl) ?_
          refine lv_iload_n hx hb mD_Mo_gate_36 rfl (lv_at hl 2 rfl) ?_
          refine lv_iload_n hx hb mD_Mo_gate_37 rfl (lv_at hl 3 rfl) ?_
          refine lv_iload_n hx hb mD_Mo_gate_38 rfl (lv_at hl 4 rfl) ?_
          refine gc_Vi (As := [.int (nI gt), .int (nI u1), .int (nI u2)]) (rest := []) hx hb hml hown htw hK hP hS 0 (k_Mo_great l D ct ad hI x (gt := gt) hgt hu1 hu2 w1.2.2 w2.2.2 w1.1 w2.1) gZ0_ok (fun _ _ _ => trivial) (gA_mono hS.1) (by decide) rfl rfl ww_733 ww_735 ww_20 ww_33 wC_Mo_great mP_Mo_great (by decide) rfl hl.1 rfl (Nat.le_of_ble_eq_true rfl) mD_Mo_gate_39 ⟨Nat.le_of_ble_eq_true rfl, Nat.le_of_ble_eq_true rfl⟩ (fun r8 x7 H locs hp7 hP _ _ hS => ?_)
          obtain ⟨hq_, hr_⟩ := hp7
          rw [hq_] at hP
          have er : r8 = nI 1 := by rcases hr_ with ⟨e, _⟩ | ⟨_, h⟩; exact e; exact absurd htoo h
          subst er
          refine lv_if_eq (tgt := 49) hx hb mD_Mo_gate_42 rfl (fun hc => ?_) (fun hc => ?_)
          · skip
            exfalso; exact absurd hc (by decide)
          · skip
            refine lv_iconst (v := nI 1) hx hb mD_Mo_gate_45 (by decide) ?_
            refine lv_goto (tgt := 50) hx hb mD_Mo_gate_46 rfl ?_
            refine lv_istore (lv' := [(5, .int (nI 1)), (4, .int (nI 1)), (0, .ref (ad 0)), (1, .int (nI gt)), (2, .int (nI u1)), (3, .int (nI u2))]) hx hb mD_Mo_gate_50 hl (by decide) rfl (fun ls hl => ?_)
            refine lv_aload_n hx hb mD_Mo_gate_52 rfl (lv_at hl 2 rfl) ?_
            refine lv_iload hx hb mD_Mo_gate_53 (lv_at hl 0 rfl) ?_
            refine lv_if_eq (tgt := 67) hx hb mD_Mo_gate_55 rfl (fun hc => ?_) (fun hc => ?_)
            · skip
              exfalso; exact absurd hc (by decide)
            · skip
              refine lv_aload_n hx hb mD_Mo_gate_58 rfl (lv_at hl 2 rfl) ?_
              refine m_get (C := cN_Mo) (T := cF_Mo) (N := 11) (ci := 8) hx hb htw wU_Mo hown hK hP 0 (by decide) rfl rfl 5 (by decide) rfl ww_645 rfl mD_Mo_gate_59 ?_
              refine lv_iconst (v := nI 1) hx hb mD_Mo_gate_62 (by decide) ?_
              refine lv_iadd hx hb mD_Mo_gate_63 ?_
              refine lv_goto (tgt := 71) hx hb mD_Mo_gate_64 rfl ?_
              refine m_put (C := cN_Mo) (T := cF_Mo) (N := 11) (ci := 8) hx hb htw wU_Mo cT_Mo cO_Mo cM_Mo hown hK hI hA hP hS 0 (by decide) rfl rfl 5 (by decide) rfl ww_645 rfl rfl rfl (Nat.le_of_ble_eq_true rfl) rfl mD_Mo_gate_71 (fun H locs hP hS => ?_)
              obtain ⟨x9, hx9⟩ : ∃ z_, z_ = va_up x 0 (upd (x 0) 5 ((x 0 5) + (nI 1))) := ⟨_, rfl⟩
              rw [← hx9] at hP
              have R0 : mR (aRefus α) t0 x9 := by rw [hx9]; exact mR_ref hR
              refine lv_aload_n hx hb mD_Mo_gate_74 rfl (lv_at hl 2 rfl) ?_
              refine lv_iload hx hb mD_Mo_gate_75 (lv_at hl 1 rfl) ?_
              refine lv_iload hx hb mD_Mo_gate_77 (lv_at hl 0 rfl) ?_
              refine lv_if_ne (tgt := 95) hx hb mD_Mo_gate_79 rfl (fun hc => ?_) (fun hc => ?_)
              · skip
                refine lv_iconst (v := nI 0) hx hb mD_Mo_gate_95 (by decide) ?_
                refine lv_iconst (v := nI 1) hx hb mD_Mo_gate_96 (by decide) ?_
                refine gc_Vi (As := [.int (nI 1), .int (nI 0), .int (nI 1)]) (rest := []) hx hb hml hown htw hK hP hS 0 (k_Mo_goes l D ct ad hI x9 (b1 := true) (b2 := false) (b3 := true) rfl rfl rfl) gZ0_ok (fun _ _ _ => trivial) (gA_mono hS.1) (by decide) rfl rfl ww_691 ww_693 ww_16 ww_33 wC_Mo_goes mP_Mo_goes (by decide) rfl hl.1 rfl (Nat.le_of_ble_eq_true rfl) mD_Mo_gate_97 ⟨Nat.le_of_ble_eq_true rfl, Nat.le_of_ble_eq_true rfl⟩ (fun r11 x10 H locs hp10 hP _ _ hS => ?_)
                obtain ⟨hy, rfl⟩ := hp10
                have R1 : mR (aRefus α) (mCode true false true) x10 := by rw [hy]; exact mR_code R0
                refine lv_if_ne (tgt := 105) hx hb mD_Mo_gate_100 rfl (fun hc => ?_) (fun hc => ?_)
                · skip
                  exfalso; exact hc rfl
                · skip
                  refine lv_iconst (v := nI 0) hx hb mD_Mo_gate_103 (by decide) ?_
                  exact gw_iret hx hb hr hlocks hP hS (R1) mD_Mo_gate_104 (Nat.zero_le _) (Nat.zero_le _)
              · skip
                exfalso; exact absurd hc (by decide)

set_option maxHeartbeats 4000000 in
set_option maxRecDepth 100000 in
theorem n2b_Mo_gate (l : Launch) (D : va_G) (ct : Nat → ClassId) (ad : Nat → Nat) (hI : gw_inj 8 ad) (x : mS) (α : tA) (t0 : Int32) (hR : mR α t0 x) {gt u1 u2 : Nat} (hgt : gt < 8) (hu1 : u1 < 120) (hut1 : aT α u1 = true) (hu2 : u2 < 120) (hut2 : aT α u2 = true) (hfar : ¬ tp_far gt (aB α u1) (aB α u2)) (hf : aFull α) : gMi l mY_Mo_gate mB_Mo_gate 6 (some .int) (rF 1 25) D (tT ct) gZ0 8 ad (mD ct ad) [.ref (ad 0), .int (nI gt), .int (nI u1), .int (nI u2)] x (fun _ x' => mR α 2 x') := by
  refine gMi_enter (by decide) (Nat.le_of_ble_eq_true rfl) ?_
  intro p e s m below meth c ls hx hb hr htw hown hlocks hml hl hP hK hZ hS
  have hA : ∀ k, k < 8 → gA 8 ad s.heap.size (ad k) := fun _ h => gA_in h
  have hl : lv_has ls 6 [(0, .ref (ad 0)), (1, .int (nI gt)), (2, .int (nI u1)), (3, .int (nI u2))] := hl
  refine lv_iload_n hx hb mD_Mo_gate_0 rfl (lv_at hl 1 rfl) ?_
  refine gc_Si (As := [.int (nI gt)]) (rest := []) hx hb hml hown htw hK hP hS (k_Mo_isGate l D ct ad hI x (q := gt) hgt) gZ0_ok (fun _ _ _ => trivial) (gA_mono hS.1) ww_730 ww_731 ww_33 wC_Mo_isGate mP_Mo_isGate (by decide) rfl hl.1 rfl (Nat.le_of_ble_eq_true rfl) mD_Mo_gate_1 ⟨Nat.le_of_ble_eq_true rfl, Nat.le_of_ble_eq_true rfl⟩ (fun r2 x1 H locs hp1 hP _ _ hS => ?_)
  obtain ⟨hq_, rfl⟩ := hp1
  rw [hq_] at hP
  refine lv_if_eq (tgt := 27) hx hb mD_Mo_gate_4 rfl (fun hc => ?_) (fun hc => ?_)
  · skip
    exfalso; exact absurd hc (by decide)
  · skip
    refine lv_aload_n hx hb mD_Mo_gate_7 rfl (lv_at hl 0 rfl) ?_
    refine lv_iload_n hx hb mD_Mo_gate_8 rfl (lv_at hl 2 rfl) ?_
    refine gc_Vi (As := [.int (nI u1)]) (rest := []) hx hb hml hown htw hK hP hS 0 (k_Mo_isBit l D ct ad hI x (u := u1) hu1 (mR_th hR hu1 hut1)) gZ0_ok (fun _ _ _ => trivial) (gA_mono hS.1) (by decide) rfl rfl ww_703 ww_705 ww_18 ww_33 wC_Mo_isBit mP_Mo_isBit (by decide) rfl hl.1 rfl (Nat.le_of_ble_eq_true rfl) mD_Mo_gate_9 ⟨Nat.le_of_ble_eq_true rfl, Nat.le_of_ble_eq_true rfl⟩ (fun r4 x3 H locs hp3 hP _ _ hS => ?_)
    obtain ⟨hq_, rfl⟩ := hp3
    rw [hq_] at hP
    refine lv_if_eq (tgt := 27) hx hb mD_Mo_gate_12 rfl (fun hc => ?_) (fun hc => ?_)
    · skip
      exfalso; exact absurd hc (by decide)
    · skip
      refine lv_aload_n hx hb mD_Mo_gate_15 rfl (lv_at hl 0 rfl) ?_
      refine lv_iload_n hx hb mD_Mo_gate_16 rfl (lv_at hl 3 rfl) ?_
      refine gc_Vi (As := [.int (nI u2)]) (rest := []) hx hb hml hown htw hK hP hS 0 (k_Mo_isBit l D ct ad hI x (u := u2) hu2 (mR_th hR hu2 hut2)) gZ0_ok (fun _ _ _ => trivial) (gA_mono hS.1) (by decide) rfl rfl ww_703 ww_705 ww_18 ww_33 wC_Mo_isBit mP_Mo_isBit (by decide) rfl hl.1 rfl (Nat.le_of_ble_eq_true rfl) mD_Mo_gate_17 ⟨Nat.le_of_ble_eq_true rfl, Nat.le_of_ble_eq_true rfl⟩ (fun r6 x5 H locs hp5 hP _ _ hS => ?_)
      obtain ⟨hq_, rfl⟩ := hp5
      rw [hq_] at hP
      refine lv_if_eq (tgt := 27) hx hb mD_Mo_gate_20 rfl (fun hc => ?_) (fun hc => ?_)
      · skip
        exfalso; exact absurd hc (by decide)
      · skip
        refine lv_iconst (v := nI 1) hx hb mD_Mo_gate_23 (by decide) ?_
        refine lv_goto (tgt := 28) hx hb mD_Mo_gate_24 rfl ?_
        refine lv_istore (lv' := [(4, .int (nI 1)), (0, .ref (ad 0)), (1, .int (nI gt)), (2, .int (nI u1)), (3, .int (nI u2))]) hx hb mD_Mo_gate_28 hl (by decide) rfl (fun ls hl => ?_)
        refine lv_iload hx hb mD_Mo_gate_30 (lv_at hl 0 rfl) ?_
        refine lv_if_eq (tgt := 49) hx hb mD_Mo_gate_32 rfl (fun hc => ?_) (fun hc => ?_)
        · skip
          exfalso; exact absurd hc (by decide)
        · skip
          have w1 := (hR.1 u1 hu1).2 hut1
          have w2 := (hR.1 u2 hu2).2 hut2
          refine lv_aload_n hx hb mD_Mo_gate_35 rfl (lv_at hl 1 rfl) ?_
          refine lv_iload_n hx hb mD_Mo_gate_36 rfl (lv_at hl 2 rfl) ?_
          refine lv_iload_n hx hb mD_Mo_gate_37 rfl (lv_at hl 3 rfl) ?_
          refine lv_iload_n hx hb mD_Mo_gate_38 rfl (lv_at hl 4 rfl) ?_
          refine gc_Vi (As := [.int (nI gt), .int (nI u1), .int (nI u2)]) (rest := []) hx hb hml hown htw hK hP hS 0 (k_Mo_great l D ct ad hI x (gt := gt) hgt hu1 hu2 w1.2.2 w2.2.2 w1.1 w2.1) gZ0_ok (fun _ _ _ => trivial) (gA_mono hS.1) (by decide) rfl rfl ww_733 ww_735 ww_20 ww_33 wC_Mo_great mP_Mo_great (by decide) rfl hl.1 rfl (Nat.le_of_ble_eq_true rfl) mD_Mo_gate_39 ⟨Nat.le_of_ble_eq_true rfl, Nat.le_of_ble_eq_true rfl⟩ (fun r8 x7 H locs hp7 hP _ _ hS => ?_)
          obtain ⟨hq_, hr_⟩ := hp7
          rw [hq_] at hP
          have er : r8 = nI 0 := by rcases hr_ with ⟨_, h⟩ | ⟨e, _⟩; exact absurd h hfar; exact e
          subst er
          refine lv_if_eq (tgt := 49) hx hb mD_Mo_gate_42 rfl (fun hc => ?_) (fun hc => ?_)
          · skip
            refine lv_iconst (v := nI 0) hx hb mD_Mo_gate_49 (by decide) ?_
            refine lv_istore (lv' := [(5, .int (nI 0)), (4, .int (nI 1)), (0, .ref (ad 0)), (1, .int (nI gt)), (2, .int (nI u1)), (3, .int (nI u2))]) hx hb mD_Mo_gate_50 hl (by decide) rfl (fun ls hl => ?_)
            refine lv_aload_n hx hb mD_Mo_gate_52 rfl (lv_at hl 2 rfl) ?_
            refine lv_iload hx hb mD_Mo_gate_53 (lv_at hl 0 rfl) ?_
            refine lv_if_eq (tgt := 67) hx hb mD_Mo_gate_55 rfl (fun hc => ?_) (fun hc => ?_)
            · skip
              refine lv_aload_n hx hb mD_Mo_gate_67 rfl (lv_at hl 2 rfl) ?_
              refine m_get (C := cN_Mo) (T := cF_Mo) (N := 11) (ci := 8) hx hb htw wU_Mo hown hK hP 0 (by decide) rfl rfl 5 (by decide) rfl ww_645 rfl mD_Mo_gate_68 ?_
              refine m_put (C := cN_Mo) (T := cF_Mo) (N := 11) (ci := 8) hx hb htw wU_Mo cT_Mo cO_Mo cM_Mo hown hK hI hA hP hS 0 (by decide) rfl rfl 5 (by decide) rfl ww_645 rfl rfl rfl (Nat.le_of_ble_eq_true rfl) rfl mD_Mo_gate_71 (fun H locs hP hS => ?_)
              obtain ⟨x9, hx9⟩ : ∃ z_, z_ = va_up x 0 (upd (x 0) 5 (x 0 5)) := ⟨_, rfl⟩
              rw [← hx9] at hP
              have R0 : mR α t0 x9 := by rw [hx9]; exact mR_ref0 hR
              refine lv_aload_n hx hb mD_Mo_gate_74 rfl (lv_at hl 2 rfl) ?_
              refine lv_iload hx hb mD_Mo_gate_75 (lv_at hl 1 rfl) ?_
              refine lv_iload hx hb mD_Mo_gate_77 (lv_at hl 0 rfl) ?_
              refine lv_if_ne (tgt := 95) hx hb mD_Mo_gate_79 rfl (fun hc => ?_) (fun hc => ?_)
              · skip
                exfalso; exact hc rfl
              · skip
                refine lv_aload_n hx hb mD_Mo_gate_82 rfl (lv_at hl 2 rfl) ?_
                refine gc_Vi (As := []) (rest := [.int (nI 1), .ref (ad 0)]) hx hb hml hown htw hK hP hS 0 (k_Mo_many l D ct ad hI x9 (f := aT α) (fun q hq => (R0.1 q hq).1)) gZ0_ok (fun _ _ _ => trivial) (gA_mono hS.1) (by decide) rfl rfl ww_683 ww_685 ww_15 ww_33 wC_Mo_many mP_Mo_many (by decide) rfl hl.1 rfl (Nat.le_of_ble_eq_true rfl) mD_Mo_gate_83 ⟨Nat.le_of_ble_eq_true rfl, Nat.le_of_ble_eq_true rfl⟩ (fun r11 x10 H locs hp10 hP _ _ hS => ?_)
                obtain ⟨hq_, rfl⟩ := hp10
                rw [hq_] at hP
                refine lv_bipush (v := nI 120) hx hb mD_Mo_gate_86 (by decide) ?_
                refine lv_icmp_ge (tgt := 95) hx hb mD_Mo_gate_88 rfl (fun hc => ?_) (fun hc => ?_)
                · skip
                  refine lv_iconst (v := nI 0) hx hb mD_Mo_gate_95 (by decide) ?_
                  refine lv_iconst (v := nI 1) hx hb mD_Mo_gate_96 (by decide) ?_
                  refine gc_Vi (As := [.int (nI 1), .int (nI 0), .int (nI 1)]) (rest := []) hx hb hml hown htw hK hP hS 0 (k_Mo_goes l D ct ad hI x9 (b1 := true) (b2 := false) (b3 := true) rfl rfl rfl) gZ0_ok (fun _ _ _ => trivial) (gA_mono hS.1) (by decide) rfl rfl ww_691 ww_693 ww_16 ww_33 wC_Mo_goes mP_Mo_goes (by decide) rfl hl.1 rfl (Nat.le_of_ble_eq_true rfl) mD_Mo_gate_97 ⟨Nat.le_of_ble_eq_true rfl, Nat.le_of_ble_eq_true rfl⟩ (fun r13 x12 H locs hp12 hP _ _ hS => ?_)
                  obtain ⟨hy, rfl⟩ := hp12
                  have R1 : mR (α) (mCode true false true) x12 := by rw [hy]; exact mR_code R0
                  refine lv_if_ne (tgt := 105) hx hb mD_Mo_gate_100 rfl (fun hc => ?_) (fun hc => ?_)
                  · skip
                    exfalso; exact hc rfl
                  · skip
                    refine lv_iconst (v := nI 0) hx hb mD_Mo_gate_103 (by decide) ?_
                    exact gw_iret hx hb hr hlocks hP hS (R1) mD_Mo_gate_104 (Nat.zero_le _) (Nat.zero_le _)
                · skip
                  exfalso; exact hc (tm_full hf)
            · skip
              exfalso; exact hc rfl
          · skip
            exfalso; exact hc rfl

set_option maxHeartbeats 4000000 in
set_option maxRecDepth 100000 in
theorem k_Mo_choose (l : Launch) (D : va_G) (ct : Nat → ClassId) (ad : Nat → Nat) (hI : gw_inj 8 ad) (x : mS) (α : tA) (t0 : Int32) (hR : mR α t0 x) {u1 u2 u3 : Nat} (hu1 : u1 < 120) (hut1 : aT α u1 = true) (hu2 : u2 < 120) (hut2 : aT α u2 = true) (hu3 : u3 < 120) (hut3 : aT α u3 = true) {q : Nat} (hf1 : ¬ tp_far 0 (aB α u1) (aB α u2)) (hf2 : ¬ tp_far 6 (aB α u3) (aB α u1)) (hf : aFree α q) : gMi l mY_Mo_choose mB_Mo_choose 6 (some .int) (rF 1 25) D (tT ct) gZ0 8 ad (mD ct ad) [.ref (ad 0), .int (nI u1), .int (nI u2), .int (nI u3)] x (fun r x' => r = nI q ∧ mR (aGates (aMade α q (if aV α u1 then aV α u2 else aV α u3) 3186688) (aG α + 3)) 0 x') := by
  refine gMi_enter (by decide) (Nat.le_of_ble_eq_true rfl) ?_
  intro p e s m below meth c ls hx hb hr htw hown hlocks hml hl hP hK hZ hS
  have hA : ∀ k, k < 8 → gA 8 ad s.heap.size (ad k) := fun _ h => gA_in h
  have hl : lv_has ls 6 [(0, .ref (ad 0)), (1, .int (nI u1)), (2, .int (nI u2)), (3, .int (nI u3))] := hl
  refine lv_aload_n hx hb mD_Mo_choose_0 rfl (lv_at hl 0 rfl) ?_
  refine lv_iload_n hx hb mD_Mo_choose_1 rfl (lv_at hl 1 rfl) ?_
  refine gc_Vi (As := [.int (nI u1)]) (rest := []) hx hb hml hown htw hK hP hS 0 (k_Mo_isBit l D ct ad hI x (u := u1) hu1 (mR_th hR hu1 hut1)) gZ0_ok (fun _ _ _ => trivial) (gA_mono hS.1) (by decide) rfl rfl ww_703 ww_705 ww_18 ww_33 wC_Mo_isBit mP_Mo_isBit (by decide) rfl hl.1 rfl (Nat.le_of_ble_eq_true rfl) mD_Mo_choose_2 ⟨Nat.le_of_ble_eq_true rfl, Nat.le_of_ble_eq_true rfl⟩ (fun r2 x1 H locs hp1 hP _ _ hS => ?_)
  obtain ⟨hq_, rfl⟩ := hp1
  rw [hq_] at hP
  refine lv_if_eq (tgt := 28) hx hb mD_Mo_choose_5 rfl (fun hc => ?_) (fun hc => ?_)
  · skip
    exfalso; exact absurd hc (by decide)
  · skip
    refine lv_aload_n hx hb mD_Mo_choose_8 rfl (lv_at hl 0 rfl) ?_
    refine lv_iload_n hx hb mD_Mo_choose_9 rfl (lv_at hl 2 rfl) ?_
    refine gc_Vi (As := [.int (nI u2)]) (rest := []) hx hb hml hown htw hK hP hS 0 (k_Mo_isBit l D ct ad hI x (u := u2) hu2 (mR_th hR hu2 hut2)) gZ0_ok (fun _ _ _ => trivial) (gA_mono hS.1) (by decide) rfl rfl ww_703 ww_705 ww_18 ww_33 wC_Mo_isBit mP_Mo_isBit (by decide) rfl hl.1 rfl (Nat.le_of_ble_eq_true rfl) mD_Mo_choose_10 ⟨Nat.le_of_ble_eq_true rfl, Nat.le_of_ble_eq_true rfl⟩ (fun r4 x3 H locs hp3 hP _ _ hS => ?_)
    obtain ⟨hq_, rfl⟩ := hp3
    rw [hq_] at hP
    refine lv_if_eq (tgt := 28) hx hb mD_Mo_choose_13 rfl (fun hc => ?_) (fun hc => ?_)
    · skip
      exfalso; exact absurd hc (by decide)
    · skip
      refine lv_aload_n hx hb mD_Mo_choose_16 rfl (lv_at hl 0 rfl) ?_
      refine lv_iload_n hx hb mD_Mo_choose_17 rfl (lv_at hl 3 rfl) ?_
      refine gc_Vi (As := [.int (nI u3)]) (rest := []) hx hb hml hown htw hK hP hS 0 (k_Mo_isBit l D ct ad hI x (u := u3) hu3 (mR_th hR hu3 hut3)) gZ0_ok (fun _ _ _ => trivial) (gA_mono hS.1) (by decide) rfl rfl ww_703 ww_705 ww_18 ww_33 wC_Mo_isBit mP_Mo_isBit (by decide) rfl hl.1 rfl (Nat.le_of_ble_eq_true rfl) mD_Mo_choose_18 ⟨Nat.le_of_ble_eq_true rfl, Nat.le_of_ble_eq_true rfl⟩ (fun r6 x5 H locs hp5 hP _ _ hS => ?_)
      obtain ⟨hq_, rfl⟩ := hp5
      rw [hq_] at hP
      refine lv_if_eq (tgt := 28) hx hb mD_Mo_choose_21 rfl (fun hc => ?_) (fun hc => ?_)
      · skip
        exfalso; exact absurd hc (by decide)
      · skip
        refine lv_iconst (v := nI 1) hx hb mD_Mo_choose_24 (by decide) ?_
        refine lv_goto (tgt := 29) hx hb mD_Mo_choose_25 rfl ?_
        refine lv_istore (lv' := [(4, .int (nI 1)), (0, .ref (ad 0)), (1, .int (nI u1)), (2, .int (nI u2)), (3, .int (nI u3))]) hx hb mD_Mo_choose_29 hl (by decide) rfl (fun ls hl => ?_)
        refine lv_iload hx hb mD_Mo_choose_31 (lv_at hl 0 rfl) ?_
        refine lv_if_eq (tgt := 61) hx hb mD_Mo_choose_33 rfl (fun hc => ?_) (fun hc => ?_)
        · skip
          exfalso; exact absurd hc (by decide)
        · skip
          have w1 := (hR.1 u1 hu1).2 hut1
          have w2 := (hR.1 u2 hu2).2 hut2
          have w3 := (hR.1 u3 hu3).2 hut3
          refine lv_aload_n hx hb mD_Mo_choose_36 rfl (lv_at hl 1 rfl) ?_
          refine lv_iconst (v := nI 0) hx hb mD_Mo_choose_37 (by decide) ?_
          refine lv_iload_n hx hb mD_Mo_choose_38 rfl (lv_at hl 2 rfl) ?_
          refine lv_iload_n hx hb mD_Mo_choose_39 rfl (lv_at hl 3 rfl) ?_
          refine gc_Vi (As := [.int (nI 0), .int (nI u1), .int (nI u2)]) (rest := []) hx hb hml hown htw hK hP hS 0 (k_Mo_great l D ct ad hI x (gt := 0) (by decide) hu1 hu2 w1.2.2 w2.2.2 w1.1 w2.1) gZ0_ok (fun _ _ _ => trivial) (gA_mono hS.1) (by decide) rfl rfl ww_733 ww_735 ww_20 ww_33 wC_Mo_great mP_Mo_great (by decide) rfl hl.1 rfl (Nat.le_of_ble_eq_true rfl) mD_Mo_choose_40 ⟨Nat.le_of_ble_eq_true rfl, Nat.le_of_ble_eq_true rfl⟩ (fun r8 x7 H locs hp7 hP _ _ hS => ?_)
          obtain ⟨hq_, hr_⟩ := hp7
          rw [hq_] at hP
          have er : r8 = nI 0 := by rcases hr_ with ⟨_, h⟩ | ⟨e, _⟩; exact absurd h hf1; exact e
          subst er
          refine lv_if_ne (tgt := 57) hx hb mD_Mo_choose_43 rfl (fun hc => ?_) (fun hc => ?_)
          · skip
            exfalso; exact hc rfl
          · skip
            refine lv_aload_n hx hb mD_Mo_choose_46 rfl (lv_at hl 1 rfl) ?_
            refine lv_bipush (v := nI 6) hx hb mD_Mo_choose_47 (by decide) ?_
            refine lv_iload_n hx hb mD_Mo_choose_49 rfl (lv_at hl 4 rfl) ?_
            refine lv_iload_n hx hb mD_Mo_choose_50 rfl (lv_at hl 2 rfl) ?_
            refine gc_Vi (As := [.int (nI 6), .int (nI u3), .int (nI u1)]) (rest := []) hx hb hml hown htw hK hP hS 0 (k_Mo_great l D ct ad hI x (gt := 6) (by decide) hu3 hu1 w3.2.2 w1.2.2 w3.1 w1.1) gZ0_ok (fun _ _ _ => trivial) (gA_mono hS.1) (by decide) rfl rfl ww_733 ww_735 ww_20 ww_33 wC_Mo_great mP_Mo_great (by decide) rfl hl.1 rfl (Nat.le_of_ble_eq_true rfl) mD_Mo_choose_51 ⟨Nat.le_of_ble_eq_true rfl, Nat.le_of_ble_eq_true rfl⟩ (fun r10 x9 H locs hp9 hP _ _ hS => ?_)
            obtain ⟨hq_, hr_⟩ := hp9
            rw [hq_] at hP
            have er : r10 = nI 0 := by rcases hr_ with ⟨_, h⟩ | ⟨e, _⟩; exact absurd h hf2; exact e
            subst er
            refine lv_if_eq (tgt := 61) hx hb mD_Mo_choose_54 rfl (fun hc => ?_) (fun hc => ?_)
            · skip
              refine lv_iconst (v := nI 0) hx hb mD_Mo_choose_61 (by decide) ?_
              refine lv_istore (lv' := [(5, .int (nI 0)), (4, .int (nI 1)), (0, .ref (ad 0)), (1, .int (nI u1)), (2, .int (nI u2)), (3, .int (nI u3))]) hx hb mD_Mo_choose_62 hl (by decide) rfl (fun ls hl => ?_)
              refine lv_aload_n hx hb mD_Mo_choose_64 rfl (lv_at hl 2 rfl) ?_
              refine lv_iload hx hb mD_Mo_choose_65 (lv_at hl 0 rfl) ?_
              refine lv_if_eq (tgt := 79) hx hb mD_Mo_choose_67 rfl (fun hc => ?_) (fun hc => ?_)
              · skip
                refine lv_aload_n hx hb mD_Mo_choose_79 rfl (lv_at hl 2 rfl) ?_
                refine m_get (C := cN_Mo) (T := cF_Mo) (N := 11) (ci := 8) hx hb htw wU_Mo hown hK hP 0 (by decide) rfl rfl 5 (by decide) rfl ww_645 rfl mD_Mo_choose_80 ?_
                refine m_put (C := cN_Mo) (T := cF_Mo) (N := 11) (ci := 8) hx hb htw wU_Mo cT_Mo cO_Mo cM_Mo hown hK hI hA hP hS 0 (by decide) rfl rfl 5 (by decide) rfl ww_645 rfl rfl rfl (Nat.le_of_ble_eq_true rfl) rfl mD_Mo_choose_83 (fun H locs hP hS => ?_)
                obtain ⟨x11, hx11⟩ : ∃ z_, z_ = va_up x 0 (upd (x 0) 5 (x 0 5)) := ⟨_, rfl⟩
                rw [← hx11] at hP
                have R0 : mR α t0 x11 := by rw [hx11]; exact mR_ref0 hR
                refine lv_aload_n hx hb mD_Mo_choose_86 rfl (lv_at hl 2 rfl) ?_
                refine lv_iload hx hb mD_Mo_choose_87 (lv_at hl 1 rfl) ?_
                refine lv_iload hx hb mD_Mo_choose_89 (lv_at hl 0 rfl) ?_
                refine lv_if_ne (tgt := 107) hx hb mD_Mo_choose_91 rfl (fun hc => ?_) (fun hc => ?_)
                · skip
                  exfalso; exact hc rfl
                · skip
                  refine lv_aload_n hx hb mD_Mo_choose_94 rfl (lv_at hl 2 rfl) ?_
                  refine gc_Vi (As := []) (rest := [.int (nI 1), .ref (ad 0)]) hx hb hml hown htw hK hP hS 0 (k_Mo_many l D ct ad hI x11 (f := aT α) (fun q hq => (R0.1 q hq).1)) gZ0_ok (fun _ _ _ => trivial) (gA_mono hS.1) (by decide) rfl rfl ww_683 ww_685 ww_15 ww_33 wC_Mo_many mP_Mo_many (by decide) rfl hl.1 rfl (Nat.le_of_ble_eq_true rfl) mD_Mo_choose_95 ⟨Nat.le_of_ble_eq_true rfl, Nat.le_of_ble_eq_true rfl⟩ (fun r13 x12 H locs hp12 hP _ _ hS => ?_)
                  obtain ⟨hq_, rfl⟩ := hp12
                  rw [hq_] at hP
                  refine lv_bipush (v := nI 120) hx hb mD_Mo_choose_98 (by decide) ?_
                  refine lv_icmp_ge (tgt := 107) hx hb mD_Mo_choose_100 rfl (fun hc => ?_) (fun hc => ?_)
                  · skip
                    exfalso; exact tm_free hf hc
                  · skip
                    refine lv_iconst (v := nI 1) hx hb mD_Mo_choose_103 (by decide) ?_
                    refine lv_goto (tgt := 108) hx hb mD_Mo_choose_104 rfl ?_
                    refine lv_iconst (v := nI 1) hx hb mD_Mo_choose_108 (by decide) ?_
                    refine gc_Vi (As := [.int (nI 1), .int (nI 1), .int (nI 1)]) (rest := []) hx hb hml hown htw hK hP hS 0 (k_Mo_goes l D ct ad hI x11 (b1 := true) (b2 := true) (b3 := true) rfl rfl rfl) gZ0_ok (fun _ _ _ => trivial) (gA_mono hS.1) (by decide) rfl rfl ww_691 ww_693 ww_16 ww_33 wC_Mo_goes mP_Mo_goes (by decide) rfl hl.1 rfl (Nat.le_of_ble_eq_true rfl) mD_Mo_choose_109 ⟨Nat.le_of_ble_eq_true rfl, Nat.le_of_ble_eq_true rfl⟩ (fun r15 x14 H locs hp14 hP _ _ hS => ?_)
                    obtain ⟨hy, rfl⟩ := hp14
                    have R1 : mR (α) (mCode true true true) x14 := by rw [hy]; exact mR_code R0
                    refine lv_if_ne (tgt := 117) hx hb mD_Mo_choose_112 rfl (fun hc => ?_) (fun hc => ?_)
                    · skip
                      refine lv_aload_n hx hb mD_Mo_choose_117 rfl (lv_at hl 2 rfl) ?_
                      refine lv_aload_n hx hb mD_Mo_choose_118 rfl (lv_at hl 2 rfl) ?_
                      refine m_get (C := cN_Mo) (T := cF_Mo) (N := 11) (ci := 8) hx hb htw wU_Mo hown hK hP 0 (by decide) rfl rfl 4 (by decide) rfl ww_644 rfl mD_Mo_choose_119 ?_
                      refine lv_iconst (v := nI 3) hx hb mD_Mo_choose_122 (by decide) ?_
                      refine lv_iadd hx hb mD_Mo_choose_123 ?_
                      refine m_put (C := cN_Mo) (T := cF_Mo) (N := 11) (ci := 8) hx hb htw wU_Mo cT_Mo cO_Mo cM_Mo hown hK hI hA hP hS 0 (by decide) rfl rfl 4 (by decide) rfl ww_644 rfl rfl rfl (Nat.le_of_ble_eq_true rfl) rfl mD_Mo_choose_124 (fun H locs hP hS => ?_)
                      obtain ⟨x16, hx16⟩ : ∃ z_, z_ = va_up x14 0 (upd (x14 0) 4 ((x14 0 4) + (nI 3))) := ⟨_, rfl⟩
                      rw [← hx16] at hP
                      have R2 : mR (aGates α (aG α + 3)) 0 x16 := by rw [hx16, R1.2.1]; exact mR_gates R1
                      have v1 := (R2.1 u1 hu1).2 hut1
                      have v2 := (R2.1 u2 hu2).2 hut2
                      have v3 := (R2.1 u3 hu3).2 hut3
                      refine lv_aload_n hx hb mD_Mo_choose_127 rfl (lv_at hl 2 rfl) ?_
                      refine lv_aload_n hx hb mD_Mo_choose_128 rfl (lv_at hl 2 rfl) ?_
                      refine m_get (C := cN_Mo) (T := cF_Mo) (N := 11) (ci := 8) hx hb htw wU_Mo hown hK hP 0 (by decide) rfl rfl 2 (by decide) rfl ww_642 rfl mD_Mo_choose_129 ?_
                      refine lv_iload_n hx hb mD_Mo_choose_132 rfl (lv_at hl 3 rfl) ?_
                      refine m_zald hx hb hK hP 2 120 (by decide) rfl u1 rfl (by omega) (by decide) mD_Mo_choose_133 ?_
                      refine lv_if_eq (tgt := 146) hx hb mD_Mo_choose_134 rfl (fun a9 => ?_) (fun a9 => ?_)
                      · skip
                        refine lv_aload_n hx hb mD_Mo_choose_146 rfl (lv_at hl 2 rfl) ?_
                        refine m_get (C := cN_Mo) (T := cF_Mo) (N := 11) (ci := 8) hx hb htw wU_Mo hown hK hP 0 (by decide) rfl rfl 2 (by decide) rfl ww_642 rfl mD_Mo_choose_147 ?_
                        refine lv_iload_n hx hb mD_Mo_choose_150 rfl (lv_at hl 5 rfl) ?_
                        refine m_zald hx hb hK hP 2 120 (by decide) rfl u3 rfl (by omega) (by decide) mD_Mo_choose_151 ?_
                        refine lv_ldc hx hb hown (htw _ ww_743) mD_Mo_choose_152 ?_
                        have hz_ : aV α u1 = false := (tBi_b v1.2.1).2 a9
                        refine gc_Vi (As := [.int (x16 2 u3), .int ((3186688 : Int32))]) (rest := []) hx hb hml hown htw hK hP hS 0 (k_Mo_made l D ct ad hI x16 (z := if aV α u1 then aV α u2 else aV α u3) (by rw [hz_]; exact v3.2.1) (b := 3186688) (q := q) rfl hf.1 (mR_fr R2 hf).1 (mR_fr R2 hf).2) gZ0_ok (fun _ _ _ => trivial) (gA_mono hS.1) (by decide) rfl rfl ww_695 ww_697 ww_17 ww_33 wC_Mo_made mP_Mo_made (by decide) rfl hl.1 rfl (Nat.le_of_ble_eq_true rfl) mD_Mo_choose_154 ⟨Nat.le_of_ble_eq_true rfl, Nat.le_of_ble_eq_true rfl⟩ (fun r18 x17 H locs hp17 hP _ _ hS => ?_)
                        obtain ⟨rfl, ey⟩ := hp17
                        exact gw_iret hx hb hr hlocks hP hS (⟨rfl, mR_made R2 (by decide) ey⟩) mD_Mo_choose_157 (Nat.zero_le _) (Nat.zero_le _)
                      · skip
                        refine lv_aload_n hx hb mD_Mo_choose_137 rfl (lv_at hl 2 rfl) ?_
                        refine m_get (C := cN_Mo) (T := cF_Mo) (N := 11) (ci := 8) hx hb htw wU_Mo hown hK hP 0 (by decide) rfl rfl 2 (by decide) rfl ww_642 rfl mD_Mo_choose_138 ?_
                        refine lv_iload_n hx hb mD_Mo_choose_141 rfl (lv_at hl 4 rfl) ?_
                        refine m_zald hx hb hK hP 2 120 (by decide) rfl u2 rfl (by omega) (by decide) mD_Mo_choose_142 ?_
                        refine lv_goto (tgt := 152) hx hb mD_Mo_choose_143 rfl ?_
                        refine lv_ldc hx hb hown (htw _ ww_743) mD_Mo_choose_152 ?_
                        have hz_ : aV α u1 = true := (tBi_b v1.2.1).1 a9
                        refine gc_Vi (As := [.int (x16 2 u2), .int ((3186688 : Int32))]) (rest := []) hx hb hml hown htw hK hP hS 0 (k_Mo_made l D ct ad hI x16 (z := if aV α u1 then aV α u2 else aV α u3) (by rw [hz_]; exact v2.2.1) (b := 3186688) (q := q) rfl hf.1 (mR_fr R2 hf).1 (mR_fr R2 hf).2) gZ0_ok (fun _ _ _ => trivial) (gA_mono hS.1) (by decide) rfl rfl ww_695 ww_697 ww_17 ww_33 wC_Mo_made mP_Mo_made (by decide) rfl hl.1 rfl (Nat.le_of_ble_eq_true rfl) mD_Mo_choose_154 ⟨Nat.le_of_ble_eq_true rfl, Nat.le_of_ble_eq_true rfl⟩ (fun r20 x19 H locs hp19 hP _ _ hS => ?_)
                        obtain ⟨rfl, ey⟩ := hp19
                        exact gw_iret hx hb hr hlocks hP hS (⟨rfl, mR_made R2 (by decide) ey⟩) mD_Mo_choose_157 (Nat.zero_le _) (Nat.zero_le _)
                    · skip
                      exfalso; exact absurd hc (by decide)
              · skip
                exfalso; exact hc rfl
            · skip
              exfalso; exact hc rfl

set_option maxHeartbeats 4000000 in
set_option maxRecDepth 100000 in
theorem n1a_Mo_choose (l : Launch) (D : va_G) (ct : Nat → ClassId) (ad : Nat → Nat) (hI : gw_inj 8 ad) (x : mS) (α : tA) (t0 : Int32) (hR : mR α t0 x) (a b c_ : Int32) (hh : ¬ aHas α a) : gMi l mY_Mo_choose mB_Mo_choose 6 (some .int) (rF 1 25) D (tT ct) gZ0 8 ad (mD ct ad) [.ref (ad 0), .int a, .int b, .int c_] x (fun _ x' => mR α 1 x') := by
  refine gMi_enter (by decide) (Nat.le_of_ble_eq_true rfl) ?_
  intro p e s m below meth c ls hx hb hr htw hown hlocks hml hl hP hK hZ hS
  have hA : ∀ k, k < 8 → gA 8 ad s.heap.size (ad k) := fun _ h => gA_in h
  have hl : lv_has ls 6 [(0, .ref (ad 0)), (1, .int a), (2, .int b), (3, .int c_)] := hl
  refine lv_aload_n hx hb mD_Mo_choose_0 rfl (lv_at hl 0 rfl) ?_
  refine lv_iload_n hx hb mD_Mo_choose_1 rfl (lv_at hl 1 rfl) ?_
  refine gc_Vi (As := [.int a]) (rest := []) hx hb hml hown htw hK hP hS 0 (n_Mo_isBit l D ct ad hI x a (mR_no hR hh)) gZ0_ok (fun _ _ _ => trivial) (gA_mono hS.1) (by decide) rfl rfl ww_703 ww_705 ww_18 ww_33 wC_Mo_isBit mP_Mo_isBit (by decide) rfl hl.1 rfl (Nat.le_of_ble_eq_true rfl) mD_Mo_choose_2 ⟨Nat.le_of_ble_eq_true rfl, Nat.le_of_ble_eq_true rfl⟩ (fun r2 x1 H locs hp1 hP _ _ hS => ?_)
  obtain ⟨hq_, rfl⟩ := hp1
  rw [hq_] at hP
  refine lv_if_eq (tgt := 28) hx hb mD_Mo_choose_5 rfl (fun hc => ?_) (fun hc => ?_)
  · skip
    refine lv_iconst (v := nI 0) hx hb mD_Mo_choose_28 (by decide) ?_
    refine lv_istore (lv' := [(4, .int (nI 0)), (0, .ref (ad 0)), (1, .int a), (2, .int b), (3, .int c_)]) hx hb mD_Mo_choose_29 hl (by decide) rfl (fun ls hl => ?_)
    refine lv_iload hx hb mD_Mo_choose_31 (lv_at hl 0 rfl) ?_
    refine lv_if_eq (tgt := 61) hx hb mD_Mo_choose_33 rfl (fun hc => ?_) (fun hc => ?_)
    · skip
      refine lv_iconst (v := nI 0) hx hb mD_Mo_choose_61 (by decide) ?_
      refine lv_istore (lv' := [(5, .int (nI 0)), (4, .int (nI 0)), (0, .ref (ad 0)), (1, .int a), (2, .int b), (3, .int c_)]) hx hb mD_Mo_choose_62 hl (by decide) rfl (fun ls hl => ?_)
      refine lv_aload_n hx hb mD_Mo_choose_64 rfl (lv_at hl 2 rfl) ?_
      refine lv_iload hx hb mD_Mo_choose_65 (lv_at hl 0 rfl) ?_
      refine lv_if_eq (tgt := 79) hx hb mD_Mo_choose_67 rfl (fun hc => ?_) (fun hc => ?_)
      · skip
        refine lv_aload_n hx hb mD_Mo_choose_79 rfl (lv_at hl 2 rfl) ?_
        refine m_get (C := cN_Mo) (T := cF_Mo) (N := 11) (ci := 8) hx hb htw wU_Mo hown hK hP 0 (by decide) rfl rfl 5 (by decide) rfl ww_645 rfl mD_Mo_choose_80 ?_
        refine m_put (C := cN_Mo) (T := cF_Mo) (N := 11) (ci := 8) hx hb htw wU_Mo cT_Mo cO_Mo cM_Mo hown hK hI hA hP hS 0 (by decide) rfl rfl 5 (by decide) rfl ww_645 rfl rfl rfl (Nat.le_of_ble_eq_true rfl) rfl mD_Mo_choose_83 (fun H locs hP hS => ?_)
        obtain ⟨x3, hx3⟩ : ∃ z_, z_ = va_up x 0 (upd (x 0) 5 (x 0 5)) := ⟨_, rfl⟩
        rw [← hx3] at hP
        have R0 : mR α t0 x3 := by rw [hx3]; exact mR_ref0 hR
        refine lv_aload_n hx hb mD_Mo_choose_86 rfl (lv_at hl 2 rfl) ?_
        refine lv_iload hx hb mD_Mo_choose_87 (lv_at hl 1 rfl) ?_
        refine lv_iload hx hb mD_Mo_choose_89 (lv_at hl 0 rfl) ?_
        refine lv_if_ne (tgt := 107) hx hb mD_Mo_choose_91 rfl (fun hc => ?_) (fun hc => ?_)
        · skip
          exfalso; exact hc rfl
        · skip
          refine lv_aload_n hx hb mD_Mo_choose_94 rfl (lv_at hl 2 rfl) ?_
          refine gc_Vi (As := []) (rest := [.int (nI 0), .ref (ad 0)]) hx hb hml hown htw hK hP hS 0 (k_Mo_many l D ct ad hI x3 (f := aT α) (fun q hq => (R0.1 q hq).1)) gZ0_ok (fun _ _ _ => trivial) (gA_mono hS.1) (by decide) rfl rfl ww_683 ww_685 ww_15 ww_33 wC_Mo_many mP_Mo_many (by decide) rfl hl.1 rfl (Nat.le_of_ble_eq_true rfl) mD_Mo_choose_95 ⟨Nat.le_of_ble_eq_true rfl, Nat.le_of_ble_eq_true rfl⟩ (fun r5 x4 H locs hp4 hP _ _ hS => ?_)
          obtain ⟨hq_, rfl⟩ := hp4
          rw [hq_] at hP
          refine lv_bipush (v := nI 120) hx hb mD_Mo_choose_98 (by decide) ?_
          refine lv_icmp_ge (tgt := 107) hx hb mD_Mo_choose_100 rfl (fun hc => ?_) (fun hc => ?_)
          · skip
            refine lv_iconst (v := nI 0) hx hb mD_Mo_choose_107 (by decide) ?_
            refine lv_iconst (v := nI 1) hx hb mD_Mo_choose_108 (by decide) ?_
            refine gc_Vi (As := [.int (nI 0), .int (nI 0), .int (nI 1)]) (rest := []) hx hb hml hown htw hK hP hS 0 (k_Mo_goes l D ct ad hI x3 (b1 := false) (b2 := false) (b3 := true) rfl rfl rfl) gZ0_ok (fun _ _ _ => trivial) (gA_mono hS.1) (by decide) rfl rfl ww_691 ww_693 ww_16 ww_33 wC_Mo_goes mP_Mo_goes (by decide) rfl hl.1 rfl (Nat.le_of_ble_eq_true rfl) mD_Mo_choose_109 ⟨Nat.le_of_ble_eq_true rfl, Nat.le_of_ble_eq_true rfl⟩ (fun r7 x6 H locs hp6 hP _ _ hS => ?_)
            obtain ⟨hy, rfl⟩ := hp6
            have R1 : mR (α) (mCode false false true) x6 := by rw [hy]; exact mR_code R0
            refine lv_if_ne (tgt := 117) hx hb mD_Mo_choose_112 rfl (fun hc => ?_) (fun hc => ?_)
            · skip
              exfalso; exact hc rfl
            · skip
              refine lv_iconst (v := nI 0) hx hb mD_Mo_choose_115 (by decide) ?_
              exact gw_iret hx hb hr hlocks hP hS (R1) mD_Mo_choose_116 (Nat.zero_le _) (Nat.zero_le _)
          · skip
            refine lv_iconst (v := nI 1) hx hb mD_Mo_choose_103 (by decide) ?_
            refine lv_goto (tgt := 108) hx hb mD_Mo_choose_104 rfl ?_
            refine lv_iconst (v := nI 1) hx hb mD_Mo_choose_108 (by decide) ?_
            refine gc_Vi (As := [.int (nI 0), .int (nI 1), .int (nI 1)]) (rest := []) hx hb hml hown htw hK hP hS 0 (k_Mo_goes l D ct ad hI x3 (b1 := false) (b2 := true) (b3 := true) rfl rfl rfl) gZ0_ok (fun _ _ _ => trivial) (gA_mono hS.1) (by decide) rfl rfl ww_691 ww_693 ww_16 ww_33 wC_Mo_goes mP_Mo_goes (by decide) rfl hl.1 rfl (Nat.le_of_ble_eq_true rfl) mD_Mo_choose_109 ⟨Nat.le_of_ble_eq_true rfl, Nat.le_of_ble_eq_true rfl⟩ (fun r9 x8 H locs hp8 hP _ _ hS => ?_)
            obtain ⟨hy, rfl⟩ := hp8
            have R1 : mR (α) (mCode false true true) x8 := by rw [hy]; exact mR_code R0
            refine lv_if_ne (tgt := 117) hx hb mD_Mo_choose_112 rfl (fun hc => ?_) (fun hc => ?_)
            · skip
              exfalso; exact hc rfl
            · skip
              refine lv_iconst (v := nI 0) hx hb mD_Mo_choose_115 (by decide) ?_
              exact gw_iret hx hb hr hlocks hP hS (R1) mD_Mo_choose_116 (Nat.zero_le _) (Nat.zero_le _)
      · skip
        exfalso; exact hc rfl
    · skip
      exfalso; exact hc rfl
  · skip
    exfalso; exact hc rfl

set_option maxHeartbeats 4000000 in
set_option maxRecDepth 100000 in
theorem n1b_Mo_choose (l : Launch) (D : va_G) (ct : Nat → ClassId) (ad : Nat → Nat) (hI : gw_inj 8 ad) (x : mS) (α : tA) (t0 : Int32) (hR : mR α t0 x) {u1 : Nat} (hu1 : u1 < 120) (hut1 : aT α u1 = true) (b c_ : Int32) (hh : ¬ aHas α b) : gMi l mY_Mo_choose mB_Mo_choose 6 (some .int) (rF 1 25) D (tT ct) gZ0 8 ad (mD ct ad) [.ref (ad 0), .int (nI u1), .int b, .int c_] x (fun _ x' => mR α 1 x') := by
  refine gMi_enter (by decide) (Nat.le_of_ble_eq_true rfl) ?_
  intro p e s m below meth c ls hx hb hr htw hown hlocks hml hl hP hK hZ hS
  have hA : ∀ k, k < 8 → gA 8 ad s.heap.size (ad k) := fun _ h => gA_in h
  have hl : lv_has ls 6 [(0, .ref (ad 0)), (1, .int (nI u1)), (2, .int b), (3, .int c_)] := hl
  refine lv_aload_n hx hb mD_Mo_choose_0 rfl (lv_at hl 0 rfl) ?_
  refine lv_iload_n hx hb mD_Mo_choose_1 rfl (lv_at hl 1 rfl) ?_
  refine gc_Vi (As := [.int (nI u1)]) (rest := []) hx hb hml hown htw hK hP hS 0 (k_Mo_isBit l D ct ad hI x (u := u1) hu1 (mR_th hR hu1 hut1)) gZ0_ok (fun _ _ _ => trivial) (gA_mono hS.1) (by decide) rfl rfl ww_703 ww_705 ww_18 ww_33 wC_Mo_isBit mP_Mo_isBit (by decide) rfl hl.1 rfl (Nat.le_of_ble_eq_true rfl) mD_Mo_choose_2 ⟨Nat.le_of_ble_eq_true rfl, Nat.le_of_ble_eq_true rfl⟩ (fun r2 x1 H locs hp1 hP _ _ hS => ?_)
  obtain ⟨hq_, rfl⟩ := hp1
  rw [hq_] at hP
  refine lv_if_eq (tgt := 28) hx hb mD_Mo_choose_5 rfl (fun hc => ?_) (fun hc => ?_)
  · skip
    exfalso; exact absurd hc (by decide)
  · skip
    refine lv_aload_n hx hb mD_Mo_choose_8 rfl (lv_at hl 0 rfl) ?_
    refine lv_iload_n hx hb mD_Mo_choose_9 rfl (lv_at hl 2 rfl) ?_
    refine gc_Vi (As := [.int b]) (rest := []) hx hb hml hown htw hK hP hS 0 (n_Mo_isBit l D ct ad hI x b (mR_no hR hh)) gZ0_ok (fun _ _ _ => trivial) (gA_mono hS.1) (by decide) rfl rfl ww_703 ww_705 ww_18 ww_33 wC_Mo_isBit mP_Mo_isBit (by decide) rfl hl.1 rfl (Nat.le_of_ble_eq_true rfl) mD_Mo_choose_10 ⟨Nat.le_of_ble_eq_true rfl, Nat.le_of_ble_eq_true rfl⟩ (fun r4 x3 H locs hp3 hP _ _ hS => ?_)
    obtain ⟨hq_, rfl⟩ := hp3
    rw [hq_] at hP
    refine lv_if_eq (tgt := 28) hx hb mD_Mo_choose_13 rfl (fun hc => ?_) (fun hc => ?_)
    · skip
      refine lv_iconst (v := nI 0) hx hb mD_Mo_choose_28 (by decide) ?_
      refine lv_istore (lv' := [(4, .int (nI 0)), (0, .ref (ad 0)), (1, .int (nI u1)), (2, .int b), (3, .int c_)]) hx hb mD_Mo_choose_29 hl (by decide) rfl (fun ls hl => ?_)
      refine lv_iload hx hb mD_Mo_choose_31 (lv_at hl 0 rfl) ?_
      refine lv_if_eq (tgt := 61) hx hb mD_Mo_choose_33 rfl (fun hc => ?_) (fun hc => ?_)
      · skip
        refine lv_iconst (v := nI 0) hx hb mD_Mo_choose_61 (by decide) ?_
        refine lv_istore (lv' := [(5, .int (nI 0)), (4, .int (nI 0)), (0, .ref (ad 0)), (1, .int (nI u1)), (2, .int b), (3, .int c_)]) hx hb mD_Mo_choose_62 hl (by decide) rfl (fun ls hl => ?_)
        refine lv_aload_n hx hb mD_Mo_choose_64 rfl (lv_at hl 2 rfl) ?_
        refine lv_iload hx hb mD_Mo_choose_65 (lv_at hl 0 rfl) ?_
        refine lv_if_eq (tgt := 79) hx hb mD_Mo_choose_67 rfl (fun hc => ?_) (fun hc => ?_)
        · skip
          refine lv_aload_n hx hb mD_Mo_choose_79 rfl (lv_at hl 2 rfl) ?_
          refine m_get (C := cN_Mo) (T := cF_Mo) (N := 11) (ci := 8) hx hb htw wU_Mo hown hK hP 0 (by decide) rfl rfl 5 (by decide) rfl ww_645 rfl mD_Mo_choose_80 ?_
          refine m_put (C := cN_Mo) (T := cF_Mo) (N := 11) (ci := 8) hx hb htw wU_Mo cT_Mo cO_Mo cM_Mo hown hK hI hA hP hS 0 (by decide) rfl rfl 5 (by decide) rfl ww_645 rfl rfl rfl (Nat.le_of_ble_eq_true rfl) rfl mD_Mo_choose_83 (fun H locs hP hS => ?_)
          obtain ⟨x5, hx5⟩ : ∃ z_, z_ = va_up x 0 (upd (x 0) 5 (x 0 5)) := ⟨_, rfl⟩
          rw [← hx5] at hP
          have R0 : mR α t0 x5 := by rw [hx5]; exact mR_ref0 hR
          refine lv_aload_n hx hb mD_Mo_choose_86 rfl (lv_at hl 2 rfl) ?_
          refine lv_iload hx hb mD_Mo_choose_87 (lv_at hl 1 rfl) ?_
          refine lv_iload hx hb mD_Mo_choose_89 (lv_at hl 0 rfl) ?_
          refine lv_if_ne (tgt := 107) hx hb mD_Mo_choose_91 rfl (fun hc => ?_) (fun hc => ?_)
          · skip
            exfalso; exact hc rfl
          · skip
            refine lv_aload_n hx hb mD_Mo_choose_94 rfl (lv_at hl 2 rfl) ?_
            refine gc_Vi (As := []) (rest := [.int (nI 0), .ref (ad 0)]) hx hb hml hown htw hK hP hS 0 (k_Mo_many l D ct ad hI x5 (f := aT α) (fun q hq => (R0.1 q hq).1)) gZ0_ok (fun _ _ _ => trivial) (gA_mono hS.1) (by decide) rfl rfl ww_683 ww_685 ww_15 ww_33 wC_Mo_many mP_Mo_many (by decide) rfl hl.1 rfl (Nat.le_of_ble_eq_true rfl) mD_Mo_choose_95 ⟨Nat.le_of_ble_eq_true rfl, Nat.le_of_ble_eq_true rfl⟩ (fun r7 x6 H locs hp6 hP _ _ hS => ?_)
            obtain ⟨hq_, rfl⟩ := hp6
            rw [hq_] at hP
            refine lv_bipush (v := nI 120) hx hb mD_Mo_choose_98 (by decide) ?_
            refine lv_icmp_ge (tgt := 107) hx hb mD_Mo_choose_100 rfl (fun hc => ?_) (fun hc => ?_)
            · skip
              refine lv_iconst (v := nI 0) hx hb mD_Mo_choose_107 (by decide) ?_
              refine lv_iconst (v := nI 1) hx hb mD_Mo_choose_108 (by decide) ?_
              refine gc_Vi (As := [.int (nI 0), .int (nI 0), .int (nI 1)]) (rest := []) hx hb hml hown htw hK hP hS 0 (k_Mo_goes l D ct ad hI x5 (b1 := false) (b2 := false) (b3 := true) rfl rfl rfl) gZ0_ok (fun _ _ _ => trivial) (gA_mono hS.1) (by decide) rfl rfl ww_691 ww_693 ww_16 ww_33 wC_Mo_goes mP_Mo_goes (by decide) rfl hl.1 rfl (Nat.le_of_ble_eq_true rfl) mD_Mo_choose_109 ⟨Nat.le_of_ble_eq_true rfl, Nat.le_of_ble_eq_true rfl⟩ (fun r9 x8 H locs hp8 hP _ _ hS => ?_)
              obtain ⟨hy, rfl⟩ := hp8
              have R1 : mR (α) (mCode false false true) x8 := by rw [hy]; exact mR_code R0
              refine lv_if_ne (tgt := 117) hx hb mD_Mo_choose_112 rfl (fun hc => ?_) (fun hc => ?_)
              · skip
                exfalso; exact hc rfl
              · skip
                refine lv_iconst (v := nI 0) hx hb mD_Mo_choose_115 (by decide) ?_
                exact gw_iret hx hb hr hlocks hP hS (R1) mD_Mo_choose_116 (Nat.zero_le _) (Nat.zero_le _)
            · skip
              refine lv_iconst (v := nI 1) hx hb mD_Mo_choose_103 (by decide) ?_
              refine lv_goto (tgt := 108) hx hb mD_Mo_choose_104 rfl ?_
              refine lv_iconst (v := nI 1) hx hb mD_Mo_choose_108 (by decide) ?_
              refine gc_Vi (As := [.int (nI 0), .int (nI 1), .int (nI 1)]) (rest := []) hx hb hml hown htw hK hP hS 0 (k_Mo_goes l D ct ad hI x5 (b1 := false) (b2 := true) (b3 := true) rfl rfl rfl) gZ0_ok (fun _ _ _ => trivial) (gA_mono hS.1) (by decide) rfl rfl ww_691 ww_693 ww_16 ww_33 wC_Mo_goes mP_Mo_goes (by decide) rfl hl.1 rfl (Nat.le_of_ble_eq_true rfl) mD_Mo_choose_109 ⟨Nat.le_of_ble_eq_true rfl, Nat.le_of_ble_eq_true rfl⟩ (fun r11 x10 H locs hp10 hP _ _ hS => ?_)
              obtain ⟨hy, rfl⟩ := hp10
              have R1 : mR (α) (mCode false true true) x10 := by rw [hy]; exact mR_code R0
              refine lv_if_ne (tgt := 117) hx hb mD_Mo_choose_112 rfl (fun hc => ?_) (fun hc => ?_)
              · skip
                exfalso; exact hc rfl
              · skip
                refine lv_iconst (v := nI 0) hx hb mD_Mo_choose_115 (by decide) ?_
                exact gw_iret hx hb hr hlocks hP hS (R1) mD_Mo_choose_116 (Nat.zero_le _) (Nat.zero_le _)
        · skip
          exfalso; exact hc rfl
      · skip
        exfalso; exact hc rfl
    · skip
      exfalso; exact hc rfl

set_option maxHeartbeats 4000000 in
set_option maxRecDepth 100000 in
theorem n1c_Mo_choose (l : Launch) (D : va_G) (ct : Nat → ClassId) (ad : Nat → Nat) (hI : gw_inj 8 ad) (x : mS) (α : tA) (t0 : Int32) (hR : mR α t0 x) {u1 u2 : Nat} (hu1 : u1 < 120) (hut1 : aT α u1 = true) (hu2 : u2 < 120) (hut2 : aT α u2 = true) (c_ : Int32) (hh : ¬ aHas α c_) : gMi l mY_Mo_choose mB_Mo_choose 6 (some .int) (rF 1 25) D (tT ct) gZ0 8 ad (mD ct ad) [.ref (ad 0), .int (nI u1), .int (nI u2), .int c_] x (fun _ x' => mR α 1 x') := by
  refine gMi_enter (by decide) (Nat.le_of_ble_eq_true rfl) ?_
  intro p e s m below meth c ls hx hb hr htw hown hlocks hml hl hP hK hZ hS
  have hA : ∀ k, k < 8 → gA 8 ad s.heap.size (ad k) := fun _ h => gA_in h
  have hl : lv_has ls 6 [(0, .ref (ad 0)), (1, .int (nI u1)), (2, .int (nI u2)), (3, .int c_)] := hl
  refine lv_aload_n hx hb mD_Mo_choose_0 rfl (lv_at hl 0 rfl) ?_
  refine lv_iload_n hx hb mD_Mo_choose_1 rfl (lv_at hl 1 rfl) ?_
  refine gc_Vi (As := [.int (nI u1)]) (rest := []) hx hb hml hown htw hK hP hS 0 (k_Mo_isBit l D ct ad hI x (u := u1) hu1 (mR_th hR hu1 hut1)) gZ0_ok (fun _ _ _ => trivial) (gA_mono hS.1) (by decide) rfl rfl ww_703 ww_705 ww_18 ww_33 wC_Mo_isBit mP_Mo_isBit (by decide) rfl hl.1 rfl (Nat.le_of_ble_eq_true rfl) mD_Mo_choose_2 ⟨Nat.le_of_ble_eq_true rfl, Nat.le_of_ble_eq_true rfl⟩ (fun r2 x1 H locs hp1 hP _ _ hS => ?_)
  obtain ⟨hq_, rfl⟩ := hp1
  rw [hq_] at hP
  refine lv_if_eq (tgt := 28) hx hb mD_Mo_choose_5 rfl (fun hc => ?_) (fun hc => ?_)
  · skip
    exfalso; exact absurd hc (by decide)
  · skip
    refine lv_aload_n hx hb mD_Mo_choose_8 rfl (lv_at hl 0 rfl) ?_
    refine lv_iload_n hx hb mD_Mo_choose_9 rfl (lv_at hl 2 rfl) ?_
    refine gc_Vi (As := [.int (nI u2)]) (rest := []) hx hb hml hown htw hK hP hS 0 (k_Mo_isBit l D ct ad hI x (u := u2) hu2 (mR_th hR hu2 hut2)) gZ0_ok (fun _ _ _ => trivial) (gA_mono hS.1) (by decide) rfl rfl ww_703 ww_705 ww_18 ww_33 wC_Mo_isBit mP_Mo_isBit (by decide) rfl hl.1 rfl (Nat.le_of_ble_eq_true rfl) mD_Mo_choose_10 ⟨Nat.le_of_ble_eq_true rfl, Nat.le_of_ble_eq_true rfl⟩ (fun r4 x3 H locs hp3 hP _ _ hS => ?_)
    obtain ⟨hq_, rfl⟩ := hp3
    rw [hq_] at hP
    refine lv_if_eq (tgt := 28) hx hb mD_Mo_choose_13 rfl (fun hc => ?_) (fun hc => ?_)
    · skip
      exfalso; exact absurd hc (by decide)
    · skip
      refine lv_aload_n hx hb mD_Mo_choose_16 rfl (lv_at hl 0 rfl) ?_
      refine lv_iload_n hx hb mD_Mo_choose_17 rfl (lv_at hl 3 rfl) ?_
      refine gc_Vi (As := [.int c_]) (rest := []) hx hb hml hown htw hK hP hS 0 (n_Mo_isBit l D ct ad hI x c_ (mR_no hR hh)) gZ0_ok (fun _ _ _ => trivial) (gA_mono hS.1) (by decide) rfl rfl ww_703 ww_705 ww_18 ww_33 wC_Mo_isBit mP_Mo_isBit (by decide) rfl hl.1 rfl (Nat.le_of_ble_eq_true rfl) mD_Mo_choose_18 ⟨Nat.le_of_ble_eq_true rfl, Nat.le_of_ble_eq_true rfl⟩ (fun r6 x5 H locs hp5 hP _ _ hS => ?_)
      obtain ⟨hq_, rfl⟩ := hp5
      rw [hq_] at hP
      refine lv_if_eq (tgt := 28) hx hb mD_Mo_choose_21 rfl (fun hc => ?_) (fun hc => ?_)
      · skip
        refine lv_iconst (v := nI 0) hx hb mD_Mo_choose_28 (by decide) ?_
        refine lv_istore (lv' := [(4, .int (nI 0)), (0, .ref (ad 0)), (1, .int (nI u1)), (2, .int (nI u2)), (3, .int c_)]) hx hb mD_Mo_choose_29 hl (by decide) rfl (fun ls hl => ?_)
        refine lv_iload hx hb mD_Mo_choose_31 (lv_at hl 0 rfl) ?_
        refine lv_if_eq (tgt := 61) hx hb mD_Mo_choose_33 rfl (fun hc => ?_) (fun hc => ?_)
        · skip
          refine lv_iconst (v := nI 0) hx hb mD_Mo_choose_61 (by decide) ?_
          refine lv_istore (lv' := [(5, .int (nI 0)), (4, .int (nI 0)), (0, .ref (ad 0)), (1, .int (nI u1)), (2, .int (nI u2)), (3, .int c_)]) hx hb mD_Mo_choose_62 hl (by decide) rfl (fun ls hl => ?_)
          refine lv_aload_n hx hb mD_Mo_choose_64 rfl (lv_at hl 2 rfl) ?_
          refine lv_iload hx hb mD_Mo_choose_65 (lv_at hl 0 rfl) ?_
          refine lv_if_eq (tgt := 79) hx hb mD_Mo_choose_67 rfl (fun hc => ?_) (fun hc => ?_)
          · skip
            refine lv_aload_n hx hb mD_Mo_choose_79 rfl (lv_at hl 2 rfl) ?_
            refine m_get (C := cN_Mo) (T := cF_Mo) (N := 11) (ci := 8) hx hb htw wU_Mo hown hK hP 0 (by decide) rfl rfl 5 (by decide) rfl ww_645 rfl mD_Mo_choose_80 ?_
            refine m_put (C := cN_Mo) (T := cF_Mo) (N := 11) (ci := 8) hx hb htw wU_Mo cT_Mo cO_Mo cM_Mo hown hK hI hA hP hS 0 (by decide) rfl rfl 5 (by decide) rfl ww_645 rfl rfl rfl (Nat.le_of_ble_eq_true rfl) rfl mD_Mo_choose_83 (fun H locs hP hS => ?_)
            obtain ⟨x7, hx7⟩ : ∃ z_, z_ = va_up x 0 (upd (x 0) 5 (x 0 5)) := ⟨_, rfl⟩
            rw [← hx7] at hP
            have R0 : mR α t0 x7 := by rw [hx7]; exact mR_ref0 hR
            refine lv_aload_n hx hb mD_Mo_choose_86 rfl (lv_at hl 2 rfl) ?_
            refine lv_iload hx hb mD_Mo_choose_87 (lv_at hl 1 rfl) ?_
            refine lv_iload hx hb mD_Mo_choose_89 (lv_at hl 0 rfl) ?_
            refine lv_if_ne (tgt := 107) hx hb mD_Mo_choose_91 rfl (fun hc => ?_) (fun hc => ?_)
            · skip
              exfalso; exact hc rfl
            · skip
              refine lv_aload_n hx hb mD_Mo_choose_94 rfl (lv_at hl 2 rfl) ?_
              refine gc_Vi (As := []) (rest := [.int (nI 0), .ref (ad 0)]) hx hb hml hown htw hK hP hS 0 (k_Mo_many l D ct ad hI x7 (f := aT α) (fun q hq => (R0.1 q hq).1)) gZ0_ok (fun _ _ _ => trivial) (gA_mono hS.1) (by decide) rfl rfl ww_683 ww_685 ww_15 ww_33 wC_Mo_many mP_Mo_many (by decide) rfl hl.1 rfl (Nat.le_of_ble_eq_true rfl) mD_Mo_choose_95 ⟨Nat.le_of_ble_eq_true rfl, Nat.le_of_ble_eq_true rfl⟩ (fun r9 x8 H locs hp8 hP _ _ hS => ?_)
              obtain ⟨hq_, rfl⟩ := hp8
              rw [hq_] at hP
              refine lv_bipush (v := nI 120) hx hb mD_Mo_choose_98 (by decide) ?_
              refine lv_icmp_ge (tgt := 107) hx hb mD_Mo_choose_100 rfl (fun hc => ?_) (fun hc => ?_)
              · skip
                refine lv_iconst (v := nI 0) hx hb mD_Mo_choose_107 (by decide) ?_
                refine lv_iconst (v := nI 1) hx hb mD_Mo_choose_108 (by decide) ?_
                refine gc_Vi (As := [.int (nI 0), .int (nI 0), .int (nI 1)]) (rest := []) hx hb hml hown htw hK hP hS 0 (k_Mo_goes l D ct ad hI x7 (b1 := false) (b2 := false) (b3 := true) rfl rfl rfl) gZ0_ok (fun _ _ _ => trivial) (gA_mono hS.1) (by decide) rfl rfl ww_691 ww_693 ww_16 ww_33 wC_Mo_goes mP_Mo_goes (by decide) rfl hl.1 rfl (Nat.le_of_ble_eq_true rfl) mD_Mo_choose_109 ⟨Nat.le_of_ble_eq_true rfl, Nat.le_of_ble_eq_true rfl⟩ (fun r11 x10 H locs hp10 hP _ _ hS => ?_)
                obtain ⟨hy, rfl⟩ := hp10
                have R1 : mR (α) (mCode false false true) x10 := by rw [hy]; exact mR_code R0
                refine lv_if_ne (tgt := 117) hx hb mD_Mo_choose_112 rfl (fun hc => ?_) (fun hc => ?_)
                · skip
                  exfalso; exact hc rfl
                · skip
                  refine lv_iconst (v := nI 0) hx hb mD_Mo_choose_115 (by decide) ?_
                  exact gw_iret hx hb hr hlocks hP hS (R1) mD_Mo_choose_116 (Nat.zero_le _) (Nat.zero_le _)
              · skip
                refine lv_iconst (v := nI 1) hx hb mD_Mo_choose_103 (by decide) ?_
                refine lv_goto (tgt := 108) hx hb mD_Mo_choose_104 rfl ?_
                refine lv_iconst (v := nI 1) hx hb mD_Mo_choose_108 (by decide) ?_
                refine gc_Vi (As := [.int (nI 0), .int (nI 1), .int (nI 1)]) (rest := []) hx hb hml hown htw hK hP hS 0 (k_Mo_goes l D ct ad hI x7 (b1 := false) (b2 := true) (b3 := true) rfl rfl rfl) gZ0_ok (fun _ _ _ => trivial) (gA_mono hS.1) (by decide) rfl rfl ww_691 ww_693 ww_16 ww_33 wC_Mo_goes mP_Mo_goes (by decide) rfl hl.1 rfl (Nat.le_of_ble_eq_true rfl) mD_Mo_choose_109 ⟨Nat.le_of_ble_eq_true rfl, Nat.le_of_ble_eq_true rfl⟩ (fun r13 x12 H locs hp12 hP _ _ hS => ?_)
                obtain ⟨hy, rfl⟩ := hp12
                have R1 : mR (α) (mCode false true true) x12 := by rw [hy]; exact mR_code R0
                refine lv_if_ne (tgt := 117) hx hb mD_Mo_choose_112 rfl (fun hc => ?_) (fun hc => ?_)
                · skip
                  exfalso; exact hc rfl
                · skip
                  refine lv_iconst (v := nI 0) hx hb mD_Mo_choose_115 (by decide) ?_
                  exact gw_iret hx hb hr hlocks hP hS (R1) mD_Mo_choose_116 (Nat.zero_le _) (Nat.zero_le _)
          · skip
            exfalso; exact hc rfl
        · skip
          exfalso; exact hc rfl
      · skip
        exfalso; exact hc rfl

set_option maxHeartbeats 4000000 in
set_option maxRecDepth 100000 in
theorem n2a_Mo_choose (l : Launch) (D : va_G) (ct : Nat → ClassId) (ad : Nat → Nat) (hI : gw_inj 8 ad) (x : mS) (α : tA) (t0 : Int32) (hR : mR α t0 x) {u1 u2 u3 : Nat} (hu1 : u1 < 120) (hut1 : aT α u1 = true) (hu2 : u2 < 120) (hut2 : aT α u2 = true) (hu3 : u3 < 120) (hut3 : aT α u3 = true) (ht1 : tp_far 0 (aB α u1) (aB α u2)) : gMi l mY_Mo_choose mB_Mo_choose 6 (some .int) (rF 1 25) D (tT ct) gZ0 8 ad (mD ct ad) [.ref (ad 0), .int (nI u1), .int (nI u2), .int (nI u3)] x (fun _ x' => mR (aRefus α) 2 x') := by
  refine gMi_enter (by decide) (Nat.le_of_ble_eq_true rfl) ?_
  intro p e s m below meth c ls hx hb hr htw hown hlocks hml hl hP hK hZ hS
  have hA : ∀ k, k < 8 → gA 8 ad s.heap.size (ad k) := fun _ h => gA_in h
  have hl : lv_has ls 6 [(0, .ref (ad 0)), (1, .int (nI u1)), (2, .int (nI u2)), (3, .int (nI u3))] := hl
  refine lv_aload_n hx hb mD_Mo_choose_0 rfl (lv_at hl 0 rfl) ?_
  refine lv_iload_n hx hb mD_Mo_choose_1 rfl (lv_at hl 1 rfl) ?_
  refine gc_Vi (As := [.int (nI u1)]) (rest := []) hx hb hml hown htw hK hP hS 0 (k_Mo_isBit l D ct ad hI x (u := u1) hu1 (mR_th hR hu1 hut1)) gZ0_ok (fun _ _ _ => trivial) (gA_mono hS.1) (by decide) rfl rfl ww_703 ww_705 ww_18 ww_33 wC_Mo_isBit mP_Mo_isBit (by decide) rfl hl.1 rfl (Nat.le_of_ble_eq_true rfl) mD_Mo_choose_2 ⟨Nat.le_of_ble_eq_true rfl, Nat.le_of_ble_eq_true rfl⟩ (fun r2 x1 H locs hp1 hP _ _ hS => ?_)
  obtain ⟨hq_, rfl⟩ := hp1
  rw [hq_] at hP
  refine lv_if_eq (tgt := 28) hx hb mD_Mo_choose_5 rfl (fun hc => ?_) (fun hc => ?_)
  · skip
    exfalso; exact absurd hc (by decide)
  · skip
    refine lv_aload_n hx hb mD_Mo_choose_8 rfl (lv_at hl 0 rfl) ?_
    refine lv_iload_n hx hb mD_Mo_choose_9 rfl (lv_at hl 2 rfl) ?_
    refine gc_Vi (As := [.int (nI u2)]) (rest := []) hx hb hml hown htw hK hP hS 0 (k_Mo_isBit l D ct ad hI x (u := u2) hu2 (mR_th hR hu2 hut2)) gZ0_ok (fun _ _ _ => trivial) (gA_mono hS.1) (by decide) rfl rfl ww_703 ww_705 ww_18 ww_33 wC_Mo_isBit mP_Mo_isBit (by decide) rfl hl.1 rfl (Nat.le_of_ble_eq_true rfl) mD_Mo_choose_10 ⟨Nat.le_of_ble_eq_true rfl, Nat.le_of_ble_eq_true rfl⟩ (fun r4 x3 H locs hp3 hP _ _ hS => ?_)
    obtain ⟨hq_, rfl⟩ := hp3
    rw [hq_] at hP
    refine lv_if_eq (tgt := 28) hx hb mD_Mo_choose_13 rfl (fun hc => ?_) (fun hc => ?_)
    · skip
      exfalso; exact absurd hc (by decide)
    · skip
      refine lv_aload_n hx hb mD_Mo_choose_16 rfl (lv_at hl 0 rfl) ?_
      refine lv_iload_n hx hb mD_Mo_choose_17 rfl (lv_at hl 3 rfl) ?_
      refine gc_Vi (As := [.int (nI u3)]) (rest := []) hx hb hml hown htw hK hP hS 0 (k_Mo_isBit l D ct ad hI x (u := u3) hu3 (mR_th hR hu3 hut3)) gZ0_ok (fun _ _ _ => trivial) (gA_mono hS.1) (by decide) rfl rfl ww_703 ww_705 ww_18 ww_33 wC_Mo_isBit mP_Mo_isBit (by decide) rfl hl.1 rfl (Nat.le_of_ble_eq_true rfl) mD_Mo_choose_18 ⟨Nat.le_of_ble_eq_true rfl, Nat.le_of_ble_eq_true rfl⟩ (fun r6 x5 H locs hp5 hP _ _ hS => ?_)
      obtain ⟨hq_, rfl⟩ := hp5
      rw [hq_] at hP
      refine lv_if_eq (tgt := 28) hx hb mD_Mo_choose_21 rfl (fun hc => ?_) (fun hc => ?_)
      · skip
        exfalso; exact absurd hc (by decide)
      · skip
        refine lv_iconst (v := nI 1) hx hb mD_Mo_choose_24 (by decide) ?_
        refine lv_goto (tgt := 29) hx hb mD_Mo_choose_25 rfl ?_
        refine lv_istore (lv' := [(4, .int (nI 1)), (0, .ref (ad 0)), (1, .int (nI u1)), (2, .int (nI u2)), (3, .int (nI u3))]) hx hb mD_Mo_choose_29 hl (by decide) rfl (fun ls hl => ?_)
        refine lv_iload hx hb mD_Mo_choose_31 (lv_at hl 0 rfl) ?_
        refine lv_if_eq (tgt := 61) hx hb mD_Mo_choose_33 rfl (fun hc => ?_) (fun hc => ?_)
        · skip
          exfalso; exact absurd hc (by decide)
        · skip
          have w1 := (hR.1 u1 hu1).2 hut1
          have w2 := (hR.1 u2 hu2).2 hut2
          have w3 := (hR.1 u3 hu3).2 hut3
          refine lv_aload_n hx hb mD_Mo_choose_36 rfl (lv_at hl 1 rfl) ?_
          refine lv_iconst (v := nI 0) hx hb mD_Mo_choose_37 (by decide) ?_
          refine lv_iload_n hx hb mD_Mo_choose_38 rfl (lv_at hl 2 rfl) ?_
          refine lv_iload_n hx hb mD_Mo_choose_39 rfl (lv_at hl 3 rfl) ?_
          refine gc_Vi (As := [.int (nI 0), .int (nI u1), .int (nI u2)]) (rest := []) hx hb hml hown htw hK hP hS 0 (k_Mo_great l D ct ad hI x (gt := 0) (by decide) hu1 hu2 w1.2.2 w2.2.2 w1.1 w2.1) gZ0_ok (fun _ _ _ => trivial) (gA_mono hS.1) (by decide) rfl rfl ww_733 ww_735 ww_20 ww_33 wC_Mo_great mP_Mo_great (by decide) rfl hl.1 rfl (Nat.le_of_ble_eq_true rfl) mD_Mo_choose_40 ⟨Nat.le_of_ble_eq_true rfl, Nat.le_of_ble_eq_true rfl⟩ (fun r8 x7 H locs hp7 hP _ _ hS => ?_)
          obtain ⟨hq_, hr_⟩ := hp7
          rw [hq_] at hP
          have er : r8 = nI 1 := by rcases hr_ with ⟨e, _⟩ | ⟨_, h⟩; exact e; exact absurd ht1 h
          subst er
          refine lv_if_ne (tgt := 57) hx hb mD_Mo_choose_43 rfl (fun hc => ?_) (fun hc => ?_)
          · skip
            refine lv_iconst (v := nI 1) hx hb mD_Mo_choose_57 (by decide) ?_
            refine lv_goto (tgt := 62) hx hb mD_Mo_choose_58 rfl ?_
            refine lv_istore (lv' := [(5, .int (nI 1)), (4, .int (nI 1)), (0, .ref (ad 0)), (1, .int (nI u1)), (2, .int (nI u2)), (3, .int (nI u3))]) hx hb mD_Mo_choose_62 hl (by decide) rfl (fun ls hl => ?_)
            refine lv_aload_n hx hb mD_Mo_choose_64 rfl (lv_at hl 2 rfl) ?_
            refine lv_iload hx hb mD_Mo_choose_65 (lv_at hl 0 rfl) ?_
            refine lv_if_eq (tgt := 79) hx hb mD_Mo_choose_67 rfl (fun hc => ?_) (fun hc => ?_)
            · skip
              exfalso; exact absurd hc (by decide)
            · skip
              refine lv_aload_n hx hb mD_Mo_choose_70 rfl (lv_at hl 2 rfl) ?_
              refine m_get (C := cN_Mo) (T := cF_Mo) (N := 11) (ci := 8) hx hb htw wU_Mo hown hK hP 0 (by decide) rfl rfl 5 (by decide) rfl ww_645 rfl mD_Mo_choose_71 ?_
              refine lv_iconst (v := nI 1) hx hb mD_Mo_choose_74 (by decide) ?_
              refine lv_iadd hx hb mD_Mo_choose_75 ?_
              refine lv_goto (tgt := 83) hx hb mD_Mo_choose_76 rfl ?_
              refine m_put (C := cN_Mo) (T := cF_Mo) (N := 11) (ci := 8) hx hb htw wU_Mo cT_Mo cO_Mo cM_Mo hown hK hI hA hP hS 0 (by decide) rfl rfl 5 (by decide) rfl ww_645 rfl rfl rfl (Nat.le_of_ble_eq_true rfl) rfl mD_Mo_choose_83 (fun H locs hP hS => ?_)
              obtain ⟨x9, hx9⟩ : ∃ z_, z_ = va_up x 0 (upd (x 0) 5 ((x 0 5) + (nI 1))) := ⟨_, rfl⟩
              rw [← hx9] at hP
              have R0 : mR (aRefus α) t0 x9 := by rw [hx9]; exact mR_ref hR
              refine lv_aload_n hx hb mD_Mo_choose_86 rfl (lv_at hl 2 rfl) ?_
              refine lv_iload hx hb mD_Mo_choose_87 (lv_at hl 1 rfl) ?_
              refine lv_iload hx hb mD_Mo_choose_89 (lv_at hl 0 rfl) ?_
              refine lv_if_ne (tgt := 107) hx hb mD_Mo_choose_91 rfl (fun hc => ?_) (fun hc => ?_)
              · skip
                refine lv_iconst (v := nI 0) hx hb mD_Mo_choose_107 (by decide) ?_
                refine lv_iconst (v := nI 1) hx hb mD_Mo_choose_108 (by decide) ?_
                refine gc_Vi (As := [.int (nI 1), .int (nI 0), .int (nI 1)]) (rest := []) hx hb hml hown htw hK hP hS 0 (k_Mo_goes l D ct ad hI x9 (b1 := true) (b2 := false) (b3 := true) rfl rfl rfl) gZ0_ok (fun _ _ _ => trivial) (gA_mono hS.1) (by decide) rfl rfl ww_691 ww_693 ww_16 ww_33 wC_Mo_goes mP_Mo_goes (by decide) rfl hl.1 rfl (Nat.le_of_ble_eq_true rfl) mD_Mo_choose_109 ⟨Nat.le_of_ble_eq_true rfl, Nat.le_of_ble_eq_true rfl⟩ (fun r11 x10 H locs hp10 hP _ _ hS => ?_)
                obtain ⟨hy, rfl⟩ := hp10
                have R1 : mR (aRefus α) (mCode true false true) x10 := by rw [hy]; exact mR_code R0
                refine lv_if_ne (tgt := 117) hx hb mD_Mo_choose_112 rfl (fun hc => ?_) (fun hc => ?_)
                · skip
                  exfalso; exact hc rfl
                · skip
                  refine lv_iconst (v := nI 0) hx hb mD_Mo_choose_115 (by decide) ?_
                  exact gw_iret hx hb hr hlocks hP hS (R1) mD_Mo_choose_116 (Nat.zero_le _) (Nat.zero_le _)
              · skip
                exfalso; exact absurd hc (by decide)
          · skip
            exfalso; exact absurd hc (by decide)

set_option maxHeartbeats 4000000 in
set_option maxRecDepth 100000 in
theorem n2b_Mo_choose (l : Launch) (D : va_G) (ct : Nat → ClassId) (ad : Nat → Nat) (hI : gw_inj 8 ad) (x : mS) (α : tA) (t0 : Int32) (hR : mR α t0 x) {u1 u2 u3 : Nat} (hu1 : u1 < 120) (hut1 : aT α u1 = true) (hu2 : u2 < 120) (hut2 : aT α u2 = true) (hu3 : u3 < 120) (hut3 : aT α u3 = true) (hf1 : ¬ tp_far 0 (aB α u1) (aB α u2)) (ht2 : tp_far 6 (aB α u3) (aB α u1)) : gMi l mY_Mo_choose mB_Mo_choose 6 (some .int) (rF 1 25) D (tT ct) gZ0 8 ad (mD ct ad) [.ref (ad 0), .int (nI u1), .int (nI u2), .int (nI u3)] x (fun _ x' => mR (aRefus α) 2 x') := by
  refine gMi_enter (by decide) (Nat.le_of_ble_eq_true rfl) ?_
  intro p e s m below meth c ls hx hb hr htw hown hlocks hml hl hP hK hZ hS
  have hA : ∀ k, k < 8 → gA 8 ad s.heap.size (ad k) := fun _ h => gA_in h
  have hl : lv_has ls 6 [(0, .ref (ad 0)), (1, .int (nI u1)), (2, .int (nI u2)), (3, .int (nI u3))] := hl
  refine lv_aload_n hx hb mD_Mo_choose_0 rfl (lv_at hl 0 rfl) ?_
  refine lv_iload_n hx hb mD_Mo_choose_1 rfl (lv_at hl 1 rfl) ?_
  refine gc_Vi (As := [.int (nI u1)]) (rest := []) hx hb hml hown htw hK hP hS 0 (k_Mo_isBit l D ct ad hI x (u := u1) hu1 (mR_th hR hu1 hut1)) gZ0_ok (fun _ _ _ => trivial) (gA_mono hS.1) (by decide) rfl rfl ww_703 ww_705 ww_18 ww_33 wC_Mo_isBit mP_Mo_isBit (by decide) rfl hl.1 rfl (Nat.le_of_ble_eq_true rfl) mD_Mo_choose_2 ⟨Nat.le_of_ble_eq_true rfl, Nat.le_of_ble_eq_true rfl⟩ (fun r2 x1 H locs hp1 hP _ _ hS => ?_)
  obtain ⟨hq_, rfl⟩ := hp1
  rw [hq_] at hP
  refine lv_if_eq (tgt := 28) hx hb mD_Mo_choose_5 rfl (fun hc => ?_) (fun hc => ?_)
  · skip
    exfalso; exact absurd hc (by decide)
  · skip
    refine lv_aload_n hx hb mD_Mo_choose_8 rfl (lv_at hl 0 rfl) ?_
    refine lv_iload_n hx hb mD_Mo_choose_9 rfl (lv_at hl 2 rfl) ?_
    refine gc_Vi (As := [.int (nI u2)]) (rest := []) hx hb hml hown htw hK hP hS 0 (k_Mo_isBit l D ct ad hI x (u := u2) hu2 (mR_th hR hu2 hut2)) gZ0_ok (fun _ _ _ => trivial) (gA_mono hS.1) (by decide) rfl rfl ww_703 ww_705 ww_18 ww_33 wC_Mo_isBit mP_Mo_isBit (by decide) rfl hl.1 rfl (Nat.le_of_ble_eq_true rfl) mD_Mo_choose_10 ⟨Nat.le_of_ble_eq_true rfl, Nat.le_of_ble_eq_true rfl⟩ (fun r4 x3 H locs hp3 hP _ _ hS => ?_)
    obtain ⟨hq_, rfl⟩ := hp3
    rw [hq_] at hP
    refine lv_if_eq (tgt := 28) hx hb mD_Mo_choose_13 rfl (fun hc => ?_) (fun hc => ?_)
    · skip
      exfalso; exact absurd hc (by decide)
    · skip
      refine lv_aload_n hx hb mD_Mo_choose_16 rfl (lv_at hl 0 rfl) ?_
      refine lv_iload_n hx hb mD_Mo_choose_17 rfl (lv_at hl 3 rfl) ?_
      refine gc_Vi (As := [.int (nI u3)]) (rest := []) hx hb hml hown htw hK hP hS 0 (k_Mo_isBit l D ct ad hI x (u := u3) hu3 (mR_th hR hu3 hut3)) gZ0_ok (fun _ _ _ => trivial) (gA_mono hS.1) (by decide) rfl rfl ww_703 ww_705 ww_18 ww_33 wC_Mo_isBit mP_Mo_isBit (by decide) rfl hl.1 rfl (Nat.le_of_ble_eq_true rfl) mD_Mo_choose_18 ⟨Nat.le_of_ble_eq_true rfl, Nat.le_of_ble_eq_true rfl⟩ (fun r6 x5 H locs hp5 hP _ _ hS => ?_)
      obtain ⟨hq_, rfl⟩ := hp5
      rw [hq_] at hP
      refine lv_if_eq (tgt := 28) hx hb mD_Mo_choose_21 rfl (fun hc => ?_) (fun hc => ?_)
      · skip
        exfalso; exact absurd hc (by decide)
      · skip
        refine lv_iconst (v := nI 1) hx hb mD_Mo_choose_24 (by decide) ?_
        refine lv_goto (tgt := 29) hx hb mD_Mo_choose_25 rfl ?_
        refine lv_istore (lv' := [(4, .int (nI 1)), (0, .ref (ad 0)), (1, .int (nI u1)), (2, .int (nI u2)), (3, .int (nI u3))]) hx hb mD_Mo_choose_29 hl (by decide) rfl (fun ls hl => ?_)
        refine lv_iload hx hb mD_Mo_choose_31 (lv_at hl 0 rfl) ?_
        refine lv_if_eq (tgt := 61) hx hb mD_Mo_choose_33 rfl (fun hc => ?_) (fun hc => ?_)
        · skip
          exfalso; exact absurd hc (by decide)
        · skip
          have w1 := (hR.1 u1 hu1).2 hut1
          have w2 := (hR.1 u2 hu2).2 hut2
          have w3 := (hR.1 u3 hu3).2 hut3
          refine lv_aload_n hx hb mD_Mo_choose_36 rfl (lv_at hl 1 rfl) ?_
          refine lv_iconst (v := nI 0) hx hb mD_Mo_choose_37 (by decide) ?_
          refine lv_iload_n hx hb mD_Mo_choose_38 rfl (lv_at hl 2 rfl) ?_
          refine lv_iload_n hx hb mD_Mo_choose_39 rfl (lv_at hl 3 rfl) ?_
          refine gc_Vi (As := [.int (nI 0), .int (nI u1), .int (nI u2)]) (rest := []) hx hb hml hown htw hK hP hS 0 (k_Mo_great l D ct ad hI x (gt := 0) (by decide) hu1 hu2 w1.2.2 w2.2.2 w1.1 w2.1) gZ0_ok (fun _ _ _ => trivial) (gA_mono hS.1) (by decide) rfl rfl ww_733 ww_735 ww_20 ww_33 wC_Mo_great mP_Mo_great (by decide) rfl hl.1 rfl (Nat.le_of_ble_eq_true rfl) mD_Mo_choose_40 ⟨Nat.le_of_ble_eq_true rfl, Nat.le_of_ble_eq_true rfl⟩ (fun r8 x7 H locs hp7 hP _ _ hS => ?_)
          obtain ⟨hq_, hr_⟩ := hp7
          rw [hq_] at hP
          have er : r8 = nI 0 := by rcases hr_ with ⟨_, h⟩ | ⟨e, _⟩; exact absurd h hf1; exact e
          subst er
          refine lv_if_ne (tgt := 57) hx hb mD_Mo_choose_43 rfl (fun hc => ?_) (fun hc => ?_)
          · skip
            exfalso; exact hc rfl
          · skip
            refine lv_aload_n hx hb mD_Mo_choose_46 rfl (lv_at hl 1 rfl) ?_
            refine lv_bipush (v := nI 6) hx hb mD_Mo_choose_47 (by decide) ?_
            refine lv_iload_n hx hb mD_Mo_choose_49 rfl (lv_at hl 4 rfl) ?_
            refine lv_iload_n hx hb mD_Mo_choose_50 rfl (lv_at hl 2 rfl) ?_
            refine gc_Vi (As := [.int (nI 6), .int (nI u3), .int (nI u1)]) (rest := []) hx hb hml hown htw hK hP hS 0 (k_Mo_great l D ct ad hI x (gt := 6) (by decide) hu3 hu1 w3.2.2 w1.2.2 w3.1 w1.1) gZ0_ok (fun _ _ _ => trivial) (gA_mono hS.1) (by decide) rfl rfl ww_733 ww_735 ww_20 ww_33 wC_Mo_great mP_Mo_great (by decide) rfl hl.1 rfl (Nat.le_of_ble_eq_true rfl) mD_Mo_choose_51 ⟨Nat.le_of_ble_eq_true rfl, Nat.le_of_ble_eq_true rfl⟩ (fun r10 x9 H locs hp9 hP _ _ hS => ?_)
            obtain ⟨hq_, hr_⟩ := hp9
            rw [hq_] at hP
            have er : r10 = nI 1 := by rcases hr_ with ⟨e, _⟩ | ⟨_, h⟩; exact e; exact absurd ht2 h
            subst er
            refine lv_if_eq (tgt := 61) hx hb mD_Mo_choose_54 rfl (fun hc => ?_) (fun hc => ?_)
            · skip
              exfalso; exact absurd hc (by decide)
            · skip
              refine lv_iconst (v := nI 1) hx hb mD_Mo_choose_57 (by decide) ?_
              refine lv_goto (tgt := 62) hx hb mD_Mo_choose_58 rfl ?_
              refine lv_istore (lv' := [(5, .int (nI 1)), (4, .int (nI 1)), (0, .ref (ad 0)), (1, .int (nI u1)), (2, .int (nI u2)), (3, .int (nI u3))]) hx hb mD_Mo_choose_62 hl (by decide) rfl (fun ls hl => ?_)
              refine lv_aload_n hx hb mD_Mo_choose_64 rfl (lv_at hl 2 rfl) ?_
              refine lv_iload hx hb mD_Mo_choose_65 (lv_at hl 0 rfl) ?_
              refine lv_if_eq (tgt := 79) hx hb mD_Mo_choose_67 rfl (fun hc => ?_) (fun hc => ?_)
              · skip
                exfalso; exact absurd hc (by decide)
              · skip
                refine lv_aload_n hx hb mD_Mo_choose_70 rfl (lv_at hl 2 rfl) ?_
                refine m_get (C := cN_Mo) (T := cF_Mo) (N := 11) (ci := 8) hx hb htw wU_Mo hown hK hP 0 (by decide) rfl rfl 5 (by decide) rfl ww_645 rfl mD_Mo_choose_71 ?_
                refine lv_iconst (v := nI 1) hx hb mD_Mo_choose_74 (by decide) ?_
                refine lv_iadd hx hb mD_Mo_choose_75 ?_
                refine lv_goto (tgt := 83) hx hb mD_Mo_choose_76 rfl ?_
                refine m_put (C := cN_Mo) (T := cF_Mo) (N := 11) (ci := 8) hx hb htw wU_Mo cT_Mo cO_Mo cM_Mo hown hK hI hA hP hS 0 (by decide) rfl rfl 5 (by decide) rfl ww_645 rfl rfl rfl (Nat.le_of_ble_eq_true rfl) rfl mD_Mo_choose_83 (fun H locs hP hS => ?_)
                obtain ⟨x11, hx11⟩ : ∃ z_, z_ = va_up x 0 (upd (x 0) 5 ((x 0 5) + (nI 1))) := ⟨_, rfl⟩
                rw [← hx11] at hP
                have R0 : mR (aRefus α) t0 x11 := by rw [hx11]; exact mR_ref hR
                refine lv_aload_n hx hb mD_Mo_choose_86 rfl (lv_at hl 2 rfl) ?_
                refine lv_iload hx hb mD_Mo_choose_87 (lv_at hl 1 rfl) ?_
                refine lv_iload hx hb mD_Mo_choose_89 (lv_at hl 0 rfl) ?_
                refine lv_if_ne (tgt := 107) hx hb mD_Mo_choose_91 rfl (fun hc => ?_) (fun hc => ?_)
                · skip
                  refine lv_iconst (v := nI 0) hx hb mD_Mo_choose_107 (by decide) ?_
                  refine lv_iconst (v := nI 1) hx hb mD_Mo_choose_108 (by decide) ?_
                  refine gc_Vi (As := [.int (nI 1), .int (nI 0), .int (nI 1)]) (rest := []) hx hb hml hown htw hK hP hS 0 (k_Mo_goes l D ct ad hI x11 (b1 := true) (b2 := false) (b3 := true) rfl rfl rfl) gZ0_ok (fun _ _ _ => trivial) (gA_mono hS.1) (by decide) rfl rfl ww_691 ww_693 ww_16 ww_33 wC_Mo_goes mP_Mo_goes (by decide) rfl hl.1 rfl (Nat.le_of_ble_eq_true rfl) mD_Mo_choose_109 ⟨Nat.le_of_ble_eq_true rfl, Nat.le_of_ble_eq_true rfl⟩ (fun r13 x12 H locs hp12 hP _ _ hS => ?_)
                  obtain ⟨hy, rfl⟩ := hp12
                  have R1 : mR (aRefus α) (mCode true false true) x12 := by rw [hy]; exact mR_code R0
                  refine lv_if_ne (tgt := 117) hx hb mD_Mo_choose_112 rfl (fun hc => ?_) (fun hc => ?_)
                  · skip
                    exfalso; exact hc rfl
                  · skip
                    refine lv_iconst (v := nI 0) hx hb mD_Mo_choose_115 (by decide) ?_
                    exact gw_iret hx hb hr hlocks hP hS (R1) mD_Mo_choose_116 (Nat.zero_le _) (Nat.zero_le _)
                · skip
                  exfalso; exact absurd hc (by decide)

set_option maxHeartbeats 4000000 in
set_option maxRecDepth 100000 in
theorem n2c_Mo_choose (l : Launch) (D : va_G) (ct : Nat → ClassId) (ad : Nat → Nat) (hI : gw_inj 8 ad) (x : mS) (α : tA) (t0 : Int32) (hR : mR α t0 x) {u1 u2 u3 : Nat} (hu1 : u1 < 120) (hut1 : aT α u1 = true) (hu2 : u2 < 120) (hut2 : aT α u2 = true) (hu3 : u3 < 120) (hut3 : aT α u3 = true) (hf1 : ¬ tp_far 0 (aB α u1) (aB α u2)) (hf2 : ¬ tp_far 6 (aB α u3) (aB α u1)) (hf : aFull α) : gMi l mY_Mo_choose mB_Mo_choose 6 (some .int) (rF 1 25) D (tT ct) gZ0 8 ad (mD ct ad) [.ref (ad 0), .int (nI u1), .int (nI u2), .int (nI u3)] x (fun _ x' => mR α 2 x') := by
  refine gMi_enter (by decide) (Nat.le_of_ble_eq_true rfl) ?_
  intro p e s m below meth c ls hx hb hr htw hown hlocks hml hl hP hK hZ hS
  have hA : ∀ k, k < 8 → gA 8 ad s.heap.size (ad k) := fun _ h => gA_in h
  have hl : lv_has ls 6 [(0, .ref (ad 0)), (1, .int (nI u1)), (2, .int (nI u2)), (3, .int (nI u3))] := hl
  refine lv_aload_n hx hb mD_Mo_choose_0 rfl (lv_at hl 0 rfl) ?_
  refine lv_iload_n hx hb mD_Mo_choose_1 rfl (lv_at hl 1 rfl) ?_
  refine gc_Vi (As := [.int (nI u1)]) (rest := []) hx hb hml hown htw hK hP hS 0 (k_Mo_isBit l D ct ad hI x (u := u1) hu1 (mR_th hR hu1 hut1)) gZ0_ok (fun _ _ _ => trivial) (gA_mono hS.1) (by decide) rfl rfl ww_703 ww_705 ww_18 ww_33 wC_Mo_isBit mP_Mo_isBit (by decide) rfl hl.1 rfl (Nat.le_of_ble_eq_true rfl) mD_Mo_choose_2 ⟨Nat.le_of_ble_eq_true rfl, Nat.le_of_ble_eq_true rfl⟩ (fun r2 x1 H locs hp1 hP _ _ hS => ?_)
  obtain ⟨hq_, rfl⟩ := hp1
  rw [hq_] at hP
  refine lv_if_eq (tgt := 28) hx hb mD_Mo_choose_5 rfl (fun hc => ?_) (fun hc => ?_)
  · skip
    exfalso; exact absurd hc (by decide)
  · skip
    refine lv_aload_n hx hb mD_Mo_choose_8 rfl (lv_at hl 0 rfl) ?_
    refine lv_iload_n hx hb mD_Mo_choose_9 rfl (lv_at hl 2 rfl) ?_
    refine gc_Vi (As := [.int (nI u2)]) (rest := []) hx hb hml hown htw hK hP hS 0 (k_Mo_isBit l D ct ad hI x (u := u2) hu2 (mR_th hR hu2 hut2)) gZ0_ok (fun _ _ _ => trivial) (gA_mono hS.1) (by decide) rfl rfl ww_703 ww_705 ww_18 ww_33 wC_Mo_isBit mP_Mo_isBit (by decide) rfl hl.1 rfl (Nat.le_of_ble_eq_true rfl) mD_Mo_choose_10 ⟨Nat.le_of_ble_eq_true rfl, Nat.le_of_ble_eq_true rfl⟩ (fun r4 x3 H locs hp3 hP _ _ hS => ?_)
    obtain ⟨hq_, rfl⟩ := hp3
    rw [hq_] at hP
    refine lv_if_eq (tgt := 28) hx hb mD_Mo_choose_13 rfl (fun hc => ?_) (fun hc => ?_)
    · skip
      exfalso; exact absurd hc (by decide)
    · skip
      refine lv_aload_n hx hb mD_Mo_choose_16 rfl (lv_at hl 0 rfl) ?_
      refine lv_iload_n hx hb mD_Mo_choose_17 rfl (lv_at hl 3 rfl) ?_
      refine gc_Vi (As := [.int (nI u3)]) (rest := []) hx hb hml hown htw hK hP hS 0 (k_Mo_isBit l D ct ad hI x (u := u3) hu3 (mR_th hR hu3 hut3)) gZ0_ok (fun _ _ _ => trivial) (gA_mono hS.1) (by decide) rfl rfl ww_703 ww_705 ww_18 ww_33 wC_Mo_isBit mP_Mo_isBit (by decide) rfl hl.1 rfl (Nat.le_of_ble_eq_true rfl) mD_Mo_choose_18 ⟨Nat.le_of_ble_eq_true rfl, Nat.le_of_ble_eq_true rfl⟩ (fun r6 x5 H locs hp5 hP _ _ hS => ?_)
      obtain ⟨hq_, rfl⟩ := hp5
      rw [hq_] at hP
      refine lv_if_eq (tgt := 28) hx hb mD_Mo_choose_21 rfl (fun hc => ?_) (fun hc => ?_)
      · skip
        exfalso; exact absurd hc (by decide)
      · skip
        refine lv_iconst (v := nI 1) hx hb mD_Mo_choose_24 (by decide) ?_
        refine lv_goto (tgt := 29) hx hb mD_Mo_choose_25 rfl ?_
        refine lv_istore (lv' := [(4, .int (nI 1)), (0, .ref (ad 0)), (1, .int (nI u1)), (2, .int (nI u2)), (3, .int (nI u3))]) hx hb mD_Mo_choose_29 hl (by decide) rfl (fun ls hl => ?_)
        refine lv_iload hx hb mD_Mo_choose_31 (lv_at hl 0 rfl) ?_
        refine lv_if_eq (tgt := 61) hx hb mD_Mo_choose_33 rfl (fun hc => ?_) (fun hc => ?_)
        · skip
          exfalso; exact absurd hc (by decide)
        · skip
          have w1 := (hR.1 u1 hu1).2 hut1
          have w2 := (hR.1 u2 hu2).2 hut2
          have w3 := (hR.1 u3 hu3).2 hut3
          refine lv_aload_n hx hb mD_Mo_choose_36 rfl (lv_at hl 1 rfl) ?_
          refine lv_iconst (v := nI 0) hx hb mD_Mo_choose_37 (by decide) ?_
          refine lv_iload_n hx hb mD_Mo_choose_38 rfl (lv_at hl 2 rfl) ?_
          refine lv_iload_n hx hb mD_Mo_choose_39 rfl (lv_at hl 3 rfl) ?_
          refine gc_Vi (As := [.int (nI 0), .int (nI u1), .int (nI u2)]) (rest := []) hx hb hml hown htw hK hP hS 0 (k_Mo_great l D ct ad hI x (gt := 0) (by decide) hu1 hu2 w1.2.2 w2.2.2 w1.1 w2.1) gZ0_ok (fun _ _ _ => trivial) (gA_mono hS.1) (by decide) rfl rfl ww_733 ww_735 ww_20 ww_33 wC_Mo_great mP_Mo_great (by decide) rfl hl.1 rfl (Nat.le_of_ble_eq_true rfl) mD_Mo_choose_40 ⟨Nat.le_of_ble_eq_true rfl, Nat.le_of_ble_eq_true rfl⟩ (fun r8 x7 H locs hp7 hP _ _ hS => ?_)
          obtain ⟨hq_, hr_⟩ := hp7
          rw [hq_] at hP
          have er : r8 = nI 0 := by rcases hr_ with ⟨_, h⟩ | ⟨e, _⟩; exact absurd h hf1; exact e
          subst er
          refine lv_if_ne (tgt := 57) hx hb mD_Mo_choose_43 rfl (fun hc => ?_) (fun hc => ?_)
          · skip
            exfalso; exact hc rfl
          · skip
            refine lv_aload_n hx hb mD_Mo_choose_46 rfl (lv_at hl 1 rfl) ?_
            refine lv_bipush (v := nI 6) hx hb mD_Mo_choose_47 (by decide) ?_
            refine lv_iload_n hx hb mD_Mo_choose_49 rfl (lv_at hl 4 rfl) ?_
            refine lv_iload_n hx hb mD_Mo_choose_50 rfl (lv_at hl 2 rfl) ?_
            refine gc_Vi (As := [.int (nI 6), .int (nI u3), .int (nI u1)]) (rest := []) hx hb hml hown htw hK hP hS 0 (k_Mo_great l D ct ad hI x (gt := 6) (by decide) hu3 hu1 w3.2.2 w1.2.2 w3.1 w1.1) gZ0_ok (fun _ _ _ => trivial) (gA_mono hS.1) (by decide) rfl rfl ww_733 ww_735 ww_20 ww_33 wC_Mo_great mP_Mo_great (by decide) rfl hl.1 rfl (Nat.le_of_ble_eq_true rfl) mD_Mo_choose_51 ⟨Nat.le_of_ble_eq_true rfl, Nat.le_of_ble_eq_true rfl⟩ (fun r10 x9 H locs hp9 hP _ _ hS => ?_)
            obtain ⟨hq_, hr_⟩ := hp9
            rw [hq_] at hP
            have er : r10 = nI 0 := by rcases hr_ with ⟨_, h⟩ | ⟨e, _⟩; exact absurd h hf2; exact e
            subst er
            refine lv_if_eq (tgt := 61) hx hb mD_Mo_choose_54 rfl (fun hc => ?_) (fun hc => ?_)
            · skip
              refine lv_iconst (v := nI 0) hx hb mD_Mo_choose_61 (by decide) ?_
              refine lv_istore (lv' := [(5, .int (nI 0)), (4, .int (nI 1)), (0, .ref (ad 0)), (1, .int (nI u1)), (2, .int (nI u2)), (3, .int (nI u3))]) hx hb mD_Mo_choose_62 hl (by decide) rfl (fun ls hl => ?_)
              refine lv_aload_n hx hb mD_Mo_choose_64 rfl (lv_at hl 2 rfl) ?_
              refine lv_iload hx hb mD_Mo_choose_65 (lv_at hl 0 rfl) ?_
              refine lv_if_eq (tgt := 79) hx hb mD_Mo_choose_67 rfl (fun hc => ?_) (fun hc => ?_)
              · skip
                refine lv_aload_n hx hb mD_Mo_choose_79 rfl (lv_at hl 2 rfl) ?_
                refine m_get (C := cN_Mo) (T := cF_Mo) (N := 11) (ci := 8) hx hb htw wU_Mo hown hK hP 0 (by decide) rfl rfl 5 (by decide) rfl ww_645 rfl mD_Mo_choose_80 ?_
                refine m_put (C := cN_Mo) (T := cF_Mo) (N := 11) (ci := 8) hx hb htw wU_Mo cT_Mo cO_Mo cM_Mo hown hK hI hA hP hS 0 (by decide) rfl rfl 5 (by decide) rfl ww_645 rfl rfl rfl (Nat.le_of_ble_eq_true rfl) rfl mD_Mo_choose_83 (fun H locs hP hS => ?_)
                obtain ⟨x11, hx11⟩ : ∃ z_, z_ = va_up x 0 (upd (x 0) 5 (x 0 5)) := ⟨_, rfl⟩
                rw [← hx11] at hP
                have R0 : mR α t0 x11 := by rw [hx11]; exact mR_ref0 hR
                refine lv_aload_n hx hb mD_Mo_choose_86 rfl (lv_at hl 2 rfl) ?_
                refine lv_iload hx hb mD_Mo_choose_87 (lv_at hl 1 rfl) ?_
                refine lv_iload hx hb mD_Mo_choose_89 (lv_at hl 0 rfl) ?_
                refine lv_if_ne (tgt := 107) hx hb mD_Mo_choose_91 rfl (fun hc => ?_) (fun hc => ?_)
                · skip
                  exfalso; exact hc rfl
                · skip
                  refine lv_aload_n hx hb mD_Mo_choose_94 rfl (lv_at hl 2 rfl) ?_
                  refine gc_Vi (As := []) (rest := [.int (nI 1), .ref (ad 0)]) hx hb hml hown htw hK hP hS 0 (k_Mo_many l D ct ad hI x11 (f := aT α) (fun q hq => (R0.1 q hq).1)) gZ0_ok (fun _ _ _ => trivial) (gA_mono hS.1) (by decide) rfl rfl ww_683 ww_685 ww_15 ww_33 wC_Mo_many mP_Mo_many (by decide) rfl hl.1 rfl (Nat.le_of_ble_eq_true rfl) mD_Mo_choose_95 ⟨Nat.le_of_ble_eq_true rfl, Nat.le_of_ble_eq_true rfl⟩ (fun r13 x12 H locs hp12 hP _ _ hS => ?_)
                  obtain ⟨hq_, rfl⟩ := hp12
                  rw [hq_] at hP
                  refine lv_bipush (v := nI 120) hx hb mD_Mo_choose_98 (by decide) ?_
                  refine lv_icmp_ge (tgt := 107) hx hb mD_Mo_choose_100 rfl (fun hc => ?_) (fun hc => ?_)
                  · skip
                    refine lv_iconst (v := nI 0) hx hb mD_Mo_choose_107 (by decide) ?_
                    refine lv_iconst (v := nI 1) hx hb mD_Mo_choose_108 (by decide) ?_
                    refine gc_Vi (As := [.int (nI 1), .int (nI 0), .int (nI 1)]) (rest := []) hx hb hml hown htw hK hP hS 0 (k_Mo_goes l D ct ad hI x11 (b1 := true) (b2 := false) (b3 := true) rfl rfl rfl) gZ0_ok (fun _ _ _ => trivial) (gA_mono hS.1) (by decide) rfl rfl ww_691 ww_693 ww_16 ww_33 wC_Mo_goes mP_Mo_goes (by decide) rfl hl.1 rfl (Nat.le_of_ble_eq_true rfl) mD_Mo_choose_109 ⟨Nat.le_of_ble_eq_true rfl, Nat.le_of_ble_eq_true rfl⟩ (fun r15 x14 H locs hp14 hP _ _ hS => ?_)
                    obtain ⟨hy, rfl⟩ := hp14
                    have R1 : mR (α) (mCode true false true) x14 := by rw [hy]; exact mR_code R0
                    refine lv_if_ne (tgt := 117) hx hb mD_Mo_choose_112 rfl (fun hc => ?_) (fun hc => ?_)
                    · skip
                      exfalso; exact hc rfl
                    · skip
                      refine lv_iconst (v := nI 0) hx hb mD_Mo_choose_115 (by decide) ?_
                      exact gw_iret hx hb hr hlocks hP hS (R1) mD_Mo_choose_116 (Nat.zero_le _) (Nat.zero_le _)
                  · skip
                    exfalso; exact hc (tm_full hf)
              · skip
                exfalso; exact hc rfl
            · skip
              exfalso; exact hc rfl

set_option maxHeartbeats 4000000 in
set_option maxRecDepth 100000 in
theorem k_Mo_open (l : Launch) (D : va_G) (ct : Nat → ClassId) (ad : Nat → Nat) (hI : gw_inj 8 ad) (x : mS) (α : tA) (t0 : Int32) (hR : mR α t0 x) {u : Nat} (hu : u < 120) (hut : aT α u = true) (hb_ : aB α u < 268435456) : gMi l mY_Mo_open mB_Mo_open 2 (some .int) (rF 1 23) D (tT ct) gZ0 8 ad (mD ct ad) [.ref (ad 0), .int (nI u)] x (fun r x' => r = tBi (aV α u) ∧ mR α 0 x') := by
  refine gMi_enter (by decide) (Nat.le_of_ble_eq_true rfl) ?_
  intro p e s m below meth c ls hx hb hr htw hown hlocks hml hl hP hK hZ hS
  have hA : ∀ k, k < 8 → gA 8 ad s.heap.size (ad k) := fun _ h => gA_in h
  have hl : lv_has ls 2 [(0, .ref (ad 0)), (1, .int (nI u))] := hl
  refine lv_aload_n hx hb mD_Mo_open_0 rfl (lv_at hl 0 rfl) ?_
  refine lv_aload_n hx hb mD_Mo_open_1 rfl (lv_at hl 0 rfl) ?_
  refine lv_iload_n hx hb mD_Mo_open_2 rfl (lv_at hl 1 rfl) ?_
  refine gc_Vi (As := [.int (nI u)]) (rest := [.ref (ad 0)]) hx hb hml hown htw hK hP hS 0 (k_Mo_isBit l D ct ad hI x (u := u) hu (mR_th hR hu hut)) gZ0_ok (fun _ _ _ => trivial) (gA_mono hS.1) (by decide) rfl rfl ww_703 ww_705 ww_18 ww_33 wC_Mo_isBit mP_Mo_isBit (by decide) rfl hl.1 rfl (Nat.le_of_ble_eq_true rfl) mD_Mo_open_3 ⟨Nat.le_of_ble_eq_true rfl, Nat.le_of_ble_eq_true rfl⟩ (fun r2 x1 H locs hp1 hP _ _ hS => ?_)
  obtain ⟨hq_, rfl⟩ := hp1
  rw [hq_] at hP
  refine lv_aload_n hx hb mD_Mo_open_6 rfl (lv_at hl 0 rfl) ?_
  refine lv_iload_n hx hb mD_Mo_open_7 rfl (lv_at hl 1 rfl) ?_
  refine gc_Vi (As := [.int (nI u)]) (rest := [.int (nI 1), .ref (ad 0)]) hx hb hml hown htw hK hP hS 0 (k_Mo_isBit l D ct ad hI x (u := u) hu (mR_th hR hu hut)) gZ0_ok (fun _ _ _ => trivial) (gA_mono hS.1) (by decide) rfl rfl ww_703 ww_705 ww_18 ww_33 wC_Mo_isBit mP_Mo_isBit (by decide) rfl hl.1 rfl (Nat.le_of_ble_eq_true rfl) mD_Mo_open_8 ⟨Nat.le_of_ble_eq_true rfl, Nat.le_of_ble_eq_true rfl⟩ (fun r4 x3 H locs hp3 hP _ _ hS => ?_)
  obtain ⟨hq_, rfl⟩ := hp3
  rw [hq_] at hP
  refine lv_if_eq (tgt := 25) hx hb mD_Mo_open_11 rfl (fun hc => ?_) (fun hc => ?_)
  · skip
    exfalso; exact absurd hc (by decide)
  · skip
    have w1 := (hR.1 u hu).2 hut
    refine lv_aload_n hx hb mD_Mo_open_14 rfl (lv_at hl 0 rfl) ?_
    refine m_get (C := cN_Mo) (T := cF_Mo) (N := 11) (ci := 8) hx hb htw wU_Mo hown hK hP 0 (by decide) rfl rfl 3 (by decide) rfl ww_643 rfl mD_Mo_open_15 ?_
    refine lv_iload_n hx hb mD_Mo_open_18 rfl (lv_at hl 1 rfl) ?_
    refine m_iald hx hb hK hP 3 120 (by decide) rfl u rfl (by omega) (by decide) mD_Mo_open_19 ?_
    refine lv_ldc hx hb hown (htw _ ww_752) mD_Mo_open_20 ?_
    refine lv_icmp_ge (tgt := 29) hx hb mD_Mo_open_22 rfl (fun hc => ?_) (fun hc => ?_)
    · skip
      exfalso; rw [w1.2.2] at hc; have := (nI_leI (a := 268435456) (by omega) (by have := w1.1; omega)).mp hc; omega
    · skip
      refine lv_iconst (v := nI 1) hx hb mD_Mo_open_25 (by decide) ?_
      refine lv_goto (tgt := 30) hx hb mD_Mo_open_26 rfl ?_
      refine lv_iconst (v := nI 1) hx hb mD_Mo_open_30 (by decide) ?_
      refine gc_Vi (As := [.int (nI 1), .int (nI 1), .int (nI 1)]) (rest := []) hx hb hml hown htw hK hP hS 0 (k_Mo_goes l D ct ad hI x (b1 := true) (b2 := true) (b3 := true) rfl rfl rfl) gZ0_ok (fun _ _ _ => trivial) (gA_mono hS.1) (by decide) rfl rfl ww_691 ww_693 ww_16 ww_33 wC_Mo_goes mP_Mo_goes (by decide) rfl hl.1 rfl (Nat.le_of_ble_eq_true rfl) mD_Mo_open_31 ⟨Nat.le_of_ble_eq_true rfl, Nat.le_of_ble_eq_true rfl⟩ (fun r6 x5 H locs hp5 hP _ _ hS => ?_)
      obtain ⟨hy, rfl⟩ := hp5
      have R1 : mR (α) (mCode true true true) x5 := by rw [hy]; exact mR_code hR
      refine lv_if_eq (tgt := 50) hx hb mD_Mo_open_34 rfl (fun hc => ?_) (fun hc => ?_)
      · skip
        exfalso; exact absurd hc (by decide)
      · skip
        have v1 := (R1.1 u hu).2 hut
        refine lv_aload_n hx hb mD_Mo_open_37 rfl (lv_at hl 0 rfl) ?_
        refine m_get (C := cN_Mo) (T := cF_Mo) (N := 11) (ci := 8) hx hb htw wU_Mo hown hK hP 0 (by decide) rfl rfl 2 (by decide) rfl ww_642 rfl mD_Mo_open_38 ?_
        refine lv_iload_n hx hb mD_Mo_open_41 rfl (lv_at hl 1 rfl) ?_
        refine m_zald hx hb hK hP 2 120 (by decide) rfl u rfl (by omega) (by decide) mD_Mo_open_42 ?_
        refine lv_if_eq (tgt := 50) hx hb mD_Mo_open_43 rfl (fun a9 => ?_) (fun a9 => ?_)
        · skip
          refine lv_iconst (v := nI 0) hx hb mD_Mo_open_50 (by decide) ?_
          exact gw_iret hx hb hr hlocks hP hS (⟨by first | (rw [(tBi_b v1.2.1).1 a9]; rfl) | (rw [(tBi_b v1.2.1).2 a9]; rfl), R1⟩) mD_Mo_open_51 (Nat.zero_le _) (Nat.zero_le _)
        · skip
          refine lv_iconst (v := nI 1) hx hb mD_Mo_open_46 (by decide) ?_
          refine lv_goto (tgt := 51) hx hb mD_Mo_open_47 rfl ?_
          exact gw_iret hx hb hr hlocks hP hS (⟨by first | (rw [(tBi_b v1.2.1).1 a9]; rfl) | (rw [(tBi_b v1.2.1).2 a9]; rfl), R1⟩) mD_Mo_open_51 (Nat.zero_le _) (Nat.zero_le _)

set_option maxHeartbeats 4000000 in
set_option maxRecDepth 100000 in
theorem n1_Mo_open (l : Launch) (D : va_G) (ct : Nat → ClassId) (ad : Nat → Nat) (hI : gw_inj 8 ad) (x : mS) (α : tA) (t0 : Int32) (hR : mR α t0 x) (a : Int32) (hh : ¬ aHas α a) : gMi l mY_Mo_open mB_Mo_open 2 (some .int) (rF 1 23) D (tT ct) gZ0 8 ad (mD ct ad) [.ref (ad 0), .int a] x (fun _ x' => mR α 1 x') := by
  refine gMi_enter (by decide) (Nat.le_of_ble_eq_true rfl) ?_
  intro p e s m below meth c ls hx hb hr htw hown hlocks hml hl hP hK hZ hS
  have hA : ∀ k, k < 8 → gA 8 ad s.heap.size (ad k) := fun _ h => gA_in h
  have hl : lv_has ls 2 [(0, .ref (ad 0)), (1, .int a)] := hl
  refine lv_aload_n hx hb mD_Mo_open_0 rfl (lv_at hl 0 rfl) ?_
  refine lv_aload_n hx hb mD_Mo_open_1 rfl (lv_at hl 0 rfl) ?_
  refine lv_iload_n hx hb mD_Mo_open_2 rfl (lv_at hl 1 rfl) ?_
  refine gc_Vi (As := [.int a]) (rest := [.ref (ad 0)]) hx hb hml hown htw hK hP hS 0 (n_Mo_isBit l D ct ad hI x a (mR_no hR hh)) gZ0_ok (fun _ _ _ => trivial) (gA_mono hS.1) (by decide) rfl rfl ww_703 ww_705 ww_18 ww_33 wC_Mo_isBit mP_Mo_isBit (by decide) rfl hl.1 rfl (Nat.le_of_ble_eq_true rfl) mD_Mo_open_3 ⟨Nat.le_of_ble_eq_true rfl, Nat.le_of_ble_eq_true rfl⟩ (fun r2 x1 H locs hp1 hP _ _ hS => ?_)
  obtain ⟨hq_, rfl⟩ := hp1
  rw [hq_] at hP
  refine lv_aload_n hx hb mD_Mo_open_6 rfl (lv_at hl 0 rfl) ?_
  refine lv_iload_n hx hb mD_Mo_open_7 rfl (lv_at hl 1 rfl) ?_
  refine gc_Vi (As := [.int a]) (rest := [.int (nI 0), .ref (ad 0)]) hx hb hml hown htw hK hP hS 0 (n_Mo_isBit l D ct ad hI x a (mR_no hR hh)) gZ0_ok (fun _ _ _ => trivial) (gA_mono hS.1) (by decide) rfl rfl ww_703 ww_705 ww_18 ww_33 wC_Mo_isBit mP_Mo_isBit (by decide) rfl hl.1 rfl (Nat.le_of_ble_eq_true rfl) mD_Mo_open_8 ⟨Nat.le_of_ble_eq_true rfl, Nat.le_of_ble_eq_true rfl⟩ (fun r4 x3 H locs hp3 hP _ _ hS => ?_)
  obtain ⟨hq_, rfl⟩ := hp3
  rw [hq_] at hP
  refine lv_if_eq (tgt := 25) hx hb mD_Mo_open_11 rfl (fun hc => ?_) (fun hc => ?_)
  · skip
    refine lv_iconst (v := nI 1) hx hb mD_Mo_open_25 (by decide) ?_
    refine lv_goto (tgt := 30) hx hb mD_Mo_open_26 rfl ?_
    refine lv_iconst (v := nI 1) hx hb mD_Mo_open_30 (by decide) ?_
    refine gc_Vi (As := [.int (nI 0), .int (nI 1), .int (nI 1)]) (rest := []) hx hb hml hown htw hK hP hS 0 (k_Mo_goes l D ct ad hI x (b1 := false) (b2 := true) (b3 := true) rfl rfl rfl) gZ0_ok (fun _ _ _ => trivial) (gA_mono hS.1) (by decide) rfl rfl ww_691 ww_693 ww_16 ww_33 wC_Mo_goes mP_Mo_goes (by decide) rfl hl.1 rfl (Nat.le_of_ble_eq_true rfl) mD_Mo_open_31 ⟨Nat.le_of_ble_eq_true rfl, Nat.le_of_ble_eq_true rfl⟩ (fun r6 x5 H locs hp5 hP _ _ hS => ?_)
    obtain ⟨hy, rfl⟩ := hp5
    have R1 : mR (α) (mCode false true true) x5 := by rw [hy]; exact mR_code hR
    refine lv_if_eq (tgt := 50) hx hb mD_Mo_open_34 rfl (fun hc => ?_) (fun hc => ?_)
    · skip
      refine lv_iconst (v := nI 0) hx hb mD_Mo_open_50 (by decide) ?_
      exact gw_iret hx hb hr hlocks hP hS (R1) mD_Mo_open_51 (Nat.zero_le _) (Nat.zero_le _)
    · skip
      exfalso; exact hc rfl
  · skip
    exfalso; exact hc rfl

set_option maxHeartbeats 4000000 in
set_option maxRecDepth 100000 in
theorem n2_Mo_open (l : Launch) (D : va_G) (ct : Nat → ClassId) (ad : Nat → Nat) (hI : gw_inj 8 ad) (x : mS) (α : tA) (t0 : Int32) (hR : mR α t0 x) {u : Nat} (hu : u < 120) (hut : aT α u = true) (hb_ : 268435456 ≤ aB α u) : gMi l mY_Mo_open mB_Mo_open 2 (some .int) (rF 1 23) D (tT ct) gZ0 8 ad (mD ct ad) [.ref (ad 0), .int (nI u)] x (fun _ x' => mR α 2 x') := by
  refine gMi_enter (by decide) (Nat.le_of_ble_eq_true rfl) ?_
  intro p e s m below meth c ls hx hb hr htw hown hlocks hml hl hP hK hZ hS
  have hA : ∀ k, k < 8 → gA 8 ad s.heap.size (ad k) := fun _ h => gA_in h
  have hl : lv_has ls 2 [(0, .ref (ad 0)), (1, .int (nI u))] := hl
  refine lv_aload_n hx hb mD_Mo_open_0 rfl (lv_at hl 0 rfl) ?_
  refine lv_aload_n hx hb mD_Mo_open_1 rfl (lv_at hl 0 rfl) ?_
  refine lv_iload_n hx hb mD_Mo_open_2 rfl (lv_at hl 1 rfl) ?_
  refine gc_Vi (As := [.int (nI u)]) (rest := [.ref (ad 0)]) hx hb hml hown htw hK hP hS 0 (k_Mo_isBit l D ct ad hI x (u := u) hu (mR_th hR hu hut)) gZ0_ok (fun _ _ _ => trivial) (gA_mono hS.1) (by decide) rfl rfl ww_703 ww_705 ww_18 ww_33 wC_Mo_isBit mP_Mo_isBit (by decide) rfl hl.1 rfl (Nat.le_of_ble_eq_true rfl) mD_Mo_open_3 ⟨Nat.le_of_ble_eq_true rfl, Nat.le_of_ble_eq_true rfl⟩ (fun r2 x1 H locs hp1 hP _ _ hS => ?_)
  obtain ⟨hq_, rfl⟩ := hp1
  rw [hq_] at hP
  refine lv_aload_n hx hb mD_Mo_open_6 rfl (lv_at hl 0 rfl) ?_
  refine lv_iload_n hx hb mD_Mo_open_7 rfl (lv_at hl 1 rfl) ?_
  refine gc_Vi (As := [.int (nI u)]) (rest := [.int (nI 1), .ref (ad 0)]) hx hb hml hown htw hK hP hS 0 (k_Mo_isBit l D ct ad hI x (u := u) hu (mR_th hR hu hut)) gZ0_ok (fun _ _ _ => trivial) (gA_mono hS.1) (by decide) rfl rfl ww_703 ww_705 ww_18 ww_33 wC_Mo_isBit mP_Mo_isBit (by decide) rfl hl.1 rfl (Nat.le_of_ble_eq_true rfl) mD_Mo_open_8 ⟨Nat.le_of_ble_eq_true rfl, Nat.le_of_ble_eq_true rfl⟩ (fun r4 x3 H locs hp3 hP _ _ hS => ?_)
  obtain ⟨hq_, rfl⟩ := hp3
  rw [hq_] at hP
  refine lv_if_eq (tgt := 25) hx hb mD_Mo_open_11 rfl (fun hc => ?_) (fun hc => ?_)
  · skip
    exfalso; exact absurd hc (by decide)
  · skip
    have w1 := (hR.1 u hu).2 hut
    refine lv_aload_n hx hb mD_Mo_open_14 rfl (lv_at hl 0 rfl) ?_
    refine m_get (C := cN_Mo) (T := cF_Mo) (N := 11) (ci := 8) hx hb htw wU_Mo hown hK hP 0 (by decide) rfl rfl 3 (by decide) rfl ww_643 rfl mD_Mo_open_15 ?_
    refine lv_iload_n hx hb mD_Mo_open_18 rfl (lv_at hl 1 rfl) ?_
    refine m_iald hx hb hK hP 3 120 (by decide) rfl u rfl (by omega) (by decide) mD_Mo_open_19 ?_
    refine lv_ldc hx hb hown (htw _ ww_752) mD_Mo_open_20 ?_
    refine lv_icmp_ge (tgt := 29) hx hb mD_Mo_open_22 rfl (fun hc => ?_) (fun hc => ?_)
    · skip
      refine lv_iconst (v := nI 0) hx hb mD_Mo_open_29 (by decide) ?_
      refine lv_iconst (v := nI 1) hx hb mD_Mo_open_30 (by decide) ?_
      refine gc_Vi (As := [.int (nI 1), .int (nI 0), .int (nI 1)]) (rest := []) hx hb hml hown htw hK hP hS 0 (k_Mo_goes l D ct ad hI x (b1 := true) (b2 := false) (b3 := true) rfl rfl rfl) gZ0_ok (fun _ _ _ => trivial) (gA_mono hS.1) (by decide) rfl rfl ww_691 ww_693 ww_16 ww_33 wC_Mo_goes mP_Mo_goes (by decide) rfl hl.1 rfl (Nat.le_of_ble_eq_true rfl) mD_Mo_open_31 ⟨Nat.le_of_ble_eq_true rfl, Nat.le_of_ble_eq_true rfl⟩ (fun r6 x5 H locs hp5 hP _ _ hS => ?_)
      obtain ⟨hy, rfl⟩ := hp5
      have R1 : mR (α) (mCode true false true) x5 := by rw [hy]; exact mR_code hR
      refine lv_if_eq (tgt := 50) hx hb mD_Mo_open_34 rfl (fun hc => ?_) (fun hc => ?_)
      · skip
        refine lv_iconst (v := nI 0) hx hb mD_Mo_open_50 (by decide) ?_
        exact gw_iret hx hb hr hlocks hP hS (R1) mD_Mo_open_51 (Nat.zero_le _) (Nat.zero_le _)
      · skip
        exfalso; exact hc rfl
    · skip
      exfalso; rw [w1.2.2] at hc; exact hc ((nI_leI (a := 268435456) (by omega) (by have := w1.1; omega)).mpr hb_)

set_option maxHeartbeats 4000000 in
set_option maxRecDepth 100000 in
theorem k_Mo_bound (l : Launch) (D : va_G) (ct : Nat → ClassId) (ad : Nat → Nat) (hI : gw_inj 8 ad) (x : mS) (α : tA) (t0 : Int32) (hR : mR α t0 x) {u : Nat} (hu : u < 120) (hut : aT α u = true)  : gMi l mY_Mo_bound mB_Mo_bound 2 (some .int) (rF 1 23) D (tT ct) gZ0 8 ad (mD ct ad) [.ref (ad 0), .int (nI u)] x (fun r x' => r = nI (aB α u) ∧ mR α 0 x') := by
  refine gMi_enter (by decide) (Nat.le_of_ble_eq_true rfl) ?_
  intro p e s m below meth c ls hx hb hr htw hown hlocks hml hl hP hK hZ hS
  have hA : ∀ k, k < 8 → gA 8 ad s.heap.size (ad k) := fun _ h => gA_in h
  have hl : lv_has ls 2 [(0, .ref (ad 0)), (1, .int (nI u))] := hl
  refine lv_aload_n hx hb mD_Mo_bound_0 rfl (lv_at hl 0 rfl) ?_
  refine lv_aload_n hx hb mD_Mo_bound_1 rfl (lv_at hl 0 rfl) ?_
  refine lv_iload_n hx hb mD_Mo_bound_2 rfl (lv_at hl 1 rfl) ?_
  refine gc_Vi (As := [.int (nI u)]) (rest := [.ref (ad 0)]) hx hb hml hown htw hK hP hS 0 (k_Mo_isBit l D ct ad hI x (u := u) hu (mR_th hR hu hut)) gZ0_ok (fun _ _ _ => trivial) (gA_mono hS.1) (by decide) rfl rfl ww_703 ww_705 ww_18 ww_33 wC_Mo_isBit mP_Mo_isBit (by decide) rfl hl.1 rfl (Nat.le_of_ble_eq_true rfl) mD_Mo_bound_3 ⟨Nat.le_of_ble_eq_true rfl, Nat.le_of_ble_eq_true rfl⟩ (fun r2 x1 H locs hp1 hP _ _ hS => ?_)
  obtain ⟨hq_, rfl⟩ := hp1
  rw [hq_] at hP
  refine lv_iconst (v := nI 1) hx hb mD_Mo_bound_6 (by decide) ?_
  refine lv_iconst (v := nI 1) hx hb mD_Mo_bound_7 (by decide) ?_
  refine gc_Vi (As := [.int (nI 1), .int (nI 1), .int (nI 1)]) (rest := []) hx hb hml hown htw hK hP hS 0 (k_Mo_goes l D ct ad hI x (b1 := true) (b2 := true) (b3 := true) rfl rfl rfl) gZ0_ok (fun _ _ _ => trivial) (gA_mono hS.1) (by decide) rfl rfl ww_691 ww_693 ww_16 ww_33 wC_Mo_goes mP_Mo_goes (by decide) rfl hl.1 rfl (Nat.le_of_ble_eq_true rfl) mD_Mo_bound_8 ⟨Nat.le_of_ble_eq_true rfl, Nat.le_of_ble_eq_true rfl⟩ (fun r4 x3 H locs hp3 hP _ _ hS => ?_)
  obtain ⟨hy, rfl⟩ := hp3
  have R1 : mR (α) (mCode true true true) x3 := by rw [hy]; exact mR_code hR
  refine lv_if_eq (tgt := 23) hx hb mD_Mo_bound_11 rfl (fun hc => ?_) (fun hc => ?_)
  · skip
    exfalso; exact absurd hc (by decide)
  · skip
    refine lv_aload_n hx hb mD_Mo_bound_14 rfl (lv_at hl 0 rfl) ?_
    refine m_get (C := cN_Mo) (T := cF_Mo) (N := 11) (ci := 8) hx hb htw wU_Mo hown hK hP 0 (by decide) rfl rfl 3 (by decide) rfl ww_643 rfl mD_Mo_bound_15 ?_
    refine lv_iload_n hx hb mD_Mo_bound_18 rfl (lv_at hl 1 rfl) ?_
    refine m_iald hx hb hK hP 3 120 (by decide) rfl u rfl (by omega) (by decide) mD_Mo_bound_19 ?_
    refine lv_goto (tgt := 24) hx hb mD_Mo_bound_20 rfl ?_
    exact gw_iret hx hb hr hlocks hP hS (⟨((R1.1 u hu).2 hut).2.2, R1⟩) mD_Mo_bound_24 (Nat.zero_le _) (Nat.zero_le _)

set_option maxHeartbeats 4000000 in
set_option maxRecDepth 100000 in
theorem n1_Mo_bound (l : Launch) (D : va_G) (ct : Nat → ClassId) (ad : Nat → Nat) (hI : gw_inj 8 ad) (x : mS) (α : tA) (t0 : Int32) (hR : mR α t0 x) (a : Int32) (hh : ¬ aHas α a) : gMi l mY_Mo_bound mB_Mo_bound 2 (some .int) (rF 1 23) D (tT ct) gZ0 8 ad (mD ct ad) [.ref (ad 0), .int a] x (fun _ x' => mR α 1 x') := by
  refine gMi_enter (by decide) (Nat.le_of_ble_eq_true rfl) ?_
  intro p e s m below meth c ls hx hb hr htw hown hlocks hml hl hP hK hZ hS
  have hA : ∀ k, k < 8 → gA 8 ad s.heap.size (ad k) := fun _ h => gA_in h
  have hl : lv_has ls 2 [(0, .ref (ad 0)), (1, .int a)] := hl
  refine lv_aload_n hx hb mD_Mo_bound_0 rfl (lv_at hl 0 rfl) ?_
  refine lv_aload_n hx hb mD_Mo_bound_1 rfl (lv_at hl 0 rfl) ?_
  refine lv_iload_n hx hb mD_Mo_bound_2 rfl (lv_at hl 1 rfl) ?_
  refine gc_Vi (As := [.int a]) (rest := [.ref (ad 0)]) hx hb hml hown htw hK hP hS 0 (n_Mo_isBit l D ct ad hI x a (mR_no hR hh)) gZ0_ok (fun _ _ _ => trivial) (gA_mono hS.1) (by decide) rfl rfl ww_703 ww_705 ww_18 ww_33 wC_Mo_isBit mP_Mo_isBit (by decide) rfl hl.1 rfl (Nat.le_of_ble_eq_true rfl) mD_Mo_bound_3 ⟨Nat.le_of_ble_eq_true rfl, Nat.le_of_ble_eq_true rfl⟩ (fun r2 x1 H locs hp1 hP _ _ hS => ?_)
  obtain ⟨hq_, rfl⟩ := hp1
  rw [hq_] at hP
  refine lv_iconst (v := nI 1) hx hb mD_Mo_bound_6 (by decide) ?_
  refine lv_iconst (v := nI 1) hx hb mD_Mo_bound_7 (by decide) ?_
  refine gc_Vi (As := [.int (nI 0), .int (nI 1), .int (nI 1)]) (rest := []) hx hb hml hown htw hK hP hS 0 (k_Mo_goes l D ct ad hI x (b1 := false) (b2 := true) (b3 := true) rfl rfl rfl) gZ0_ok (fun _ _ _ => trivial) (gA_mono hS.1) (by decide) rfl rfl ww_691 ww_693 ww_16 ww_33 wC_Mo_goes mP_Mo_goes (by decide) rfl hl.1 rfl (Nat.le_of_ble_eq_true rfl) mD_Mo_bound_8 ⟨Nat.le_of_ble_eq_true rfl, Nat.le_of_ble_eq_true rfl⟩ (fun r4 x3 H locs hp3 hP _ _ hS => ?_)
  obtain ⟨hy, rfl⟩ := hp3
  have R1 : mR (α) (mCode false true true) x3 := by rw [hy]; exact mR_code hR
  refine lv_if_eq (tgt := 23) hx hb mD_Mo_bound_11 rfl (fun hc => ?_) (fun hc => ?_)
  · skip
    refine lv_iconst (v := nI 0) hx hb mD_Mo_bound_23 (by decide) ?_
    exact gw_iret hx hb hr hlocks hP hS (R1) mD_Mo_bound_24 (Nat.zero_le _) (Nat.zero_le _)
  · skip
    exfalso; exact hc rfl

set_option maxHeartbeats 4000000 in
set_option maxRecDepth 100000 in
theorem k_Mo_within (l : Launch) (D : va_G) (ct : Nat → ClassId) (ad : Nat → Nat) (hI : gw_inj 8 ad) (x : mS) (α : tA) (t0 : Int32) (hR : mR α t0 x) {u : Nat} (hu : u < 120) (hut : aT α u = true)  : gMi l mY_Mo_within mB_Mo_within 2 (some .boolean) (rF 1 23) D (tT ct) gZ0 8 ad (mD ct ad) [.ref (ad 0), .int (nI u)] x (fun r x' => r = nI 1 ∧ mR α 0 x') := by
  refine gMi_enter (by decide) (Nat.le_of_ble_eq_true rfl) ?_
  intro p e s m below meth c ls hx hb hr htw hown hlocks hml hl hP hK hZ hS
  have hA : ∀ k, k < 8 → gA 8 ad s.heap.size (ad k) := fun _ h => gA_in h
  have hl : lv_has ls 2 [(0, .ref (ad 0)), (1, .int (nI u))] := hl
  refine lv_aload_n hx hb mD_Mo_within_0 rfl (lv_at hl 0 rfl) ?_
  refine lv_aload_n hx hb mD_Mo_within_1 rfl (lv_at hl 0 rfl) ?_
  refine lv_iload_n hx hb mD_Mo_within_2 rfl (lv_at hl 1 rfl) ?_
  refine gc_Vi (As := [.int (nI u)]) (rest := [.ref (ad 0)]) hx hb hml hown htw hK hP hS 0 (k_Mo_isBit l D ct ad hI x (u := u) hu (mR_th hR hu hut)) gZ0_ok (fun _ _ _ => trivial) (gA_mono hS.1) (by decide) rfl rfl ww_703 ww_705 ww_18 ww_33 wC_Mo_isBit mP_Mo_isBit (by decide) rfl hl.1 rfl (Nat.le_of_ble_eq_true rfl) mD_Mo_within_3 ⟨Nat.le_of_ble_eq_true rfl, Nat.le_of_ble_eq_true rfl⟩ (fun r2 x1 H locs hp1 hP _ _ hS => ?_)
  obtain ⟨hq_, rfl⟩ := hp1
  rw [hq_] at hP
  refine lv_iconst (v := nI 1) hx hb mD_Mo_within_6 (by decide) ?_
  refine lv_iconst (v := nI 1) hx hb mD_Mo_within_7 (by decide) ?_
  refine gc_Vi (As := [.int (nI 1), .int (nI 1), .int (nI 1)]) (rest := []) hx hb hml hown htw hK hP hS 0 (k_Mo_goes l D ct ad hI x (b1 := true) (b2 := true) (b3 := true) rfl rfl rfl) gZ0_ok (fun _ _ _ => trivial) (gA_mono hS.1) (by decide) rfl rfl ww_691 ww_693 ww_16 ww_33 wC_Mo_goes mP_Mo_goes (by decide) rfl hl.1 rfl (Nat.le_of_ble_eq_true rfl) mD_Mo_within_8 ⟨Nat.le_of_ble_eq_true rfl, Nat.le_of_ble_eq_true rfl⟩ (fun r4 x3 H locs hp3 hP _ _ hS => ?_)
  obtain ⟨hy, rfl⟩ := hp3
  have R1 : mR (α) (mCode true true true) x3 := by rw [hy]; exact mR_code hR
  exact gw_zret hx hb hr hlocks hP hS rfl (⟨rfl, R1⟩) mD_Mo_within_11 (Nat.zero_le _) (Nat.zero_le _)

set_option maxHeartbeats 4000000 in
set_option maxRecDepth 100000 in
theorem n1_Mo_within (l : Launch) (D : va_G) (ct : Nat → ClassId) (ad : Nat → Nat) (hI : gw_inj 8 ad) (x : mS) (α : tA) (t0 : Int32) (hR : mR α t0 x) (a : Int32) (hh : ¬ aHas α a) : gMi l mY_Mo_within mB_Mo_within 2 (some .boolean) (rF 1 23) D (tT ct) gZ0 8 ad (mD ct ad) [.ref (ad 0), .int a] x (fun _ x' => mR α 1 x') := by
  refine gMi_enter (by decide) (Nat.le_of_ble_eq_true rfl) ?_
  intro p e s m below meth c ls hx hb hr htw hown hlocks hml hl hP hK hZ hS
  have hA : ∀ k, k < 8 → gA 8 ad s.heap.size (ad k) := fun _ h => gA_in h
  have hl : lv_has ls 2 [(0, .ref (ad 0)), (1, .int a)] := hl
  refine lv_aload_n hx hb mD_Mo_within_0 rfl (lv_at hl 0 rfl) ?_
  refine lv_aload_n hx hb mD_Mo_within_1 rfl (lv_at hl 0 rfl) ?_
  refine lv_iload_n hx hb mD_Mo_within_2 rfl (lv_at hl 1 rfl) ?_
  refine gc_Vi (As := [.int a]) (rest := [.ref (ad 0)]) hx hb hml hown htw hK hP hS 0 (n_Mo_isBit l D ct ad hI x a (mR_no hR hh)) gZ0_ok (fun _ _ _ => trivial) (gA_mono hS.1) (by decide) rfl rfl ww_703 ww_705 ww_18 ww_33 wC_Mo_isBit mP_Mo_isBit (by decide) rfl hl.1 rfl (Nat.le_of_ble_eq_true rfl) mD_Mo_within_3 ⟨Nat.le_of_ble_eq_true rfl, Nat.le_of_ble_eq_true rfl⟩ (fun r2 x1 H locs hp1 hP _ _ hS => ?_)
  obtain ⟨hq_, rfl⟩ := hp1
  rw [hq_] at hP
  refine lv_iconst (v := nI 1) hx hb mD_Mo_within_6 (by decide) ?_
  refine lv_iconst (v := nI 1) hx hb mD_Mo_within_7 (by decide) ?_
  refine gc_Vi (As := [.int (nI 0), .int (nI 1), .int (nI 1)]) (rest := []) hx hb hml hown htw hK hP hS 0 (k_Mo_goes l D ct ad hI x (b1 := false) (b2 := true) (b3 := true) rfl rfl rfl) gZ0_ok (fun _ _ _ => trivial) (gA_mono hS.1) (by decide) rfl rfl ww_691 ww_693 ww_16 ww_33 wC_Mo_goes mP_Mo_goes (by decide) rfl hl.1 rfl (Nat.le_of_ble_eq_true rfl) mD_Mo_within_8 ⟨Nat.le_of_ble_eq_true rfl, Nat.le_of_ble_eq_true rfl⟩ (fun r4 x3 H locs hp3 hP _ _ hS => ?_)
  obtain ⟨hy, rfl⟩ := hp3
  have R1 : mR (α) (mCode false true true) x3 := by rw [hy]; exact mR_code hR
  exact gw_zret hx hb hr hlocks hP hS rfl (R1) mD_Mo_within_11 (Nat.zero_le _) (Nat.zero_le _)

set_option maxHeartbeats 4000000 in
set_option maxRecDepth 100000 in
theorem k_Mo_line (l : Launch) (D : va_G) (ct : Nat → ClassId) (ad : Nat → Nat) (hI : gw_inj 8 ad) (x : mS) (α : tA) (t0 : Int32) (hR : mR α t0 x) {gt p1 p2 : Nat} (hgt : gt < 8) (ha1 : p1 < 8 + aZ α) (ha2 : p2 < 8 + aZ α) (hz : aZ α < 24) : gMi l mY_Mo_line mB_Mo_line 4 (some .int) (rF 1 23) D (tT ct) gZ0 8 ad (mD ct ad) [.ref (ad 0), .int (nI gt), .int (nI p1), .int (nI p2)] x (fun r x' => r = nI (8 + aZ α) ∧ mR (aLine α (gt, p1, p2)) 0 x') := by
  refine gMi_enter (by decide) (Nat.le_of_ble_eq_true rfl) ?_
  intro p e s m below meth c ls hx hb hr htw hown hlocks hml hl hP hK hZ hS
  have hA : ∀ k, k < 8 → gA 8 ad s.heap.size (ad k) := fun _ h => gA_in h
  have hl : lv_has ls 4 [(0, .ref (ad 0)), (1, .int (nI gt)), (2, .int (nI p1)), (3, .int (nI p2))] := hl
  refine lv_aload_n hx hb mD_Mo_line_0 rfl (lv_at hl 0 rfl) ?_
  refine lv_iload_n hx hb mD_Mo_line_1 rfl (lv_at hl 1 rfl) ?_
  refine gc_Si (As := [.int (nI gt)]) (rest := [.ref (ad 0)]) hx hb hml hown htw hK hP hS (k_Mo_isGate l D ct ad hI x (q := gt) hgt) gZ0_ok (fun _ _ _ => trivial) (gA_mono hS.1) ww_730 ww_731 ww_33 wC_Mo_isGate mP_Mo_isGate (by decide) rfl hl.1 rfl (Nat.le_of_ble_eq_true rfl) mD_Mo_line_2 ⟨Nat.le_of_ble_eq_true rfl, Nat.le_of_ble_eq_true rfl⟩ (fun r2 x1 H locs hp1 hP _ _ hS => ?_)
  obtain ⟨hq_, rfl⟩ := hp1
  rw [hq_] at hP
  refine lv_if_eq (tgt := 28) hx hb mD_Mo_line_5 rfl (fun hc => ?_) (fun hc => ?_)
  · skip
    exfalso; exact absurd hc (by decide)
  · skip
    refine lv_aload_n hx hb mD_Mo_line_8 rfl (lv_at hl 0 rfl) ?_
    refine lv_iload_n hx hb mD_Mo_line_9 rfl (lv_at hl 2 rfl) ?_
    refine gc_Vi (As := [.int (nI p1)]) (rest := [.ref (ad 0)]) hx hb hml hown htw hK hP hS 0 (k_Mo_isAhead l D ct ad hI x (q := p1) hR.2.2.2.1.2 hR.2.2.2.1.1 ha1) gZ0_ok (fun _ _ _ => trivial) (gA_mono hS.1) (by decide) rfl rfl ww_765 ww_767 ww_21 ww_33 wC_Mo_isAhead mP_Mo_isAhead (by decide) rfl hl.1 rfl (Nat.le_of_ble_eq_true rfl) mD_Mo_line_10 ⟨Nat.le_of_ble_eq_true rfl, Nat.le_of_ble_eq_true rfl⟩ (fun r4 x3 H locs hp3 hP _ _ hS => ?_)
    obtain ⟨hq_, rfl⟩ := hp3
    rw [hq_] at hP
    refine lv_if_eq (tgt := 28) hx hb mD_Mo_line_13 rfl (fun hc => ?_) (fun hc => ?_)
    · skip
      exfalso; exact absurd hc (by decide)
    · skip
      refine lv_aload_n hx hb mD_Mo_line_16 rfl (lv_at hl 0 rfl) ?_
      refine lv_iload_n hx hb mD_Mo_line_17 rfl (lv_at hl 3 rfl) ?_
      refine gc_Vi (As := [.int (nI p2)]) (rest := [.ref (ad 0)]) hx hb hml hown htw hK hP hS 0 (k_Mo_isAhead l D ct ad hI x (q := p2) hR.2.2.2.1.2 hR.2.2.2.1.1 ha2) gZ0_ok (fun _ _ _ => trivial) (gA_mono hS.1) (by decide) rfl rfl ww_765 ww_767 ww_21 ww_33 wC_Mo_isAhead mP_Mo_isAhead (by decide) rfl hl.1 rfl (Nat.le_of_ble_eq_true rfl) mD_Mo_line_18 ⟨Nat.le_of_ble_eq_true rfl, Nat.le_of_ble_eq_true rfl⟩ (fun r6 x5 H locs hp5 hP _ _ hS => ?_)
      obtain ⟨hq_, rfl⟩ := hp5
      rw [hq_] at hP
      refine lv_if_eq (tgt := 28) hx hb mD_Mo_line_21 rfl (fun hc => ?_) (fun hc => ?_)
      · skip
        exfalso; exact absurd hc (by decide)
      · skip
        refine lv_iconst (v := nI 1) hx hb mD_Mo_line_24 (by decide) ?_
        refine lv_goto (tgt := 29) hx hb mD_Mo_line_25 rfl ?_
        refine lv_aload_n hx hb mD_Mo_line_29 rfl (lv_at hl 0 rfl) ?_
        refine m_get (C := cN_Mo) (T := cF_Mo) (N := 11) (ci := 8) hx hb htw wU_Mo hown hK hP 0 (by decide) rfl rfl 6 (by decide) rfl ww_646 rfl mD_Mo_line_30 ?_
        refine lv_bipush (v := nI 24) hx hb mD_Mo_line_33 (by decide) ?_
        refine lv_icmp_ge (tgt := 42) hx hb mD_Mo_line_35 rfl (fun hc => ?_) (fun hc => ?_)
        · skip
          exfalso; rw [hR.2.2.2.1.2] at hc; have := (nI_leI (by omega) (by omega)).mp hc; omega
        · skip
          refine lv_iconst (v := nI 1) hx hb mD_Mo_line_38 (by decide) ?_
          refine lv_goto (tgt := 43) hx hb mD_Mo_line_39 rfl ?_
          refine lv_iconst (v := nI 1) hx hb mD_Mo_line_43 (by decide) ?_
          refine gc_Vi (As := [.int (nI 1), .int (nI 1), .int (nI 1)]) (rest := []) hx hb hml hown htw hK hP hS 0 (k_Mo_goes l D ct ad hI x (b1 := true) (b2 := true) (b3 := true) rfl rfl rfl) gZ0_ok (fun _ _ _ => trivial) (gA_mono hS.1) (by decide) rfl rfl ww_691 ww_693 ww_16 ww_33 wC_Mo_goes mP_Mo_goes (by decide) rfl hl.1 rfl (Nat.le_of_ble_eq_true rfl) mD_Mo_line_44 ⟨Nat.le_of_ble_eq_true rfl, Nat.le_of_ble_eq_true rfl⟩ (fun r8 x7 H locs hp7 hP _ _ hS => ?_)
          obtain ⟨hy, rfl⟩ := hp7
          have R1 : mR (α) (mCode true true true) x7 := by rw [hy]; exact mR_code hR
          refine lv_if_ne (tgt := 52) hx hb mD_Mo_line_47 rfl (fun hc => ?_) (fun hc => ?_)
          · skip
            refine lv_aload_n hx hb mD_Mo_line_52 rfl (lv_at hl 0 rfl) ?_
            refine m_get (C := cN_Mo) (T := cF_Mo) (N := 11) (ci := 8) hx hb htw wU_Mo hown hK hP 0 (by decide) rfl rfl 7 (by decide) rfl ww_647 rfl mD_Mo_line_53 ?_
            refine lv_aload_n hx hb mD_Mo_line_56 rfl (lv_at hl 0 rfl) ?_
            refine m_get (C := cN_Mo) (T := cF_Mo) (N := 11) (ci := 8) hx hb htw wU_Mo hown hK hP 0 (by decide) rfl rfl 6 (by decide) rfl ww_646 rfl mD_Mo_line_57 ?_
            refine lv_iload_n hx hb mD_Mo_line_60 rfl (lv_at hl 1 rfl) ?_
            refine m_iast hx hb hK hI hA hP hS 4 24 (by decide) (fun _ => rfl) (aZ α) R1.2.2.2.1.2 (by omega) (by decide) mD_Mo_line_61 (fun H locs hP hS => ?_)
            obtain ⟨x9, hx9⟩ : ∃ z_, z_ = va_up x7 4 (upd (x7 4) (aZ α) (nI gt)) := ⟨_, rfl⟩
            rw [← hx9] at hP
            refine lv_aload_n hx hb mD_Mo_line_62 rfl (lv_at hl 0 rfl) ?_
            refine m_get (C := cN_Mo) (T := cF_Mo) (N := 11) (ci := 8) hx hb htw wU_Mo hown hK hP 0 (by decide) rfl rfl 8 (by decide) rfl ww_648 rfl mD_Mo_line_63 ?_
            refine lv_aload_n hx hb mD_Mo_line_66 rfl (lv_at hl 0 rfl) ?_
            refine m_get (C := cN_Mo) (T := cF_Mo) (N := 11) (ci := 8) hx hb htw wU_Mo hown hK hP 0 (by decide) rfl rfl 6 (by decide) rfl ww_646 rfl mD_Mo_line_67 ?_
            refine lv_iload_n hx hb mD_Mo_line_70 rfl (lv_at hl 2 rfl) ?_
            refine m_iast hx hb hK hI hA hP hS 5 24 (by decide) (fun _ => rfl) (aZ α) (by rw [hx9, va_up_ne _ _ (by decide)]; exact R1.2.2.2.1.2) (by omega) (by decide) mD_Mo_line_71 (fun H locs hP hS => ?_)
            obtain ⟨x10, hx10⟩ : ∃ z_, z_ = va_up x9 5 (upd (x9 5) (aZ α) (nI p1)) := ⟨_, rfl⟩
            rw [← hx10] at hP
            refine lv_aload_n hx hb mD_Mo_line_72 rfl (lv_at hl 0 rfl) ?_
            refine m_get (C := cN_Mo) (T := cF_Mo) (N := 11) (ci := 8) hx hb htw wU_Mo hown hK hP 0 (by decide) rfl rfl 9 (by decide) rfl ww_649 rfl mD_Mo_line_73 ?_
            refine lv_aload_n hx hb mD_Mo_line_76 rfl (lv_at hl 0 rfl) ?_
            refine m_get (C := cN_Mo) (T := cF_Mo) (N := 11) (ci := 8) hx hb htw wU_Mo hown hK hP 0 (by decide) rfl rfl 6 (by decide) rfl ww_646 rfl mD_Mo_line_77 ?_
            refine lv_iload_n hx hb mD_Mo_line_80 rfl (lv_at hl 3 rfl) ?_
            refine m_iast hx hb hK hI hA hP hS 6 24 (by decide) (fun _ => rfl) (aZ α) (by rw [hx10, va_up_ne _ _ (by decide), hx9, va_up_ne _ _ (by decide)]; exact R1.2.2.2.1.2) (by omega) (by decide) mD_Mo_line_81 (fun H locs hP hS => ?_)
            obtain ⟨x11, hx11⟩ : ∃ z_, z_ = va_up x10 6 (upd (x10 6) (aZ α) (nI p2)) := ⟨_, rfl⟩
            rw [← hx11] at hP
            refine lv_aload_n hx hb mD_Mo_line_82 rfl (lv_at hl 0 rfl) ?_
            refine lv_dup hx hb mD_Mo_line_83 rfl ?_
            refine m_get (C := cN_Mo) (T := cF_Mo) (N := 11) (ci := 8) hx hb htw wU_Mo hown hK hP 0 (by decide) rfl rfl 6 (by decide) rfl ww_646 rfl mD_Mo_line_84 ?_
            refine lv_iconst (v := nI 1) hx hb mD_Mo_line_87 (by decide) ?_
            refine lv_iadd hx hb mD_Mo_line_88 ?_
            refine m_put (C := cN_Mo) (T := cF_Mo) (N := 11) (ci := 8) hx hb htw wU_Mo cT_Mo cO_Mo cM_Mo hown hK hI hA hP hS 0 (by decide) rfl rfl 6 (by decide) rfl ww_646 rfl rfl rfl (Nat.le_of_ble_eq_true rfl) rfl mD_Mo_line_89 (fun H locs hP hS => ?_)
            obtain ⟨x12, hx12⟩ : ∃ z_, z_ = va_up x11 0 (upd (x11 0) 6 ((x11 0 6) + (nI 1))) := ⟨_, rfl⟩
            rw [← hx12] at hP
            refine lv_bipush (v := nI 7) hx hb mD_Mo_line_92 (by decide) ?_
            refine lv_aload_n hx hb mD_Mo_line_94 rfl (lv_at hl 0 rfl) ?_
            refine m_get (C := cN_Mo) (T := cF_Mo) (N := 11) (ci := 8) hx hb htw wU_Mo hown hK hP 0 (by decide) rfl rfl 6 (by decide) rfl ww_646 rfl mD_Mo_line_95 ?_
            refine lv_iadd hx hb mD_Mo_line_98 ?_
            exact gw_iret hx hb hr hlocks hP hS (have e0 : x11 0 = x7 0 := (by rw [hx11, va_up_ne _ _ (by decide), hx10, va_up_ne _ _ (by decide), hx9, va_up_ne _ _ (by decide)]); have ez : x11 0 6 + nI 1 = nI (aZ α + 1) := (by rw [e0, R1.2.2.2.1.2, nI_add]); ⟨by rw [hx12, va_up_self, pk_us, ez, nI_add, show 7 + (aZ α + 1) = 8 + aZ α by omega], mR_line (ln := (gt, p1, p2)) R1 hz hgt ha1 ha2 (by rw [hx12, va_up_ne _ _ (by decide), hx11, va_up_ne _ _ (by decide), hx10, va_up_ne _ _ (by decide), hx9, va_up_self]) (by rw [hx12, va_up_ne _ _ (by decide), hx11, va_up_ne _ _ (by decide), hx10, va_up_self, hx9, va_up_ne _ _ (by decide)]) (by rw [hx12, va_up_ne _ _ (by decide), hx11, va_up_self, hx10, va_up_ne _ _ (by decide), hx9, va_up_ne _ _ (by decide)]) (by rw [hx12, va_up_self, ez, e0]) (by rw [hx12, va_up_ne _ _ (by decide), hx11, va_up_ne _ _ (by decide), hx10, va_up_ne _ _ (by decide), hx9, va_up_ne _ _ (by decide)]) (by rw [hx12, va_up_ne _ _ (by decide), hx11, va_up_ne _ _ (by decide), hx10, va_up_ne _ _ (by decide), hx9, va_up_ne _ _ (by decide)]) (by rw [hx12, va_up_ne _ _ (by decide), hx11, va_up_ne _ _ (by decide), hx10, va_up_ne _ _ (by decide), hx9, va_up_ne _ _ (by decide)])⟩) mD_Mo_line_99 (Nat.zero_le _) (Nat.zero_le _)
          · skip
            exfalso; exact absurd hc (by decide)

set_option maxHeartbeats 4000000 in
set_option maxRecDepth 100000 in
theorem n1a_Mo_line (l : Launch) (D : va_G) (ct : Nat → ClassId) (ad : Nat → Nat) (hI : gw_inj 8 ad) (x : mS) (α : tA) (t0 : Int32) (hR : mR α t0 x) (a b c_ : Int32) (hh : ¬ ∃ q, q < 8 ∧ a = nI q) : gMi l mY_Mo_line mB_Mo_line 4 (some .int) (rF 1 23) D (tT ct) gZ0 8 ad (mD ct ad) [.ref (ad 0), .int a, .int b, .int c_] x (fun _ x' => mR α 1 x') := by
  refine gMi_enter (by decide) (Nat.le_of_ble_eq_true rfl) ?_
  intro p e s m below meth c ls hx hb hr htw hown hlocks hml hl hP hK hZ hS
  have hA : ∀ k, k < 8 → gA 8 ad s.heap.size (ad k) := fun _ h => gA_in h
  have hl : lv_has ls 4 [(0, .ref (ad 0)), (1, .int a), (2, .int b), (3, .int c_)] := hl
  refine lv_aload_n hx hb mD_Mo_line_0 rfl (lv_at hl 0 rfl) ?_
  refine lv_iload_n hx hb mD_Mo_line_1 rfl (lv_at hl 1 rfl) ?_
  refine gc_Si (As := [.int a]) (rest := [.ref (ad 0)]) hx hb hml hown htw hK hP hS (n_Mo_isGate l D ct ad hI x a hh) gZ0_ok (fun _ _ _ => trivial) (gA_mono hS.1) ww_730 ww_731 ww_33 wC_Mo_isGate mP_Mo_isGate (by decide) rfl hl.1 rfl (Nat.le_of_ble_eq_true rfl) mD_Mo_line_2 ⟨Nat.le_of_ble_eq_true rfl, Nat.le_of_ble_eq_true rfl⟩ (fun r2 x1 H locs hp1 hP _ _ hS => ?_)
  obtain ⟨hq_, rfl⟩ := hp1
  rw [hq_] at hP
  refine lv_if_eq (tgt := 28) hx hb mD_Mo_line_5 rfl (fun hc => ?_) (fun hc => ?_)
  · skip
    refine lv_iconst (v := nI 0) hx hb mD_Mo_line_28 (by decide) ?_
    refine lv_aload_n hx hb mD_Mo_line_29 rfl (lv_at hl 0 rfl) ?_
    refine m_get (C := cN_Mo) (T := cF_Mo) (N := 11) (ci := 8) hx hb htw wU_Mo hown hK hP 0 (by decide) rfl rfl 6 (by decide) rfl ww_646 rfl mD_Mo_line_30 ?_
    refine lv_bipush (v := nI 24) hx hb mD_Mo_line_33 (by decide) ?_
    refine lv_icmp_ge (tgt := 42) hx hb mD_Mo_line_35 rfl (fun hc => ?_) (fun hc => ?_)
    · skip
      refine lv_iconst (v := nI 0) hx hb mD_Mo_line_42 (by decide) ?_
      refine lv_iconst (v := nI 1) hx hb mD_Mo_line_43 (by decide) ?_
      refine gc_Vi (As := [.int (nI 0), .int (nI 0), .int (nI 1)]) (rest := []) hx hb hml hown htw hK hP hS 0 (k_Mo_goes l D ct ad hI x (b1 := false) (b2 := false) (b3 := true) rfl rfl rfl) gZ0_ok (fun _ _ _ => trivial) (gA_mono hS.1) (by decide) rfl rfl ww_691 ww_693 ww_16 ww_33 wC_Mo_goes mP_Mo_goes (by decide) rfl hl.1 rfl (Nat.le_of_ble_eq_true rfl) mD_Mo_line_44 ⟨Nat.le_of_ble_eq_true rfl, Nat.le_of_ble_eq_true rfl⟩ (fun r4 x3 H locs hp3 hP _ _ hS => ?_)
      obtain ⟨hy, rfl⟩ := hp3
      have R1 : mR (α) (mCode false false true) x3 := by rw [hy]; exact mR_code hR
      refine lv_if_ne (tgt := 52) hx hb mD_Mo_line_47 rfl (fun hc => ?_) (fun hc => ?_)
      · skip
        exfalso; exact hc rfl
      · skip
        refine lv_iconst (v := nI 0) hx hb mD_Mo_line_50 (by decide) ?_
        exact gw_iret hx hb hr hlocks hP hS (R1) mD_Mo_line_51 (Nat.zero_le _) (Nat.zero_le _)
    · skip
      refine lv_iconst (v := nI 1) hx hb mD_Mo_line_38 (by decide) ?_
      refine lv_goto (tgt := 43) hx hb mD_Mo_line_39 rfl ?_
      refine lv_iconst (v := nI 1) hx hb mD_Mo_line_43 (by decide) ?_
      refine gc_Vi (As := [.int (nI 0), .int (nI 1), .int (nI 1)]) (rest := []) hx hb hml hown htw hK hP hS 0 (k_Mo_goes l D ct ad hI x (b1 := false) (b2 := true) (b3 := true) rfl rfl rfl) gZ0_ok (fun _ _ _ => trivial) (gA_mono hS.1) (by decide) rfl rfl ww_691 ww_693 ww_16 ww_33 wC_Mo_goes mP_Mo_goes (by decide) rfl hl.1 rfl (Nat.le_of_ble_eq_true rfl) mD_Mo_line_44 ⟨Nat.le_of_ble_eq_true rfl, Nat.le_of_ble_eq_true rfl⟩ (fun r6 x5 H locs hp5 hP _ _ hS => ?_)
      obtain ⟨hy, rfl⟩ := hp5
      have R1 : mR (α) (mCode false true true) x5 := by rw [hy]; exact mR_code hR
      refine lv_if_ne (tgt := 52) hx hb mD_Mo_line_47 rfl (fun hc => ?_) (fun hc => ?_)
      · skip
        exfalso; exact hc rfl
      · skip
        refine lv_iconst (v := nI 0) hx hb mD_Mo_line_50 (by decide) ?_
        exact gw_iret hx hb hr hlocks hP hS (R1) mD_Mo_line_51 (Nat.zero_le _) (Nat.zero_le _)
  · skip
    exfalso; exact hc rfl

set_option maxHeartbeats 4000000 in
set_option maxRecDepth 100000 in
theorem n1b_Mo_line (l : Launch) (D : va_G) (ct : Nat → ClassId) (ad : Nat → Nat) (hI : gw_inj 8 ad) (x : mS) (α : tA) (t0 : Int32) (hR : mR α t0 x) {gt : Nat} (hgt : gt < 8) (b c_ : Int32) (hh : ¬ ∃ q, q < 8 + aZ α ∧ b = nI q) : gMi l mY_Mo_line mB_Mo_line 4 (some .int) (rF 1 23) D (tT ct) gZ0 8 ad (mD ct ad) [.ref (ad 0), .int (nI gt), .int b, .int c_] x (fun _ x' => mR α 1 x') := by
  refine gMi_enter (by decide) (Nat.le_of_ble_eq_true rfl) ?_
  intro p e s m below meth c ls hx hb hr htw hown hlocks hml hl hP hK hZ hS
  have hA : ∀ k, k < 8 → gA 8 ad s.heap.size (ad k) := fun _ h => gA_in h
  have hl : lv_has ls 4 [(0, .ref (ad 0)), (1, .int (nI gt)), (2, .int b), (3, .int c_)] := hl
  refine lv_aload_n hx hb mD_Mo_line_0 rfl (lv_at hl 0 rfl) ?_
  refine lv_iload_n hx hb mD_Mo_line_1 rfl (lv_at hl 1 rfl) ?_
  refine gc_Si (As := [.int (nI gt)]) (rest := [.ref (ad 0)]) hx hb hml hown htw hK hP hS (k_Mo_isGate l D ct ad hI x (q := gt) hgt) gZ0_ok (fun _ _ _ => trivial) (gA_mono hS.1) ww_730 ww_731 ww_33 wC_Mo_isGate mP_Mo_isGate (by decide) rfl hl.1 rfl (Nat.le_of_ble_eq_true rfl) mD_Mo_line_2 ⟨Nat.le_of_ble_eq_true rfl, Nat.le_of_ble_eq_true rfl⟩ (fun r2 x1 H locs hp1 hP _ _ hS => ?_)
  obtain ⟨hq_, rfl⟩ := hp1
  rw [hq_] at hP
  refine lv_if_eq (tgt := 28) hx hb mD_Mo_line_5 rfl (fun hc => ?_) (fun hc => ?_)
  · skip
    exfalso; exact absurd hc (by decide)
  · skip
    refine lv_aload_n hx hb mD_Mo_line_8 rfl (lv_at hl 0 rfl) ?_
    refine lv_iload_n hx hb mD_Mo_line_9 rfl (lv_at hl 2 rfl) ?_
    refine gc_Vi (As := [.int b]) (rest := [.ref (ad 0)]) hx hb hml hown htw hK hP hS 0 (n_Mo_isAhead l D ct ad hI x b hR.2.2.2.1.2 hR.2.2.2.1.1 hh) gZ0_ok (fun _ _ _ => trivial) (gA_mono hS.1) (by decide) rfl rfl ww_765 ww_767 ww_21 ww_33 wC_Mo_isAhead mP_Mo_isAhead (by decide) rfl hl.1 rfl (Nat.le_of_ble_eq_true rfl) mD_Mo_line_10 ⟨Nat.le_of_ble_eq_true rfl, Nat.le_of_ble_eq_true rfl⟩ (fun r4 x3 H locs hp3 hP _ _ hS => ?_)
    obtain ⟨hq_, rfl⟩ := hp3
    rw [hq_] at hP
    refine lv_if_eq (tgt := 28) hx hb mD_Mo_line_13 rfl (fun hc => ?_) (fun hc => ?_)
    · skip
      refine lv_iconst (v := nI 0) hx hb mD_Mo_line_28 (by decide) ?_
      refine lv_aload_n hx hb mD_Mo_line_29 rfl (lv_at hl 0 rfl) ?_
      refine m_get (C := cN_Mo) (T := cF_Mo) (N := 11) (ci := 8) hx hb htw wU_Mo hown hK hP 0 (by decide) rfl rfl 6 (by decide) rfl ww_646 rfl mD_Mo_line_30 ?_
      refine lv_bipush (v := nI 24) hx hb mD_Mo_line_33 (by decide) ?_
      refine lv_icmp_ge (tgt := 42) hx hb mD_Mo_line_35 rfl (fun hc => ?_) (fun hc => ?_)
      · skip
        refine lv_iconst (v := nI 0) hx hb mD_Mo_line_42 (by decide) ?_
        refine lv_iconst (v := nI 1) hx hb mD_Mo_line_43 (by decide) ?_
        refine gc_Vi (As := [.int (nI 0), .int (nI 0), .int (nI 1)]) (rest := []) hx hb hml hown htw hK hP hS 0 (k_Mo_goes l D ct ad hI x (b1 := false) (b2 := false) (b3 := true) rfl rfl rfl) gZ0_ok (fun _ _ _ => trivial) (gA_mono hS.1) (by decide) rfl rfl ww_691 ww_693 ww_16 ww_33 wC_Mo_goes mP_Mo_goes (by decide) rfl hl.1 rfl (Nat.le_of_ble_eq_true rfl) mD_Mo_line_44 ⟨Nat.le_of_ble_eq_true rfl, Nat.le_of_ble_eq_true rfl⟩ (fun r6 x5 H locs hp5 hP _ _ hS => ?_)
        obtain ⟨hy, rfl⟩ := hp5
        have R1 : mR (α) (mCode false false true) x5 := by rw [hy]; exact mR_code hR
        refine lv_if_ne (tgt := 52) hx hb mD_Mo_line_47 rfl (fun hc => ?_) (fun hc => ?_)
        · skip
          exfalso; exact hc rfl
        · skip
          refine lv_iconst (v := nI 0) hx hb mD_Mo_line_50 (by decide) ?_
          exact gw_iret hx hb hr hlocks hP hS (R1) mD_Mo_line_51 (Nat.zero_le _) (Nat.zero_le _)
      · skip
        refine lv_iconst (v := nI 1) hx hb mD_Mo_line_38 (by decide) ?_
        refine lv_goto (tgt := 43) hx hb mD_Mo_line_39 rfl ?_
        refine lv_iconst (v := nI 1) hx hb mD_Mo_line_43 (by decide) ?_
        refine gc_Vi (As := [.int (nI 0), .int (nI 1), .int (nI 1)]) (rest := []) hx hb hml hown htw hK hP hS 0 (k_Mo_goes l D ct ad hI x (b1 := false) (b2 := true) (b3 := true) rfl rfl rfl) gZ0_ok (fun _ _ _ => trivial) (gA_mono hS.1) (by decide) rfl rfl ww_691 ww_693 ww_16 ww_33 wC_Mo_goes mP_Mo_goes (by decide) rfl hl.1 rfl (Nat.le_of_ble_eq_true rfl) mD_Mo_line_44 ⟨Nat.le_of_ble_eq_true rfl, Nat.le_of_ble_eq_true rfl⟩ (fun r8 x7 H locs hp7 hP _ _ hS => ?_)
        obtain ⟨hy, rfl⟩ := hp7
        have R1 : mR (α) (mCode false true true) x7 := by rw [hy]; exact mR_code hR
        refine lv_if_ne (tgt := 52) hx hb mD_Mo_line_47 rfl (fun hc => ?_) (fun hc => ?_)
        · skip
          exfalso; exact hc rfl
        · skip
          refine lv_iconst (v := nI 0) hx hb mD_Mo_line_50 (by decide) ?_
          exact gw_iret hx hb hr hlocks hP hS (R1) mD_Mo_line_51 (Nat.zero_le _) (Nat.zero_le _)
    · skip
      exfalso; exact hc rfl

set_option maxHeartbeats 4000000 in
set_option maxRecDepth 100000 in
theorem n1c_Mo_line (l : Launch) (D : va_G) (ct : Nat → ClassId) (ad : Nat → Nat) (hI : gw_inj 8 ad) (x : mS) (α : tA) (t0 : Int32) (hR : mR α t0 x) {gt p1 : Nat} (hgt : gt < 8) (ha1 : p1 < 8 + aZ α) (c_ : Int32) (hh : ¬ ∃ q, q < 8 + aZ α ∧ c_ = nI q) : gMi l mY_Mo_line mB_Mo_line 4 (some .int) (rF 1 23) D (tT ct) gZ0 8 ad (mD ct ad) [.ref (ad 0), .int (nI gt), .int (nI p1), .int c_] x (fun _ x' => mR α 1 x') := by
  refine gMi_enter (by decide) (Nat.le_of_ble_eq_true rfl) ?_
  intro p e s m below meth c ls hx hb hr htw hown hlocks hml hl hP hK hZ hS
  have hA : ∀ k, k < 8 → gA 8 ad s.heap.size (ad k) := fun _ h => gA_in h
  have hl : lv_has ls 4 [(0, .ref (ad 0)), (1, .int (nI gt)), (2, .int (nI p1)), (3, .int c_)] := hl
  refine lv_aload_n hx hb mD_Mo_line_0 rfl (lv_at hl 0 rfl) ?_
  refine lv_iload_n hx hb mD_Mo_line_1 rfl (lv_at hl 1 rfl) ?_
  refine gc_Si (As := [.int (nI gt)]) (rest := [.ref (ad 0)]) hx hb hml hown htw hK hP hS (k_Mo_isGate l D ct ad hI x (q := gt) hgt) gZ0_ok (fun _ _ _ => trivial) (gA_mono hS.1) ww_730 ww_731 ww_33 wC_Mo_isGate mP_Mo_isGate (by decide) rfl hl.1 rfl (Nat.le_of_ble_eq_true rfl) mD_Mo_line_2 ⟨Nat.le_of_ble_eq_true rfl, Nat.le_of_ble_eq_true rfl⟩ (fun r2 x1 H locs hp1 hP _ _ hS => ?_)
  obtain ⟨hq_, rfl⟩ := hp1
  rw [hq_] at hP
  refine lv_if_eq (tgt := 28) hx hb mD_Mo_line_5 rfl (fun hc => ?_) (fun hc => ?_)
  · skip
    exfalso; exact absurd hc (by decide)
  · skip
    refine lv_aload_n hx hb mD_Mo_line_8 rfl (lv_at hl 0 rfl) ?_
    refine lv_iload_n hx hb mD_Mo_line_9 rfl (lv_at hl 2 rfl) ?_
    refine gc_Vi (As := [.int (nI p1)]) (rest := [.ref (ad 0)]) hx hb hml hown htw hK hP hS 0 (k_Mo_isAhead l D ct ad hI x (q := p1) hR.2.2.2.1.2 hR.2.2.2.1.1 ha1) gZ0_ok (fun _ _ _ => trivial) (gA_mono hS.1) (by decide) rfl rfl ww_765 ww_767 ww_21 ww_33 wC_Mo_isAhead mP_Mo_isAhead (by decide) rfl hl.1 rfl (Nat.le_of_ble_eq_true rfl) mD_Mo_line_10 ⟨Nat.le_of_ble_eq_true rfl, Nat.le_of_ble_eq_true rfl⟩ (fun r4 x3 H locs hp3 hP _ _ hS => ?_)
    obtain ⟨hq_, rfl⟩ := hp3
    rw [hq_] at hP
    refine lv_if_eq (tgt := 28) hx hb mD_Mo_line_13 rfl (fun hc => ?_) (fun hc => ?_)
    · skip
      exfalso; exact absurd hc (by decide)
    · skip
      refine lv_aload_n hx hb mD_Mo_line_16 rfl (lv_at hl 0 rfl) ?_
      refine lv_iload_n hx hb mD_Mo_line_17 rfl (lv_at hl 3 rfl) ?_
      refine gc_Vi (As := [.int c_]) (rest := [.ref (ad 0)]) hx hb hml hown htw hK hP hS 0 (n_Mo_isAhead l D ct ad hI x c_ hR.2.2.2.1.2 hR.2.2.2.1.1 hh) gZ0_ok (fun _ _ _ => trivial) (gA_mono hS.1) (by decide) rfl rfl ww_765 ww_767 ww_21 ww_33 wC_Mo_isAhead mP_Mo_isAhead (by decide) rfl hl.1 rfl (Nat.le_of_ble_eq_true rfl) mD_Mo_line_18 ⟨Nat.le_of_ble_eq_true rfl, Nat.le_of_ble_eq_true rfl⟩ (fun r6 x5 H locs hp5 hP _ _ hS => ?_)
      obtain ⟨hq_, rfl⟩ := hp5
      rw [hq_] at hP
      refine lv_if_eq (tgt := 28) hx hb mD_Mo_line_21 rfl (fun hc => ?_) (fun hc => ?_)
      · skip
        refine lv_iconst (v := nI 0) hx hb mD_Mo_line_28 (by decide) ?_
        refine lv_aload_n hx hb mD_Mo_line_29 rfl (lv_at hl 0 rfl) ?_
        refine m_get (C := cN_Mo) (T := cF_Mo) (N := 11) (ci := 8) hx hb htw wU_Mo hown hK hP 0 (by decide) rfl rfl 6 (by decide) rfl ww_646 rfl mD_Mo_line_30 ?_
        refine lv_bipush (v := nI 24) hx hb mD_Mo_line_33 (by decide) ?_
        refine lv_icmp_ge (tgt := 42) hx hb mD_Mo_line_35 rfl (fun hc => ?_) (fun hc => ?_)
        · skip
          refine lv_iconst (v := nI 0) hx hb mD_Mo_line_42 (by decide) ?_
          refine lv_iconst (v := nI 1) hx hb mD_Mo_line_43 (by decide) ?_
          refine gc_Vi (As := [.int (nI 0), .int (nI 0), .int (nI 1)]) (rest := []) hx hb hml hown htw hK hP hS 0 (k_Mo_goes l D ct ad hI x (b1 := false) (b2 := false) (b3 := true) rfl rfl rfl) gZ0_ok (fun _ _ _ => trivial) (gA_mono hS.1) (by decide) rfl rfl ww_691 ww_693 ww_16 ww_33 wC_Mo_goes mP_Mo_goes (by decide) rfl hl.1 rfl (Nat.le_of_ble_eq_true rfl) mD_Mo_line_44 ⟨Nat.le_of_ble_eq_true rfl, Nat.le_of_ble_eq_true rfl⟩ (fun r8 x7 H locs hp7 hP _ _ hS => ?_)
          obtain ⟨hy, rfl⟩ := hp7
          have R1 : mR (α) (mCode false false true) x7 := by rw [hy]; exact mR_code hR
          refine lv_if_ne (tgt := 52) hx hb mD_Mo_line_47 rfl (fun hc => ?_) (fun hc => ?_)
          · skip
            exfalso; exact hc rfl
          · skip
            refine lv_iconst (v := nI 0) hx hb mD_Mo_line_50 (by decide) ?_
            exact gw_iret hx hb hr hlocks hP hS (R1) mD_Mo_line_51 (Nat.zero_le _) (Nat.zero_le _)
        · skip
          refine lv_iconst (v := nI 1) hx hb mD_Mo_line_38 (by decide) ?_
          refine lv_goto (tgt := 43) hx hb mD_Mo_line_39 rfl ?_
          refine lv_iconst (v := nI 1) hx hb mD_Mo_line_43 (by decide) ?_
          refine gc_Vi (As := [.int (nI 0), .int (nI 1), .int (nI 1)]) (rest := []) hx hb hml hown htw hK hP hS 0 (k_Mo_goes l D ct ad hI x (b1 := false) (b2 := true) (b3 := true) rfl rfl rfl) gZ0_ok (fun _ _ _ => trivial) (gA_mono hS.1) (by decide) rfl rfl ww_691 ww_693 ww_16 ww_33 wC_Mo_goes mP_Mo_goes (by decide) rfl hl.1 rfl (Nat.le_of_ble_eq_true rfl) mD_Mo_line_44 ⟨Nat.le_of_ble_eq_true rfl, Nat.le_of_ble_eq_true rfl⟩ (fun r10 x9 H locs hp9 hP _ _ hS => ?_)
          obtain ⟨hy, rfl⟩ := hp9
          have R1 : mR (α) (mCode false true true) x9 := by rw [hy]; exact mR_code hR
          refine lv_if_ne (tgt := 52) hx hb mD_Mo_line_47 rfl (fun hc => ?_) (fun hc => ?_)
          · skip
            exfalso; exact hc rfl
          · skip
            refine lv_iconst (v := nI 0) hx hb mD_Mo_line_50 (by decide) ?_
            exact gw_iret hx hb hr hlocks hP hS (R1) mD_Mo_line_51 (Nat.zero_le _) (Nat.zero_le _)
      · skip
        exfalso; exact hc rfl

set_option maxHeartbeats 4000000 in
set_option maxRecDepth 100000 in
theorem n2_Mo_line (l : Launch) (D : va_G) (ct : Nat → ClassId) (ad : Nat → Nat) (hI : gw_inj 8 ad) (x : mS) (α : tA) (t0 : Int32) (hR : mR α t0 x) {gt p1 p2 : Nat} (hgt : gt < 8) (ha1 : p1 < 8 + aZ α) (ha2 : p2 < 8 + aZ α) (hz : aZ α = 24) : gMi l mY_Mo_line mB_Mo_line 4 (some .int) (rF 1 23) D (tT ct) gZ0 8 ad (mD ct ad) [.ref (ad 0), .int (nI gt), .int (nI p1), .int (nI p2)] x (fun _ x' => mR α 2 x') := by
  refine gMi_enter (by decide) (Nat.le_of_ble_eq_true rfl) ?_
  intro p e s m below meth c ls hx hb hr htw hown hlocks hml hl hP hK hZ hS
  have hA : ∀ k, k < 8 → gA 8 ad s.heap.size (ad k) := fun _ h => gA_in h
  have hl : lv_has ls 4 [(0, .ref (ad 0)), (1, .int (nI gt)), (2, .int (nI p1)), (3, .int (nI p2))] := hl
  refine lv_aload_n hx hb mD_Mo_line_0 rfl (lv_at hl 0 rfl) ?_
  refine lv_iload_n hx hb mD_Mo_line_1 rfl (lv_at hl 1 rfl) ?_
  refine gc_Si (As := [.int (nI gt)]) (rest := [.ref (ad 0)]) hx hb hml hown htw hK hP hS (k_Mo_isGate l D ct ad hI x (q := gt) hgt) gZ0_ok (fun _ _ _ => trivial) (gA_mono hS.1) ww_730 ww_731 ww_33 wC_Mo_isGate mP_Mo_isGate (by decide) rfl hl.1 rfl (Nat.le_of_ble_eq_true rfl) mD_Mo_line_2 ⟨Nat.le_of_ble_eq_true rfl, Nat.le_of_ble_eq_true rfl⟩ (fun r2 x1 H locs hp1 hP _ _ hS => ?_)
  obtain ⟨hq_, rfl⟩ := hp1
  rw [hq_] at hP
  refine lv_if_eq (tgt := 28) hx hb mD_Mo_line_5 rfl (fun hc => ?_) (fun hc => ?_)
  · skip
    exfalso; exact absurd hc (by decide)
  · skip
    refine lv_aload_n hx hb mD_Mo_line_8 rfl (lv_at hl 0 rfl) ?_
    refine lv_iload_n hx hb mD_Mo_line_9 rfl (lv_at hl 2 rfl) ?_
    refine gc_Vi (As := [.int (nI p1)]) (rest := [.ref (ad 0)]) hx hb hml hown htw hK hP hS 0 (k_Mo_isAhead l D ct ad hI x (q := p1) hR.2.2.2.1.2 hR.2.2.2.1.1 ha1) gZ0_ok (fun _ _ _ => trivial) (gA_mono hS.1) (by decide) rfl rfl ww_765 ww_767 ww_21 ww_33 wC_Mo_isAhead mP_Mo_isAhead (by decide) rfl hl.1 rfl (Nat.le_of_ble_eq_true rfl) mD_Mo_line_10 ⟨Nat.le_of_ble_eq_true rfl, Nat.le_of_ble_eq_true rfl⟩ (fun r4 x3 H locs hp3 hP _ _ hS => ?_)
    obtain ⟨hq_, rfl⟩ := hp3
    rw [hq_] at hP
    refine lv_if_eq (tgt := 28) hx hb mD_Mo_line_13 rfl (fun hc => ?_) (fun hc => ?_)
    · skip
      exfalso; exact absurd hc (by decide)
    · skip
      refine lv_aload_n hx hb mD_Mo_line_16 rfl (lv_at hl 0 rfl) ?_
      refine lv_iload_n hx hb mD_Mo_line_17 rfl (lv_at hl 3 rfl) ?_
      refine gc_Vi (As := [.int (nI p2)]) (rest := [.ref (ad 0)]) hx hb hml hown htw hK hP hS 0 (k_Mo_isAhead l D ct ad hI x (q := p2) hR.2.2.2.1.2 hR.2.2.2.1.1 ha2) gZ0_ok (fun _ _ _ => trivial) (gA_mono hS.1) (by decide) rfl rfl ww_765 ww_767 ww_21 ww_33 wC_Mo_isAhead mP_Mo_isAhead (by decide) rfl hl.1 rfl (Nat.le_of_ble_eq_true rfl) mD_Mo_line_18 ⟨Nat.le_of_ble_eq_true rfl, Nat.le_of_ble_eq_true rfl⟩ (fun r6 x5 H locs hp5 hP _ _ hS => ?_)
      obtain ⟨hq_, rfl⟩ := hp5
      rw [hq_] at hP
      refine lv_if_eq (tgt := 28) hx hb mD_Mo_line_21 rfl (fun hc => ?_) (fun hc => ?_)
      · skip
        exfalso; exact absurd hc (by decide)
      · skip
        refine lv_iconst (v := nI 1) hx hb mD_Mo_line_24 (by decide) ?_
        refine lv_goto (tgt := 29) hx hb mD_Mo_line_25 rfl ?_
        refine lv_aload_n hx hb mD_Mo_line_29 rfl (lv_at hl 0 rfl) ?_
        refine m_get (C := cN_Mo) (T := cF_Mo) (N := 11) (ci := 8) hx hb htw wU_Mo hown hK hP 0 (by decide) rfl rfl 6 (by decide) rfl ww_646 rfl mD_Mo_line_30 ?_
        refine lv_bipush (v := nI 24) hx hb mD_Mo_line_33 (by decide) ?_
        refine lv_icmp_ge (tgt := 42) hx hb mD_Mo_line_35 rfl (fun hc => ?_) (fun hc => ?_)
        · skip
          refine lv_iconst (v := nI 0) hx hb mD_Mo_line_42 (by decide) ?_
          refine lv_iconst (v := nI 1) hx hb mD_Mo_line_43 (by decide) ?_
          refine gc_Vi (As := [.int (nI 1), .int (nI 0), .int (nI 1)]) (rest := []) hx hb hml hown htw hK hP hS 0 (k_Mo_goes l D ct ad hI x (b1 := true) (b2 := false) (b3 := true) rfl rfl rfl) gZ0_ok (fun _ _ _ => trivial) (gA_mono hS.1) (by decide) rfl rfl ww_691 ww_693 ww_16 ww_33 wC_Mo_goes mP_Mo_goes (by decide) rfl hl.1 rfl (Nat.le_of_ble_eq_true rfl) mD_Mo_line_44 ⟨Nat.le_of_ble_eq_true rfl, Nat.le_of_ble_eq_true rfl⟩ (fun r8 x7 H locs hp7 hP _ _ hS => ?_)
          obtain ⟨hy, rfl⟩ := hp7
          have R1 : mR (α) (mCode true false true) x7 := by rw [hy]; exact mR_code hR
          refine lv_if_ne (tgt := 52) hx hb mD_Mo_line_47 rfl (fun hc => ?_) (fun hc => ?_)
          · skip
            exfalso; exact hc rfl
          · skip
            refine lv_iconst (v := nI 0) hx hb mD_Mo_line_50 (by decide) ?_
            exact gw_iret hx hb hr hlocks hP hS (R1) mD_Mo_line_51 (Nat.zero_le _) (Nat.zero_le _)
        · skip
          exfalso; rw [hR.2.2.2.1.2, hz] at hc; exact hc (Int32.le_refl _)

set_option maxHeartbeats 4000000 in
set_option maxRecDepth 100000 in
theorem k_Mo_clear (l : Launch) (D : va_G) (ct : Nat → ClassId) (ad : Nat → Nat) (hI : gw_inj 8 ad) (x : mS) (α : tA) (t0 : Int32) (hR : mR α t0 x)  : gMi l mY_Mo_clear mB_Mo_clear 2 (some .int) (rF 0 0) D (tT ct) gZ0 8 ad (mD ct ad) [.ref (ad 0)] x (fun r x' => r = nI (aZ α) ∧ mR (aClear α) 0 x') := by
  refine gMi_enter (by decide) (Nat.le_of_ble_eq_true rfl) ?_
  intro p e s m below meth c ls hx hb hr htw hown hlocks hml hl hP hK hZ hS
  have hA : ∀ k, k < 8 → gA 8 ad s.heap.size (ad k) := fun _ h => gA_in h
  have hl : lv_has ls 2 [(0, .ref (ad 0))] := hl
  refine lv_aload_n hx hb mD_Mo_clear_0 rfl (lv_at hl 0 rfl) ?_
  refine lv_iconst (v := nI 0) hx hb mD_Mo_clear_1 (by decide) ?_
  refine m_put (C := cN_Mo) (T := cF_Mo) (N := 11) (ci := 8) hx hb htw wU_Mo cT_Mo cO_Mo cM_Mo hown hK hI hA hP hS 0 (by decide) rfl rfl 0 (by decide) rfl ww_640 rfl rfl rfl (Nat.le_of_ble_eq_true rfl) rfl mD_Mo_clear_2 (fun H locs hP hS => ?_)
  obtain ⟨x1, hx1⟩ : ∃ z_, z_ = va_up x 0 (upd (x 0) 0 (nI 0)) := ⟨_, rfl⟩
  rw [← hx1] at hP
  have R1 : mR α (nI 0) x1 := by rw [hx1]; exact mR_code hR
  refine lv_aload_n hx hb mD_Mo_clear_5 rfl (lv_at hl 0 rfl) ?_
  refine m_get (C := cN_Mo) (T := cF_Mo) (N := 11) (ci := 8) hx hb htw wU_Mo hown hK hP 0 (by decide) rfl rfl 6 (by decide) rfl ww_646 rfl mD_Mo_clear_6 ?_
  refine lv_istore_n (lv' := [(1, .int (x1 0 6)), (0, .ref (ad 0))]) hx hb mD_Mo_clear_9 rfl hl (by decide) rfl (fun ls hl => ?_)
  refine lv_aload_n hx hb mD_Mo_clear_10 rfl (lv_at hl 1 rfl) ?_
  refine lv_iconst (v := nI 0) hx hb mD_Mo_clear_11 (by decide) ?_
  refine m_put (C := cN_Mo) (T := cF_Mo) (N := 11) (ci := 8) hx hb htw wU_Mo cT_Mo cO_Mo cM_Mo hown hK hI hA hP hS 0 (by decide) rfl rfl 6 (by decide) rfl ww_646 rfl rfl rfl (Nat.le_of_ble_eq_true rfl) rfl mD_Mo_clear_12 (fun H locs hP hS => ?_)
  obtain ⟨x2, hx2⟩ : ∃ z_, z_ = va_up x1 0 (upd (x1 0) 6 (nI 0)) := ⟨_, rfl⟩
  rw [← hx2] at hP
  refine lv_iload_n hx hb mD_Mo_clear_15 rfl (lv_at hl 0 rfl) ?_
  exact gw_iret hx hb hr hlocks hP hS (⟨R1.2.2.2.1.2, by rw [hx2]; exact mR_clear R1⟩) mD_Mo_clear_16 (Nat.zero_le _) (Nat.zero_le _)
