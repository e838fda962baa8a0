/-! constructors: Cell, Circuit, Source, Secret, Works, Refresher, the reference. Laid by wip/whole/part_ctor1.py. -/

theorem wO_code : Cond.code ⟨"java/lang/Object", "<init>", "()V"⟩ ⟨#[0xb1]⟩ 1 none ∈ wW := wW_i1 26 rfl rfl


set_option maxHeartbeats 4000000 in
theorem k_Ce_init (l : Launch) (D : va_G) (ct : Nat → ClassId) (ad : Nat → Nat) (hI : gw_inj 2 ad) (E : Nat → va_E) (hE0 : E 0 = .inr (0, [.ref (ad 1), .int 0, .int 0, .int 0])) (hE1 : E 1 = tI ct 9 (fun _ => 0)) : gC l mY_Ce_init mB_Ce_init 1 ({ frames := 1, cells := 1, slots := 9, locals := 20 } : Room) D (tT ct) gZ0 1 2 ad (fun _ => .inr (0, [.null, .int 0, .int 0, .int 0])) E [.ref (ad 0)] := by
  refine gC_enter (by decide) (Nat.le_of_ble_eq_true rfl) ?_
  intro p e s m below meth c ls hx hb hr htw hown hlocks hml hl hP hK hZ hS had hna
  have hl : lv_has ls 1 [(0, .ref (ad 0))] := hl
  obtain ⟨E0, hE0_⟩ : ∃ z_, z_ = va_up E 0 (.inr (0, [.null, .int 0, .int 0, .int 0])) := ⟨_, rfl⟩
  have hP : va_P D cL (gw 1 ad E0) s.heap := c_eq hP (fun k hk => by cases Nat.lt_one_iff.mp hk; rw [hE0_, va_up_self])
  have hE0c : E0 0 = .inr (0, [.null, .int 0, .int 0, .int 0]) := by rw [hE0_, va_up_self]
  have hEe : ∀ k, k ≠ 0 → E0 k = E k := fun k h => by rw [hE0_, va_up_ne _ _ h]
  have hz : s.heap.size = s.heap.size + 0 := rfl
  refine lv_aload_n hx hb mD_Ce_init_0 rfl (lv_at hl 0 rfl) ?_
  refine c_obj hx hb hml hown htw ww_121 ww_47 wO_code hl.1 (by decide) (by decide) mD_Ce_init_1 ?_
  refine lv_aload_n hx hb mD_Ce_init_4 rfl (lv_at hl 0 rfl) ?_
  refine lv_bipush (v := nI 9) hx hb mD_Ce_init_5 (by decide) ?_
  refine c_newa (atype := .int) (cA' := ct 0) (N := 9) hx hb htw ww_74 (hK.2 0 _ rfl).2 hP hS (by have := had 1 (by decide) (by decide); omega) (fun _ => rfl) (by rw [hEe 1 (by decide)]; exact hE1) (by decide) (by decide) (Nat.le_of_ble_eq_true rfl) (Nat.le_of_ble_eq_true rfl) mD_Ce_init_7 (fun H hP hz2 hS => ?_)
  have hz : H.size = s.heap.size + 1 := by omega
  refine c_putF (C := cN_Ce) (T := cF_Ce) (N := 4) (ci := 0) hx hb htw wU_Ce cT_Ce cO_Ce cM_Ce hown hK (c_inj hI (by decide)) (fun k hk => c_A had k (by omega)) hP hS hz 0 (by decide) hE0c rfl 0 (by decide) rfl ww_122 rfl hna rfl rfl (Nat.le_of_ble_eq_true rfl) mD_Ce_init_9 (fun H locs hP hS hz => ?_)
  have hP : va_P D cL (gw 2 ad (va_up E0 0 (.inr (0, [.ref (ad 1), .int 0, .int 0, .int 0])))) H := hP
  obtain ⟨Y1, hY1⟩ : ∃ z_, z_ = va_up E0 0 (.inr (0, [.ref (ad 1), .int 0, .int 0, .int 0])) := ⟨_, rfl⟩
  rw [← hY1] at hP
  have hE0c : Y1 0 = .inr (0, [.ref (ad 1), .int 0, .int 0, .int 0]) := by rw [hY1, va_up_self]
  have hEe : ∀ k, k ≠ 0 → Y1 k = E k := fun k h => by rw [hY1, va_up_ne _ _ h]; exact hEe k h
  exact c_ret hx hb hr hlocks (c_eq hP (fun k hk => by by_cases h : k = 0; rw [h, hE0c]; exact hE0.symm; exact hEe k h)) (by omega) hS mD_Ce_init_12 (by decide) (by decide)

set_option maxHeartbeats 4000000 in
theorem k_Ci_init (l : Launch) (D : va_G) (ct : Nat → ClassId) (ad : Nat → Nat) (hI : gw_inj 4 ad) (E : Nat → va_E) (hE0 : E 0 = .inr (1, [.ref (ad 1), .ref (ad 2), .ref (ad 3), .int 0])) (hE1 : E 1 = tI ct 24 (fun _ => 0)) (hE2 : E 2 = tI ct 24 (fun _ => 0)) (hE3 : E 3 = tI ct 24 (fun _ => 0)) : gC l mY_Ci_init mB_Ci_init 1 ({ frames := 1, cells := 3, slots := 72, locals := 20 } : Room) D (tT ct) gZ0 1 4 ad (fun _ => .inr (1, [.null, .null, .null, .int 0])) E [.ref (ad 0)] := by
  refine gC_enter (by decide) (Nat.le_of_ble_eq_true rfl) ?_
  intro p e s m below meth c ls hx hb hr htw hown hlocks hml hl hP hK hZ hS had hna
  have hl : lv_has ls 1 [(0, .ref (ad 0))] := hl
  obtain ⟨E0, hE0_⟩ : ∃ z_, z_ = va_up E 0 (.inr (1, [.null, .null, .null, .int 0])) := ⟨_, rfl⟩
  have hP : va_P D cL (gw 1 ad E0) s.heap := c_eq hP (fun k hk => by cases Nat.lt_one_iff.mp hk; rw [hE0_, va_up_self])
  have hE0c : E0 0 = .inr (1, [.null, .null, .null, .int 0]) := by rw [hE0_, va_up_self]
  have hEe : ∀ k, k ≠ 0 → E0 k = E k := fun k h => by rw [hE0_, va_up_ne _ _ h]
  have hz : s.heap.size = s.heap.size + 0 := rfl
  refine lv_aload_n hx hb mD_Ci_init_0 rfl (lv_at hl 0 rfl) ?_
  refine c_obj hx hb hml hown htw ww_153 ww_47 wO_code hl.1 (by decide) (by decide) mD_Ci_init_1 ?_
  refine lv_aload_n hx hb mD_Ci_init_4 rfl (lv_at hl 0 rfl) ?_
  refine lv_bipush (v := nI 24) hx hb mD_Ci_init_5 (by decide) ?_
  refine c_newa (atype := .int) (cA' := ct 0) (N := 24) hx hb htw ww_74 (hK.2 0 _ rfl).2 hP hS (by have := had 1 (by decide) (by decide); omega) (fun _ => rfl) (by rw [hEe 1 (by decide)]; exact hE1) (by decide) (by decide) (Nat.le_of_ble_eq_true rfl) (Nat.le_of_ble_eq_true rfl) mD_Ci_init_7 (fun H hP hz2 hS => ?_)
  have hz : H.size = s.heap.size + 1 := by omega
  refine c_putF (C := cN_Ci) (T := cF_Ci) (N := 4) (ci := 1) hx hb htw wU_Ci cT_Ci cO_Ci cM_Ci hown hK (c_inj hI (by decide)) (fun k hk => c_A had k (by omega)) hP hS hz 0 (by decide) hE0c rfl 0 (by decide) rfl ww_154 rfl hna rfl rfl (Nat.le_of_ble_eq_true rfl) mD_Ci_init_9 (fun H locs hP hS hz => ?_)
  have hP : va_P D cL (gw 2 ad (va_up E0 0 (.inr (1, [.ref (ad 1), .null, .null, .int 0])))) H := hP
  obtain ⟨Y1, hY1⟩ : ∃ z_, z_ = va_up E0 0 (.inr (1, [.ref (ad 1), .null, .null, .int 0])) := ⟨_, rfl⟩
  rw [← hY1] at hP
  have hE0c : Y1 0 = .inr (1, [.ref (ad 1), .null, .null, .int 0]) := by rw [hY1, va_up_self]
  have hEe : ∀ k, k ≠ 0 → Y1 k = E k := fun k h => by rw [hY1, va_up_ne _ _ h]; exact hEe k h
  refine lv_aload_n hx hb mD_Ci_init_12 rfl (lv_at hl 0 rfl) ?_
  refine lv_bipush (v := nI 24) hx hb mD_Ci_init_13 (by decide) ?_
  refine c_newa (atype := .int) (cA' := ct 0) (N := 24) hx hb htw ww_74 (hK.2 0 _ rfl).2 hP hS (by have := had 2 (by decide) (by decide); omega) (fun _ => rfl) (by rw [hEe 2 (by decide)]; exact hE2) (by decide) (by decide) (Nat.le_of_ble_eq_true rfl) (Nat.le_of_ble_eq_true rfl) mD_Ci_init_15 (fun H hP hz2 hS => ?_)
  have hz : H.size = s.heap.size + 2 := by omega
  refine c_putF (C := cN_Ci) (T := cF_Ci) (N := 4) (ci := 1) hx hb htw wU_Ci cT_Ci cO_Ci cM_Ci hown hK (c_inj hI (by decide)) (fun k hk => c_A had k (by omega)) hP hS hz 0 (by decide) hE0c rfl 1 (by decide) rfl ww_156 rfl hna rfl rfl (Nat.le_of_ble_eq_true rfl) mD_Ci_init_17 (fun H locs hP hS hz => ?_)
  have hP : va_P D cL (gw 3 ad (va_up Y1 0 (.inr (1, [.ref (ad 1), .ref (ad 2), .null, .int 0])))) H := hP
  obtain ⟨Y2, hY2⟩ : ∃ z_, z_ = va_up Y1 0 (.inr (1, [.ref (ad 1), .ref (ad 2), .null, .int 0])) := ⟨_, rfl⟩
  rw [← hY2] at hP
  have hE0c : Y2 0 = .inr (1, [.ref (ad 1), .ref (ad 2), .null, .int 0]) := by rw [hY2, va_up_self]
  have hEe : ∀ k, k ≠ 0 → Y2 k = E k := fun k h => by rw [hY2, va_up_ne _ _ h]; exact hEe k h
  refine lv_aload_n hx hb mD_Ci_init_20 rfl (lv_at hl 0 rfl) ?_
  refine lv_bipush (v := nI 24) hx hb mD_Ci_init_21 (by decide) ?_
  refine c_newa (atype := .int) (cA' := ct 0) (N := 24) hx hb htw ww_74 (hK.2 0 _ rfl).2 hP hS (by have := had 3 (by decide) (by decide); omega) (fun _ => rfl) (by rw [hEe 3 (by decide)]; exact hE3) (by decide) (by decide) (Nat.le_of_ble_eq_true rfl) (Nat.le_of_ble_eq_true rfl) mD_Ci_init_23 (fun H hP hz2 hS => ?_)
  have hz : H.size = s.heap.size + 3 := by omega
  refine c_putF (C := cN_Ci) (T := cF_Ci) (N := 4) (ci := 1) hx hb htw wU_Ci cT_Ci cO_Ci cM_Ci hown hK (c_inj hI (by decide)) (fun k hk => c_A had k (by omega)) hP hS hz 0 (by decide) hE0c rfl 2 (by decide) rfl ww_158 rfl hna rfl rfl (Nat.le_of_ble_eq_true rfl) mD_Ci_init_25 (fun H locs hP hS hz => ?_)
  have hP : va_P D cL (gw 4 ad (va_up Y2 0 (.inr (1, [.ref (ad 1), .ref (ad 2), .ref (ad 3), .int 0])))) H := hP
  obtain ⟨Y3, hY3⟩ : ∃ z_, z_ = va_up Y2 0 (.inr (1, [.ref (ad 1), .ref (ad 2), .ref (ad 3), .int 0])) := ⟨_, rfl⟩
  rw [← hY3] at hP
  have hE0c : Y3 0 = .inr (1, [.ref (ad 1), .ref (ad 2), .ref (ad 3), .int 0]) := by rw [hY3, va_up_self]
  have hEe : ∀ k, k ≠ 0 → Y3 k = E k := fun k h => by rw [hY3, va_up_ne _ _ h]; exact hEe k h
  exact c_ret hx hb hr hlocks (c_eq hP (fun k hk => by by_cases h : k = 0; rw [h, hE0c]; exact hE0.symm; exact hEe k h)) (by omega) hS mD_Ci_init_28 (by decide) (by decide)

set_option maxHeartbeats 4000000 in
theorem k_So_init (l : Launch) (D : va_G) (ct : Nat → ClassId) (ad : Nat → Nat) (hI : gw_inj 1 ad) (E : Nat → va_E) (hE0 : E 0 = .inr (5, [.long 0])) : gC l mY_So_init mB_So_init 1 ({ frames := 1, cells := 0, slots := 0, locals := 20 } : Room) D (tT ct) gZ0 1 1 ad (fun _ => .inr (5, [.long 0])) E [.ref (ad 0)] := by
  refine gC_enter (by decide) (Nat.le_of_ble_eq_true rfl) ?_
  intro p e s m below meth c ls hx hb hr htw hown hlocks hml hl hP hK hZ hS had hna
  have hl : lv_has ls 1 [(0, .ref (ad 0))] := hl
  obtain ⟨E0, hE0_⟩ : ∃ z_, z_ = va_up E 0 (.inr (5, [.long 0])) := ⟨_, rfl⟩
  have hP : va_P D cL (gw 1 ad E0) s.heap := c_eq hP (fun k hk => by cases Nat.lt_one_iff.mp hk; rw [hE0_, va_up_self])
  have hE0c : E0 0 = .inr (5, [.long 0]) := by rw [hE0_, va_up_self]
  have hEe : ∀ k, k ≠ 0 → E0 k = E k := fun k h => by rw [hE0_, va_up_ne _ _ h]
  have hz : s.heap.size = s.heap.size + 0 := rfl
  refine lv_aload_n hx hb mD_So_init_0 rfl (lv_at hl 0 rfl) ?_
  refine c_obj hx hb hml hown htw ww_54 ww_47 wO_code hl.1 (by decide) (by decide) mD_So_init_1 ?_
  exact c_ret hx hb hr hlocks (c_eq hP (fun k hk => by by_cases h : k = 0; rw [h, hE0c]; exact hE0.symm; exact hEe k h)) (by omega) hS mD_So_init_4 (by decide) (by decide)

set_option maxHeartbeats 4000000 in
theorem k_Se_init (l : Launch) (D : va_G) (ct : Nat → ClassId) (ad : Nat → Nat) (hI : gw_inj 3 ad) (E : Nat → va_E) (hE0 : E 0 = .inr (4, [.ref (ad 1), .ref (ad 2)])) (hE1 : E 1 = tI ct 8 (fun _ => 0)) (hE2 : E 2 = tI ct 32 (fun _ => 0)) : gC l mY_Se_init mB_Se_init 1 ({ frames := 1, cells := 2, slots := 40, locals := 20 } : Room) D (tT ct) gZ0 1 3 ad (fun _ => .inr (4, [.null, .null])) E [.ref (ad 0)] := by
  refine gC_enter (by decide) (Nat.le_of_ble_eq_true rfl) ?_
  intro p e s m below meth c ls hx hb hr htw hown hlocks hml hl hP hK hZ hS had hna
  have hl : lv_has ls 1 [(0, .ref (ad 0))] := hl
  obtain ⟨E0, hE0_⟩ : ∃ z_, z_ = va_up E 0 (.inr (4, [.null, .null])) := ⟨_, rfl⟩
  have hP : va_P D cL (gw 1 ad E0) s.heap := c_eq hP (fun k hk => by cases Nat.lt_one_iff.mp hk; rw [hE0_, va_up_self])
  have hE0c : E0 0 = .inr (4, [.null, .null]) := by rw [hE0_, va_up_self]
  have hEe : ∀ k, k ≠ 0 → E0 k = E k := fun k h => by rw [hE0_, va_up_ne _ _ h]
  have hz : s.heap.size = s.heap.size + 0 := rfl
  refine lv_aload_n hx hb mD_Se_init_0 rfl (lv_at hl 0 rfl) ?_
  refine c_obj hx hb hml hown htw ww_64 ww_47 wO_code hl.1 (by decide) (by decide) mD_Se_init_1 ?_
  refine lv_aload_n hx hb mD_Se_init_4 rfl (lv_at hl 0 rfl) ?_
  refine lv_bipush (v := nI 8) hx hb mD_Se_init_5 (by decide) ?_
  refine c_newa (atype := .int) (cA' := ct 0) (N := 8) hx hb htw ww_74 (hK.2 0 _ rfl).2 hP hS (by have := had 1 (by decide) (by decide); omega) (fun _ => rfl) (by rw [hEe 1 (by decide)]; exact hE1) (by decide) (by decide) (Nat.le_of_ble_eq_true rfl) (Nat.le_of_ble_eq_true rfl) mD_Se_init_7 (fun H hP hz2 hS => ?_)
  have hz : H.size = s.heap.size + 1 := by omega
  refine c_putF (C := cN_Se) (T := cF_Se) (N := 2) (ci := 4) hx hb htw wU_Se cT_Se cO_Se cM_Se hown hK (c_inj hI (by decide)) (fun k hk => c_A had k (by omega)) hP hS hz 0 (by decide) hE0c rfl 0 (by decide) rfl ww_65 rfl hna rfl rfl (Nat.le_of_ble_eq_true rfl) mD_Se_init_9 (fun H locs hP hS hz => ?_)
  have hP : va_P D cL (gw 2 ad (va_up E0 0 (.inr (4, [.ref (ad 1), .null])))) H := hP
  obtain ⟨Y1, hY1⟩ : ∃ z_, z_ = va_up E0 0 (.inr (4, [.ref (ad 1), .null])) := ⟨_, rfl⟩
  rw [← hY1] at hP
  have hE0c : Y1 0 = .inr (4, [.ref (ad 1), .null]) := by rw [hY1, va_up_self]
  have hEe : ∀ k, k ≠ 0 → Y1 k = E k := fun k h => by rw [hY1, va_up_ne _ _ h]; exact hEe k h
  refine lv_aload_n hx hb mD_Se_init_12 rfl (lv_at hl 0 rfl) ?_
  refine lv_bipush (v := nI 32) hx hb mD_Se_init_13 (by decide) ?_
  refine c_newa (atype := .int) (cA' := ct 0) (N := 32) hx hb htw ww_74 (hK.2 0 _ rfl).2 hP hS (by have := had 2 (by decide) (by decide); omega) (fun _ => rfl) (by rw [hEe 2 (by decide)]; exact hE2) (by decide) (by decide) (Nat.le_of_ble_eq_true rfl) (Nat.le_of_ble_eq_true rfl) mD_Se_init_15 (fun H hP hz2 hS => ?_)
  have hz : H.size = s.heap.size + 2 := by omega
  refine c_putF (C := cN_Se) (T := cF_Se) (N := 2) (ci := 4) hx hb htw wU_Se cT_Se cO_Se cM_Se hown hK (c_inj hI (by decide)) (fun k hk => c_A had k (by omega)) hP hS hz 0 (by decide) hE0c rfl 1 (by decide) rfl ww_67 rfl hna rfl rfl (Nat.le_of_ble_eq_true rfl) mD_Se_init_17 (fun H locs hP hS hz => ?_)
  have hP : va_P D cL (gw 3 ad (va_up Y1 0 (.inr (4, [.ref (ad 1), .ref (ad 2)])))) H := hP
  obtain ⟨Y2, hY2⟩ : ∃ z_, z_ = va_up Y1 0 (.inr (4, [.ref (ad 1), .ref (ad 2)])) := ⟨_, rfl⟩
  rw [← hY2] at hP
  have hE0c : Y2 0 = .inr (4, [.ref (ad 1), .ref (ad 2)]) := by rw [hY2, va_up_self]
  have hEe : ∀ k, k ≠ 0 → Y2 k = E k := fun k h => by rw [hY2, va_up_ne _ _ h]; exact hEe k h
  exact c_ret hx hb hr hlocks (c_eq hP (fun k hk => by by_cases h : k = 0; rw [h, hE0c]; exact hE0.symm; exact hEe k h)) (by omega) hS mD_Se_init_20 (by decide) (by decide)

set_option maxHeartbeats 4000000 in
theorem k_Wo_init (l : Launch) (D : va_G) (ct : Nat → ClassId) (ad : Nat → Nat) (hI : gw_inj 2 ad) (E : Nat → va_E) (rf : Nat) (hE0 : E 0 = .inr (6, [.ref rf, .ref (ad 1)])) (hE1 : E 1 = tI ct 9 (fun _ => 0)) : gC l mY_Wo_init mB_Wo_init 2 ({ frames := 1, cells := 1, slots := 9, locals := 20 } : Room) D (tT ct) gZ0 1 2 ad (fun _ => .inr (6, [.null, .null])) E [.ref (ad 0), .ref rf] := by
  refine gC_enter (by decide) (Nat.le_of_ble_eq_true rfl) ?_
  intro p e s m below meth c ls hx hb hr htw hown hlocks hml hl hP hK hZ hS had hna
  have hl : lv_has ls 2 [(0, .ref (ad 0)), (1, .ref rf)] := hl
  obtain ⟨E0, hE0_⟩ : ∃ z_, z_ = va_up E 0 (.inr (6, [.null, .null])) := ⟨_, rfl⟩
  have hP : va_P D cL (gw 1 ad E0) s.heap := c_eq hP (fun k hk => by cases Nat.lt_one_iff.mp hk; rw [hE0_, va_up_self])
  have hE0c : E0 0 = .inr (6, [.null, .null]) := by rw [hE0_, va_up_self]
  have hEe : ∀ k, k ≠ 0 → E0 k = E k := fun k h => by rw [hE0_, va_up_ne _ _ h]
  have hz : s.heap.size = s.heap.size + 0 := rfl
  refine lv_aload_n hx hb mD_Wo_init_0 rfl (lv_at hl 0 rfl) ?_
  refine c_obj hx hb hml hown htw ww_101 ww_47 wO_code hl.1 (by decide) (by decide) mD_Wo_init_1 ?_
  refine lv_aload_n hx hb mD_Wo_init_4 rfl (lv_at hl 0 rfl) ?_
  refine lv_aload_n hx hb mD_Wo_init_5 rfl (lv_at hl 1 rfl) ?_
  refine c_putF (C := cN_Wo) (T := cF_Wo) (N := 2) (ci := 6) hx hb htw wU_Wo cT_Wo cO_Wo cM_Wo hown hK (c_inj hI (by decide)) (fun k hk => c_A had k (by omega)) hP hS hz 0 (by decide) hE0c rfl 0 (by decide) rfl ww_102 rfl hna rfl rfl (Nat.le_of_ble_eq_true rfl) mD_Wo_init_6 (fun H locs hP hS hz => ?_)
  have hP : va_P D cL (gw 1 ad (va_up E0 0 (.inr (6, [.ref rf, .null])))) H := hP
  obtain ⟨Y1, hY1⟩ : ∃ z_, z_ = va_up E0 0 (.inr (6, [.ref rf, .null])) := ⟨_, rfl⟩
  rw [← hY1] at hP
  have hE0c : Y1 0 = .inr (6, [.ref rf, .null]) := by rw [hY1, va_up_self]
  have hEe : ∀ k, k ≠ 0 → Y1 k = E k := fun k h => by rw [hY1, va_up_ne _ _ h]; exact hEe k h
  refine lv_aload_n hx hb mD_Wo_init_9 rfl (lv_at hl 0 rfl) ?_
  refine lv_bipush (v := nI 9) hx hb mD_Wo_init_10 (by decide) ?_
  refine c_newa (atype := .int) (cA' := ct 0) (N := 9) hx hb htw ww_74 (hK.2 0 _ rfl).2 hP hS (by have := had 1 (by decide) (by decide); omega) (fun _ => rfl) (by rw [hEe 1 (by decide)]; exact hE1) (by decide) (by decide) (Nat.le_of_ble_eq_true rfl) (Nat.le_of_ble_eq_true rfl) mD_Wo_init_12 (fun H hP hz2 hS => ?_)
  have hz : H.size = s.heap.size + 1 := by omega
  refine c_putF (C := cN_Wo) (T := cF_Wo) (N := 2) (ci := 6) hx hb htw wU_Wo cT_Wo cO_Wo cM_Wo hown hK (c_inj hI (by decide)) (fun k hk => c_A had k (by omega)) hP hS hz 0 (by decide) hE0c rfl 1 (by decide) rfl ww_103 rfl hna rfl rfl (Nat.le_of_ble_eq_true rfl) mD_Wo_init_14 (fun H locs hP hS hz => ?_)
  have hP : va_P D cL (gw 2 ad (va_up Y1 0 (.inr (6, [.ref rf, .ref (ad 1)])))) H := hP
  obtain ⟨Y2, hY2⟩ : ∃ z_, z_ = va_up Y1 0 (.inr (6, [.ref rf, .ref (ad 1)])) := ⟨_, rfl⟩
  rw [← hY2] at hP
  have hE0c : Y2 0 = .inr (6, [.ref rf, .ref (ad 1)]) := by rw [hY2, va_up_self]
  have hEe : ∀ k, k ≠ 0 → Y2 k = E k := fun k h => by rw [hY2, va_up_ne _ _ h]; exact hEe k h
  exact c_ret hx hb hr hlocks (c_eq hP (fun k hk => by by_cases h : k = 0; rw [h, hE0c]; exact hE0.symm; exact hEe k h)) (by omega) hS mD_Wo_init_17 (by decide) (by decide)

set_option maxHeartbeats 4000000 in
theorem k_Mo_init (l : Launch) (D : va_G) (ct : Nat → ClassId) (ad : Nat → Nat) (hI : gw_inj 8 ad) (E : Nat → va_E) (hE0 : E 0 = .inr (8, [.int 0, .ref (ad 1), .ref (ad 2), .ref (ad 3), .int 0, .int 0, .int 0, .ref (ad 4), .ref (ad 5), .ref (ad 6), .ref (ad 7)])) (hE1 : E 1 = mZ ct 120 (fun _ => 0)) (hE2 : E 2 = mZ ct 120 (fun _ => 0)) (hE3 : E 3 = tI ct 120 (fun _ => 0)) (hE4 : E 4 = tI ct 24 (fun _ => 0)) (hE5 : E 5 = tI ct 24 (fun _ => 0)) (hE6 : E 6 = tI ct 24 (fun _ => 0)) (hE7 : E 7 = mZ ct 32 (fun _ => 0)) : gC l mY_Mo_init mB_Mo_init 1 ({ frames := 1, cells := 7, slots := 464, locals := 20 } : Room) D (tT ct) gZ0 1 8 ad (fun _ => .inr (8, [.int 0, .null, .null, .null, .int 0, .int 0, .int 0, .null, .null, .null, .null])) E [.ref (ad 0)] := by
  refine gC_enter (by decide) (Nat.le_of_ble_eq_true rfl) ?_
  intro p e s m below meth c ls hx hb hr htw hown hlocks hml hl hP hK hZ hS had hna
  have hl : lv_has ls 1 [(0, .ref (ad 0))] := hl
  obtain ⟨E0, hE0_⟩ : ∃ z_, z_ = va_up E 0 (.inr (8, [.int 0, .null, .null, .null, .int 0, .int 0, .int 0, .null, .null, .null, .null])) := ⟨_, rfl⟩
  have hP : va_P D cL (gw 1 ad E0) s.heap := c_eq hP (fun k hk => by cases Nat.lt_one_iff.mp hk; rw [hE0_, va_up_self])
  have hE0c : E0 0 = .inr (8, [.int 0, .null, .null, .null, .int 0, .int 0, .int 0, .null, .null, .null, .null]) := by rw [hE0_, va_up_self]
  have hEe : ∀ k, k ≠ 0 → E0 k = E k := fun k h => by rw [hE0_, va_up_ne _ _ h]
  have hz : s.heap.size = s.heap.size + 0 := rfl
  refine lv_aload_n hx hb mD_Mo_init_0 rfl (lv_at hl 0 rfl) ?_
  refine c_obj hx hb hml hown htw ww_639 ww_47 wO_code hl.1 (by decide) (by decide) mD_Mo_init_1 ?_
  refine lv_aload_n hx hb mD_Mo_init_4 rfl (lv_at hl 0 rfl) ?_
  refine lv_bipush (v := nI 120) hx hb mD_Mo_init_5 (by decide) ?_
  refine c_newa (atype := .boolean) (cA' := ct 3) (N := 120) hx hb htw ww_674 (hK.2 3 _ rfl).2 hP hS (by have := had 1 (by decide) (by decide); omega) (fun _ => rfl) (by rw [hEe 1 (by decide)]; exact hE1) (by decide) (by decide) (Nat.le_of_ble_eq_true rfl) (Nat.le_of_ble_eq_true rfl) mD_Mo_init_7 (fun H hP hz2 hS => ?_)
  have hz : H.size = s.heap.size + 1 := by omega
  refine c_putF (C := cN_Mo) (T := cF_Mo) (N := 11) (ci := 8) hx hb htw wU_Mo cT_Mo cO_Mo cM_Mo hown hK (c_inj hI (by decide)) (fun k hk => c_A had k (by omega)) hP hS hz 0 (by decide) hE0c rfl 1 (by decide) rfl ww_641 rfl hna rfl rfl (Nat.le_of_ble_eq_true rfl) mD_Mo_init_9 (fun H locs hP hS hz => ?_)
  have hP : va_P D cL (gw 2 ad (va_up E0 0 (.inr (8, [.int 0, .ref (ad 1), .null, .null, .int 0, .int 0, .int 0, .null, .null, .null, .null])))) H := hP
  obtain ⟨Y1, hY1⟩ : ∃ z_, z_ = va_up E0 0 (.inr (8, [.int 0, .ref (ad 1), .null, .null, .int 0, .int 0, .int 0, .null, .null, .null, .null])) := ⟨_, rfl⟩
  rw [← hY1] at hP
  have hE0c : Y1 0 = .inr (8, [.int 0, .ref (ad 1), .null, .null, .int 0, .int 0, .int 0, .null, .null, .null, .null]) := by rw [hY1, va_up_self]
  have hEe : ∀ k, k ≠ 0 → Y1 k = E k := fun k h => by rw [hY1, va_up_ne _ _ h]; exact hEe k h
  refine lv_aload_n hx hb mD_Mo_init_12 rfl (lv_at hl 0 rfl) ?_
  refine lv_bipush (v := nI 120) hx hb mD_Mo_init_13 (by decide) ?_
  refine c_newa (atype := .boolean) (cA' := ct 3) (N := 120) hx hb htw ww_674 (hK.2 3 _ rfl).2 hP hS (by have := had 2 (by decide) (by decide); omega) (fun _ => rfl) (by rw [hEe 2 (by decide)]; exact hE2) (by decide) (by decide) (Nat.le_of_ble_eq_true rfl) (Nat.le_of_ble_eq_true rfl) mD_Mo_init_15 (fun H hP hz2 hS => ?_)
  have hz : H.size = s.heap.size + 2 := by omega
  refine c_putF (C := cN_Mo) (T := cF_Mo) (N := 11) (ci := 8) hx hb htw wU_Mo cT_Mo cO_Mo cM_Mo hown hK (c_inj hI (by decide)) (fun k hk => c_A had k (by omega)) hP hS hz 0 (by decide) hE0c rfl 2 (by decide) rfl ww_642 rfl hna rfl rfl (Nat.le_of_ble_eq_true rfl) mD_Mo_init_17 (fun H locs hP hS hz => ?_)
  have hP : va_P D cL (gw 3 ad (va_up Y1 0 (.inr (8, [.int 0, .ref (ad 1), .ref (ad 2), .null, .int 0, .int 0, .int 0, .null, .null, .null, .null])))) H := hP
  obtain ⟨Y2, hY2⟩ : ∃ z_, z_ = va_up Y1 0 (.inr (8, [.int 0, .ref (ad 1), .ref (ad 2), .null, .int 0, .int 0, .int 0, .null, .null, .null, .null])) := ⟨_, rfl⟩
  rw [← hY2] at hP
  have hE0c : Y2 0 = .inr (8, [.int 0, .ref (ad 1), .ref (ad 2), .null, .int 0, .int 0, .int 0, .null, .null, .null, .null]) := by rw [hY2, va_up_self]
  have hEe : ∀ k, k ≠ 0 → Y2 k = E k := fun k h => by rw [hY2, va_up_ne _ _ h]; exact hEe k h
  refine lv_aload_n hx hb mD_Mo_init_20 rfl (lv_at hl 0 rfl) ?_
  refine lv_bipush (v := nI 120) hx hb mD_Mo_init_21 (by decide) ?_
  refine c_newa (atype := .int) (cA' := ct 0) (N := 120) hx hb htw ww_74 (hK.2 0 _ rfl).2 hP hS (by have := had 3 (by decide) (by decide); omega) (fun _ => rfl) (by rw [hEe 3 (by decide)]; exact hE3) (by decide) (by decide) (Nat.le_of_ble_eq_true rfl) (Nat.le_of_ble_eq_true rfl) mD_Mo_init_23 (fun H hP hz2 hS => ?_)
  have hz : H.size = s.heap.size + 3 := by omega
  refine c_putF (C := cN_Mo) (T := cF_Mo) (N := 11) (ci := 8) hx hb htw wU_Mo cT_Mo cO_Mo cM_Mo hown hK (c_inj hI (by decide)) (fun k hk => c_A had k (by omega)) hP hS hz 0 (by decide) hE0c rfl 3 (by decide) rfl ww_643 rfl hna rfl rfl (Nat.le_of_ble_eq_true rfl) mD_Mo_init_25 (fun H locs hP hS hz => ?_)
  have hP : va_P D cL (gw 4 ad (va_up Y2 0 (.inr (8, [.int 0, .ref (ad 1), .ref (ad 2), .ref (ad 3), .int 0, .int 0, .int 0, .null, .null, .null, .null])))) H := hP
  obtain ⟨Y3, hY3⟩ : ∃ z_, z_ = va_up Y2 0 (.inr (8, [.int 0, .ref (ad 1), .ref (ad 2), .ref (ad 3), .int 0, .int 0, .int 0, .null, .null, .null, .null])) := ⟨_, rfl⟩
  rw [← hY3] at hP
  have hE0c : Y3 0 = .inr (8, [.int 0, .ref (ad 1), .ref (ad 2), .ref (ad 3), .int 0, .int 0, .int 0, .null, .null, .null, .null]) := by rw [hY3, va_up_self]
  have hEe : ∀ k, k ≠ 0 → Y3 k = E k := fun k h => by rw [hY3, va_up_ne _ _ h]; exact hEe k h
  refine lv_aload_n hx hb mD_Mo_init_28 rfl (lv_at hl 0 rfl) ?_
  refine lv_bipush (v := nI 24) hx hb mD_Mo_init_29 (by decide) ?_
  refine c_newa (atype := .int) (cA' := ct 0) (N := 24) hx hb htw ww_74 (hK.2 0 _ rfl).2 hP hS (by have := had 4 (by decide) (by decide); omega) (fun _ => rfl) (by rw [hEe 4 (by decide)]; exact hE4) (by decide) (by decide) (Nat.le_of_ble_eq_true rfl) (Nat.le_of_ble_eq_true rfl) mD_Mo_init_31 (fun H hP hz2 hS => ?_)
  have hz : H.size = s.heap.size + 4 := by omega
  refine c_putF (C := cN_Mo) (T := cF_Mo) (N := 11) (ci := 8) hx hb htw wU_Mo cT_Mo cO_Mo cM_Mo hown hK (c_inj hI (by decide)) (fun k hk => c_A had k (by omega)) hP hS hz 0 (by decide) hE0c rfl 7 (by decide) rfl ww_647 rfl hna rfl rfl (Nat.le_of_ble_eq_true rfl) mD_Mo_init_33 (fun H locs hP hS hz => ?_)
  have hP : va_P D cL (gw 5 ad (va_up Y3 0 (.inr (8, [.int 0, .ref (ad 1), .ref (ad 2), .ref (ad 3), .int 0, .int 0, .int 0, .ref (ad 4), .null, .null, .null])))) H := hP
  obtain ⟨Y4, hY4⟩ : ∃ z_, z_ = va_up Y3 0 (.inr (8, [.int 0, .ref (ad 1), .ref (ad 2), .ref (ad 3), .int 0, .int 0, .int 0, .ref (ad 4), .null, .null, .null])) := ⟨_, rfl⟩
  rw [← hY4] at hP
  have hE0c : Y4 0 = .inr (8, [.int 0, .ref (ad 1), .ref (ad 2), .ref (ad 3), .int 0, .int 0, .int 0, .ref (ad 4), .null, .null, .null]) := by rw [hY4, va_up_self]
  have hEe : ∀ k, k ≠ 0 → Y4 k = E k := fun k h => by rw [hY4, va_up_ne _ _ h]; exact hEe k h
  refine lv_aload_n hx hb mD_Mo_init_36 rfl (lv_at hl 0 rfl) ?_
  refine lv_bipush (v := nI 24) hx hb mD_Mo_init_37 (by decide) ?_
  refine c_newa (atype := .int) (cA' := ct 0) (N := 24) hx hb htw ww_74 (hK.2 0 _ rfl).2 hP hS (by have := had 5 (by decide) (by decide); omega) (fun _ => rfl) (by rw [hEe 5 (by decide)]; exact hE5) (by decide) (by decide) (Nat.le_of_ble_eq_true rfl) (Nat.le_of_ble_eq_true rfl) mD_Mo_init_39 (fun H hP hz2 hS => ?_)
  have hz : H.size = s.heap.size + 5 := by omega
  refine c_putF (C := cN_Mo) (T := cF_Mo) (N := 11) (ci := 8) hx hb htw wU_Mo cT_Mo cO_Mo cM_Mo hown hK (c_inj hI (by decide)) (fun k hk => c_A had k (by omega)) hP hS hz 0 (by decide) hE0c rfl 8 (by decide) rfl ww_648 rfl hna rfl rfl (Nat.le_of_ble_eq_true rfl) mD_Mo_init_41 (fun H locs hP hS hz => ?_)
  have hP : va_P D cL (gw 6 ad (va_up Y4 0 (.inr (8, [.int 0, .ref (ad 1), .ref (ad 2), .ref (ad 3), .int 0, .int 0, .int 0, .ref (ad 4), .ref (ad 5), .null, .null])))) H := hP
  obtain ⟨Y5, hY5⟩ : ∃ z_, z_ = va_up Y4 0 (.inr (8, [.int 0, .ref (ad 1), .ref (ad 2), .ref (ad 3), .int 0, .int 0, .int 0, .ref (ad 4), .ref (ad 5), .null, .null])) := ⟨_, rfl⟩
  rw [← hY5] at hP
  have hE0c : Y5 0 = .inr (8, [.int 0, .ref (ad 1), .ref (ad 2), .ref (ad 3), .int 0, .int 0, .int 0, .ref (ad 4), .ref (ad 5), .null, .null]) := by rw [hY5, va_up_self]
  have hEe : ∀ k, k ≠ 0 → Y5 k = E k := fun k h => by rw [hY5, va_up_ne _ _ h]; exact hEe k h
  refine lv_aload_n hx hb mD_Mo_init_44 rfl (lv_at hl 0 rfl) ?_
  refine lv_bipush (v := nI 24) hx hb mD_Mo_init_45 (by decide) ?_
  refine c_newa (atype := .int) (cA' := ct 0) (N := 24) hx hb htw ww_74 (hK.2 0 _ rfl).2 hP hS (by have := had 6 (by decide) (by decide); omega) (fun _ => rfl) (by rw [hEe 6 (by decide)]; exact hE6) (by decide) (by decide) (Nat.le_of_ble_eq_true rfl) (Nat.le_of_ble_eq_true rfl) mD_Mo_init_47 (fun H hP hz2 hS => ?_)
  have hz : H.size = s.heap.size + 6 := by omega
  refine c_putF (C := cN_Mo) (T := cF_Mo) (N := 11) (ci := 8) hx hb htw wU_Mo cT_Mo cO_Mo cM_Mo hown hK (c_inj hI (by decide)) (fun k hk => c_A had k (by omega)) hP hS hz 0 (by decide) hE0c rfl 9 (by decide) rfl ww_649 rfl hna rfl rfl (Nat.le_of_ble_eq_true rfl) mD_Mo_init_49 (fun H locs hP hS hz => ?_)
  have hP : va_P D cL (gw 7 ad (va_up Y5 0 (.inr (8, [.int 0, .ref (ad 1), .ref (ad 2), .ref (ad 3), .int 0, .int 0, .int 0, .ref (ad 4), .ref (ad 5), .ref (ad 6), .null])))) H := hP
  obtain ⟨Y6, hY6⟩ : ∃ z_, z_ = va_up Y5 0 (.inr (8, [.int 0, .ref (ad 1), .ref (ad 2), .ref (ad 3), .int 0, .int 0, .int 0, .ref (ad 4), .ref (ad 5), .ref (ad 6), .null])) := ⟨_, rfl⟩
  rw [← hY6] at hP
  have hE0c : Y6 0 = .inr (8, [.int 0, .ref (ad 1), .ref (ad 2), .ref (ad 3), .int 0, .int 0, .int 0, .ref (ad 4), .ref (ad 5), .ref (ad 6), .null]) := by rw [hY6, va_up_self]
  have hEe : ∀ k, k ≠ 0 → Y6 k = E k := fun k h => by rw [hY6, va_up_ne _ _ h]; exact hEe k h
  refine lv_aload_n hx hb mD_Mo_init_52 rfl (lv_at hl 0 rfl) ?_
  refine lv_bipush (v := nI 32) hx hb mD_Mo_init_53 (by decide) ?_
  refine c_newa (atype := .boolean) (cA' := ct 3) (N := 32) hx hb htw ww_674 (hK.2 3 _ rfl).2 hP hS (by have := had 7 (by decide) (by decide); omega) (fun _ => rfl) (by rw [hEe 7 (by decide)]; exact hE7) (by decide) (by decide) (Nat.le_of_ble_eq_true rfl) (Nat.le_of_ble_eq_true rfl) mD_Mo_init_55 (fun H hP hz2 hS => ?_)
  have hz : H.size = s.heap.size + 7 := by omega
  refine c_putF (C := cN_Mo) (T := cF_Mo) (N := 11) (ci := 8) hx hb htw wU_Mo cT_Mo cO_Mo cM_Mo hown hK (c_inj hI (by decide)) (fun k hk => c_A had k (by omega)) hP hS hz 0 (by decide) hE0c rfl 10 (by decide) rfl ww_650 rfl hna rfl rfl (Nat.le_of_ble_eq_true rfl) mD_Mo_init_57 (fun H locs hP hS hz => ?_)
  have hP : va_P D cL (gw 8 ad (va_up Y6 0 (.inr (8, [.int 0, .ref (ad 1), .ref (ad 2), .ref (ad 3), .int 0, .int 0, .int 0, .ref (ad 4), .ref (ad 5), .ref (ad 6), .ref (ad 7)])))) H := hP
  obtain ⟨Y7, hY7⟩ : ∃ z_, z_ = va_up Y6 0 (.inr (8, [.int 0, .ref (ad 1), .ref (ad 2), .ref (ad 3), .int 0, .int 0, .int 0, .ref (ad 4), .ref (ad 5), .ref (ad 6), .ref (ad 7)])) := ⟨_, rfl⟩
  rw [← hY7] at hP
  have hE0c : Y7 0 = .inr (8, [.int 0, .ref (ad 1), .ref (ad 2), .ref (ad 3), .int 0, .int 0, .int 0, .ref (ad 4), .ref (ad 5), .ref (ad 6), .ref (ad 7)]) := by rw [hY7, va_up_self]
  have hEe : ∀ k, k ≠ 0 → Y7 k = E k := fun k h => by rw [hY7, va_up_ne _ _ h]; exact hEe k h
  exact c_ret hx hb hr hlocks (c_eq hP (fun k hk => by by_cases h : k = 0; rw [h, hE0c]; exact hE0.symm; exact hEe k h)) (by omega) hS mD_Mo_init_60 (by decide) (by decide)
