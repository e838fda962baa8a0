/-! the Refresher's constructor. Laid by wip/whole/part_ctor2.py. -/
/-- int[][] is there -/
def tOA (s0 : State) : Prop := (Cond.arrayOver (.array .int)).before #[] s0 = true
theorem tx_aoa {s U : State} (hal : s.vm.Alike U.vm) {A A' : Array Value} (h : (Cond.arrayOver (.array .int)).before A s = true) : (Cond.arrayOver (.array .int)).before A' U = true := by
  have h1 : (Cond.arrayOver (.array .int)).holds A s none s [] = true := h
  show (Cond.arrayOver (.array .int)).holds A' U none U [] = true
  simp only [Cond.holds, Cond.value, beq_iff_eq] at h1 ⊢
  cases hc : s.vm.findClass (FieldType.array .int).toString with
  | none => simp [hc] at h1
  | some comp =>
    have hc' : U.vm.findClass (FieldType.array .int).toString = some comp := by rw [hal.findClass]; exact hc
    simp only [hc, hc', Option.bind_some, Option.bind_eq_some_iff, Option.map_eq_some_iff] at h1 ⊢
    obtain ⟨c, hi, k, hk, hb⟩ := h1
    obtain ⟨k', hk', he⟩ := hal.2.2 _ _ hk
    have hkd : k'.kind = k.kind := by rw [he]
    refine ⟨c, (hal.findIdx?_eqK _ (fun _ => rfl)).trans hi, k', hk', ?_⟩
    rw [hkd, hal.findClass]
    exact hb
theorem tO_AA {s0 U : State} {A : Nat → Prop} {a : Array Value} (h : tOA s0) (hZ : tZ s0 A U) : (Cond.arrayOver (.array .int)).before a U = true := tx_aoa hZ.1.alike h
theorem wX_mna : Cond.classLink cN_Re 15 ("[" ++ (FieldType.array .int).toString) ∈ wW := by
  have h : "[" ++ (FieldType.array .int).toString = "[[I" := by decide
  rw [h]
  exact ww_81

set_option maxHeartbeats 4000000 in
theorem k_Re_init (l : Launch) (D : va_G) (ct : Nat → ClassId) (ad : Nat → Nat) (hI : gw_inj 101 ad) (E : Nat → va_E) {s0 : State} (hAA : tOA s0) (hE0 : E 0 = .inr (3, [.ref (ad 1), .ref (ad 34), .ref (ad 99), .ref (ad 100)])) (hE1 : E 1 = tQ (ct 2) 32 (fun i => some (ad (1 + 1 + i)))) (hF1 : ∀ i, i < 32 → E (1 + 1 + i) = tI ct 64 (fun _ => 0)) (hE34 : E 34 = tQ (ct 2) 64 (fun i => some (ad (34 + 1 + i)))) (hF34 : ∀ i, i < 64 → E (34 + 1 + i) = tI ct 9 (fun _ => 0)) (hE99 : E 99 = tI ct 64 (fun _ => 0)) (hE100 : E 100 = tI ct 64 (fun _ => 0)) : gC l mY_Re_init mB_Re_init 1 ({ frames := 1, cells := 100, slots := 2848, locals := 20 } : Room) D (tT ct) (tZ s0) 1 101 ad (fun _ => .inr (3, [.null, .null, .null, .null])) E [.ref (ad 0)] := by
  refine gC_enter (by decide) (Nat.le_of_ble_eq_true rfl) ?_
  intro p e s m below meth c ls hx hb hr htw hown hlocks hml hl hP hK hZ hS had hna
  have hl : lv_has ls 1 [(0, .ref (ad 0))] := hl
  obtain ⟨E0, hE0_⟩ : ∃ z_, z_ = va_up E 0 (.inr (3, [.null, .null, .null, .null])) := ⟨_, rfl⟩
  have hP : va_P D cL (gw 1 ad E0) s.heap := c_eq hP (fun k hk => by cases Nat.lt_one_iff.mp hk; rw [hE0_, va_up_self])
  have hE0c : E0 0 = .inr (3, [.null, .null, .null, .null]) := by rw [hE0_, va_up_self]
  have hEe : ∀ k, k ≠ 0 → E0 k = E k := fun k h => by rw [hE0_, va_up_ne _ _ h]
  have hz : s.heap.size = s.heap.size + 0 := rfl
  refine lv_aload_n hx hb mD_Re_init_0 rfl (lv_at hl 0 rfl) ?_
  refine c_obj hx hb hml hown htw ww_80 ww_47 wO_code hl.1 (by decide) (by decide) mD_Re_init_1 ?_
  refine lv_aload_n hx hb mD_Re_init_4 rfl (lv_at hl 0 rfl) ?_
  refine lv_bipush (v := nI 32) hx hb mD_Re_init_5 (by decide) ?_
  refine lv_bipush (v := nI 64) hx hb mD_Re_init_7 (by decide) ?_
  refine c_mna (N := 32) (K := 64) hx hb htw hown wX_mna (tO_AA hAA hZ) ww_74 (hK.2 2 _ rfl).2 (hK.2 0 _ rfl).2 hP hS (fun j hj => by have := had (1 + j) (by omega) (by omega); omega) (by rw [hEe 1 (by decide)]; exact hE1) (fun i hi => by rw [hEe _ (by omega)]; exact hF1 i hi) (by decide) (by decide) (Nat.le_of_ble_eq_true rfl) (Nat.le_of_ble_eq_true rfl) mD_Re_init_9 (fun H hP hz2 hS => ?_)
  have hz : H.size = s.heap.size + 33 := by omega
  refine c_putF (C := cN_Re) (T := cF_Re) (N := 4) (ci := 3) hx hb htw wU_Re cT_Re cO_Re cM_Re hown hK (c_inj hI (by decide)) (fun k hk => c_A had k (by omega)) hP hS hz 0 (by decide) hE0c rfl 0 (by decide) rfl ww_83 rfl hna rfl rfl (Nat.le_of_ble_eq_true rfl) mD_Re_init_13 (fun H locs hP hS hz => ?_)
  have hP : va_P D cL (gw 34 ad (va_up E0 0 (.inr (3, [.ref (ad 1), .null, .null, .null])))) H := hP
  obtain ⟨Y1, hY1⟩ : ∃ z_, z_ = va_up E0 0 (.inr (3, [.ref (ad 1), .null, .null, .null])) := ⟨_, rfl⟩
  rw [← hY1] at hP
  have hE0c : Y1 0 = .inr (3, [.ref (ad 1), .null, .null, .null]) := by rw [hY1, va_up_self]
  have hEe : ∀ k, k ≠ 0 → Y1 k = E k := fun k h => by rw [hY1, va_up_ne _ _ h]; exact hEe k h
  refine lv_aload_n hx hb mD_Re_init_16 rfl (lv_at hl 0 rfl) ?_
  refine lv_bipush (v := nI 64) hx hb mD_Re_init_17 (by decide) ?_
  refine lv_bipush (v := nI 9) hx hb mD_Re_init_19 (by decide) ?_
  refine c_mna (N := 64) (K := 9) hx hb htw hown wX_mna (tO_AA hAA hZ) ww_74 (hK.2 2 _ rfl).2 (hK.2 0 _ rfl).2 hP hS (fun j hj => by have := had (34 + j) (by omega) (by omega); omega) (by rw [hEe 34 (by decide)]; exact hE34) (fun i hi => by rw [hEe _ (by omega)]; exact hF34 i hi) (by decide) (by decide) (Nat.le_of_ble_eq_true rfl) (Nat.le_of_ble_eq_true rfl) mD_Re_init_21 (fun H hP hz2 hS => ?_)
  have hz : H.size = s.heap.size + 98 := by omega
  refine c_putF (C := cN_Re) (T := cF_Re) (N := 4) (ci := 3) hx hb htw wU_Re cT_Re cO_Re cM_Re hown hK (c_inj hI (by decide)) (fun k hk => c_A had k (by omega)) hP hS hz 0 (by decide) hE0c rfl 1 (by decide) rfl ww_84 rfl hna rfl rfl (Nat.le_of_ble_eq_true rfl) mD_Re_init_25 (fun H locs hP hS hz => ?_)
  have hP : va_P D cL (gw 99 ad (va_up Y1 0 (.inr (3, [.ref (ad 1), .ref (ad 34), .null, .null])))) H := hP
  obtain ⟨Y2, hY2⟩ : ∃ z_, z_ = va_up Y1 0 (.inr (3, [.ref (ad 1), .ref (ad 34), .null, .null])) := ⟨_, rfl⟩
  rw [← hY2] at hP
  have hE0c : Y2 0 = .inr (3, [.ref (ad 1), .ref (ad 34), .null, .null]) := by rw [hY2, va_up_self]
  have hEe : ∀ k, k ≠ 0 → Y2 k = E k := fun k h => by rw [hY2, va_up_ne _ _ h]; exact hEe k h
  refine lv_aload_n hx hb mD_Re_init_28 rfl (lv_at hl 0 rfl) ?_
  refine lv_bipush (v := nI 64) hx hb mD_Re_init_29 (by decide) ?_
  refine c_newa (atype := .int) (cA' := ct 0) (N := 64) hx hb htw ww_74 (hK.2 0 _ rfl).2 hP hS (by have := had 99 (by decide) (by decide); omega) (fun _ => rfl) (by rw [hEe 99 (by decide)]; exact hE99) (by decide) (by decide) (Nat.le_of_ble_eq_true rfl) (Nat.le_of_ble_eq_true rfl) mD_Re_init_31 (fun H hP hz2 hS => ?_)
  have hz : H.size = s.heap.size + 99 := by omega
  refine c_putF (C := cN_Re) (T := cF_Re) (N := 4) (ci := 3) hx hb htw wU_Re cT_Re cO_Re cM_Re hown hK (c_inj hI (by decide)) (fun k hk => c_A had k (by omega)) hP hS hz 0 (by decide) hE0c rfl 2 (by decide) rfl ww_85 rfl hna rfl rfl (Nat.le_of_ble_eq_true rfl) mD_Re_init_33 (fun H locs hP hS hz => ?_)
  have hP : va_P D cL (gw 100 ad (va_up Y2 0 (.inr (3, [.ref (ad 1), .ref (ad 34), .ref (ad 99), .null])))) H := hP
  obtain ⟨Y3, hY3⟩ : ∃ z_, z_ = va_up Y2 0 (.inr (3, [.ref (ad 1), .ref (ad 34), .ref (ad 99), .null])) := ⟨_, rfl⟩
  rw [← hY3] at hP
  have hE0c : Y3 0 = .inr (3, [.ref (ad 1), .ref (ad 34), .ref (ad 99), .null]) := by rw [hY3, va_up_self]
  have hEe : ∀ k, k ≠ 0 → Y3 k = E k := fun k h => by rw [hY3, va_up_ne _ _ h]; exact hEe k h
  refine lv_aload_n hx hb mD_Re_init_36 rfl (lv_at hl 0 rfl) ?_
  refine lv_bipush (v := nI 64) hx hb mD_Re_init_37 (by decide) ?_
  refine c_newa (atype := .int) (cA' := ct 0) (N := 64) hx hb htw ww_74 (hK.2 0 _ rfl).2 hP hS (by have := had 100 (by decide) (by decide); omega) (fun _ => rfl) (by rw [hEe 100 (by decide)]; exact hE100) (by decide) (by decide) (Nat.le_of_ble_eq_true rfl) (Nat.le_of_ble_eq_true rfl) mD_Re_init_39 (fun H hP hz2 hS => ?_)
  have hz : H.size = s.heap.size + 100 := by omega
  refine c_putF (C := cN_Re) (T := cF_Re) (N := 4) (ci := 3) hx hb htw wU_Re cT_Re cO_Re cM_Re hown hK (c_inj hI (by decide)) (fun k hk => c_A had k (by omega)) hP hS hz 0 (by decide) hE0c rfl 3 (by decide) rfl ww_86 rfl hna rfl rfl (Nat.le_of_ble_eq_true rfl) mD_Re_init_41 (fun H locs hP hS hz => ?_)
  have hP : va_P D cL (gw 101 ad (va_up Y3 0 (.inr (3, [.ref (ad 1), .ref (ad 34), .ref (ad 99), .ref (ad 100)])))) H := hP
  obtain ⟨Y4, hY4⟩ : ∃ z_, z_ = va_up Y3 0 (.inr (3, [.ref (ad 1), .ref (ad 34), .ref (ad 99), .ref (ad 100)])) := ⟨_, rfl⟩
  rw [← hY4] at hP
  have hE0c : Y4 0 = .inr (3, [.ref (ad 1), .ref (ad 34), .ref (ad 99), .ref (ad 100)]) := by rw [hY4, va_up_self]
  have hEe : ∀ k, k ≠ 0 → Y4 k = E k := fun k h => by rw [hY4, va_up_ne _ _ h]; exact hEe k h
  exact c_ret hx hb hr hlocks (c_eq hP (fun k hk => by by_cases h : k = 0; rw [h, hE0c]; exact hE0.symm; exact hEe k h)) (by omega) hS mD_Re_init_44 (by decide) (by decide)
