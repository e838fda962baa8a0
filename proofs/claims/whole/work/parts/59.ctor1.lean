/-! constructors: Cell, Circuit, Source, Secret, Works, Refresher, the reference. Laid by wip/whole/part_ctor1.py. -/

theorem wO_code : Cond.code ⟨"java/lang/Object", "<init>", "()V"⟩ ⟨#[0xb1]⟩ 1 none ∈ wW := wW_i1 26 rfl rfl


set_option maxHeartbeats 4000000 in
theorem k_Ce_init (l : Launch) (D : va_G) (ct : Nat → ClassId) (ad : Nat → Nat) (hI : gw_inj 2 ad) (E : Nat → va_E) (hE0 : E 0 = .inr (0, [.ref (ad 1), .int 0, .int 0, .int 0])) (hE1 : E 1 = tI ct 9 (fun _ => 0)) : gC l mY_Ce_init mB_Ce_init 1 ({ frames := 1, cells := 1, slots := 9, locals := 20 } : Room) D (tT ct) gZ0 1 2 ad (fun _ => .inr (0, [.null, .int 0, .int 0, .int 0])) E [.ref (ad 0)] := by
  refine gC_enter (by decide) (Nat.le_of_ble_eq_true rfl) ?_
  intro p e s m below meth c ls hx hb hr htw hown hlocks hml hl hP hK hZ hS had hna
  have hl : lv_has ls 1 [(0, .ref (ad 0))] := hl
  obtain ⟨E0, hE0_⟩ : ∃ z_, z_ = va_up E 0 (.inr (0, [.null, .int 0, .int 0, .int 0])) := ⟨_, rfl⟩
  have hP : va_P D cL (gw 1 ad E0) s.heap := c_eq hP (fun k hk => by cases Nat.lt_one_iff.mp hk; rw [hE0_, va_up_self])
  have hE0c : E0 0 = .inr (0, [.null, .int 0, .int 0, .int 0]) := by rw [hE0_, va_up_self]
  have hEe : ∀ k, k ≠ 0 → E0 k = E k := fun k h => by rw [hE0_, va_up_ne _ _ h]
  have hz : s.heap.size = s.heap.size + 0 := rfl
  refine lv_aload_n hx hb mD_Ce_init_0 rfl (lv_at hl 0 rfl) ?_
  refine c_obj hx hb hml hown htw ww_121 ww_47 wO_code hl.1 (by decide) (by decide) mD_Ce_init_1 ?_
  refine lv_aload_n hx hb mD_Ce_init_4 rfl (lv_at hl 0 rfl) ?_
  refine lv_bipush (v := nI 9) hx hb mD_Ce_init_5 (by decide) ?_
  refine c_newa (atype := .int) (cA' := ct 0) (N := 9) hx hb htw ww_74 (hK.2 0 _ rfl).2 hP hS (by have := had 1 (by decide) (by decide); omega) (fun _ => rfl) (by rw [hEe 1 (by decide)]; exact hE1) (by decide) (by decide) (Nat.le_of_ble_eq_true rfl) (Nat.le_of_ble_eq_true rfl) mD_Ce_init_7 (fun H hP hz2 hS => ?_)
  have hz : H.size = s.heap.size + 1 := by omega
  refine c_putF (C := cN_Ce) (T := cF_Ce) (N := 4) (ci := 0) hx hb htw wU_Ce cT_Ce cO_Ce cM_Ce hown hK (c_inj hI (by decide)) (fun k hk => c_A had k (by omega)) hP hS hz 0 (by decide) hE0c rfl 0 (by decide) rfl ww_122 rfl hna rfl rfl (Nat.le_of_ble_eq_true rfl) mD_Ce_init_9 (fun H locs hP hS hz => ?_)
  have hP : va_P D cL (gw 2 ad (va_up E0 0 (.inr (0, [.ref (ad 1), .int 0, .int 0, .int 0])))) H := hP
  obtain ⟨E1, hE1⟩ : ∃ z_, z_ = va_up E0 0 (.inr (0, [.ref (ad 1), .int 0, .int 0, .int 0])) := ⟨_, rfl⟩
  rw [← hE1] at hP
  have hE0c : E1 0 = .inr (0, [.ref (ad 1), .int 0, .int 0, .int 0]) := by rw [hE1, va_up_self]
  have hEe : ∀ k, k ≠ 0 → E1 k = E k := fun k h => by rw [hE1, va_up_ne _ _ h]; exact hEe k h
  exact c_ret hx hb hr hlocks (c_eq hP (fun k hk => by by_cases h : k = 0; rw [h, hE0c]; exact hE0.symm; exact hEe k h)) (by omega) hS mD_Ce_init_12 (by decide) (by decide)
