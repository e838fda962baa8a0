/-! the Ledger's constructor. Laid by wip/whole/part_ctor3.py. -/
/-- Cell[] is there -/
def tOAC (s0 : State) : Prop := (Cond.arrayOver (.object cN_Ce)).before #[] s0 = true
theorem tO_AC {s0 U : State} {A : Nat → Prop} {a : Array Value} (h : tOAC s0) (hZ : tZ s0 A U) : (Cond.arrayOver (.object cN_Ce)).before a U = true := Cond.arrayOver_alike hZ.1.alike h
theorem c_eqQ {D : va_G} {n : Nat} {ad : Nat → Nat} {E E' : Nat → va_E} {H : Heap} (hP : va_P D cL (gw n ad E) H) (h : ∀ k, k < n → E k = E' k ∨ ∃ (c : ClassId) (N : Nat) (f f' : Nat → Option Nat), E k = tQ c N f ∧ E' k = tQ c N f' ∧ ∀ j, j < N → f j = f' j) : va_P D cL (gw n ad E') H := by
  intro k q hq
  obtain ⟨h1, rfl⟩ := gw_inv hq
  have h2 := hP k _ (gw_at h1)
  rcases h k h1 with e | ⟨c, N, f, f', e1, e2, e3⟩
  · rw [← e]
    exact h2
  · rw [e1] at h2
    rw [e2]
    have h3 : H[ad k]? = some (vp_cell c (N, .inr (.inr (.inr (.inr f))))) := h2
    show H[ad k]? = some (vp_cell c (N, .inr (.inr (.inr (.inr f')))))
    rw [h3, vp_cell_q, vp_cell_q]
    unfold arrV
    congr 2
    congr 1
    funext j
    show va_rf (f j.val) = va_rf (f' j.val)
    rw [e3 j.val j.isLt]
/-- the cells so far -/
def cQ (ad : Nat → Nat) (b i : Nat) : Nat → Option Nat := fun j => if j < i then some (ad (b + 2 * j)) else none
theorem cQ_0 (ad : Nat → Nat) (b : Nat) : cQ ad b 0 = fun _ => none := by
  funext j
  exact if_neg (Nat.not_lt_zero _)
theorem cQ_s (ad : Nat → Nat) (b i : Nat) : va_up (cQ ad b i) i (some (ad (b + 2 * i))) = cQ ad b (i + 1) := by
  funext j
  by_cases h : j = i
  · subst h
    rw [va_up_self]
    exact (if_pos (Nat.lt_succ_self _)).symm
  · rw [va_up_ne _ _ h]
    unfold cQ
    by_cases h2 : j < i
    · rw [if_pos h2, if_pos (by omega)]
    · rw [if_neg h2, if_neg (by omega)]
theorem va_up2 {α : Type} (f : Nat → α) (k : Nat) (a b : α) : va_up (va_up f k a) k b = va_up f k b := by
  funext j
  by_cases h : j = k
  · rw [h, va_up_self, va_up_self]
  · rw [va_up_ne _ _ h, va_up_ne _ _ h, va_up_ne _ _ h]

set_option maxHeartbeats 4000000 in
theorem k_Le_init (l : Launch) (D : va_G) (ct : Nat → ClassId) (ad : Nat → Nat) (hI : gw_inj 242 ad) (E : Nat → va_E) {s0 : State} (hAC : tOAC s0) (hE0 : E 0 = .inr (2, [.ref (ad 1), .int 0])) (hE1 : E 1 = tQ (ct 1) 120 (fun i => some (ad (2 + 2 * i)))) (hF : ∀ i, i < 120 → E (2 + 2 * i) = .inr (0, [.ref (ad (2 + 2 * i + 1)), .int 0, .int 0, .int 0]) ∧ E (2 + 2 * i + 1) = tI ct 9 (fun _ => 0)) : gC l mY_Le_init mB_Le_init 2 ({ frames := 2, cells := 241, slots := 1680, locals := 60 } : Room) D (tT ct) (tZ s0) 1 242 ad (fun _ => .inr (2, [.null, .int 0])) E [.ref (ad 0)] := by
  refine gC_enter (by decide) (Nat.le_of_ble_eq_true rfl) ?_
  intro p e s m below meth c ls hx hb hr htw hown hlocks hml hl hP hK hZ hS had hna
  have hl : lv_has ls 2 [(0, .ref (ad 0))] := hl
  have hA := c_A had
  obtain ⟨E0, hE0_⟩ : ∃ z_, z_ = va_up (va_up E 1 (tQ (ct 1) 120 (cQ ad 2 0))) 0 (.inr (2, [.null, .int 0])) := ⟨_, rfl⟩
  have hP : va_P D cL (gw 1 ad E0) s.heap := c_eq hP (fun k hk => by cases Nat.lt_one_iff.mp hk; rw [hE0_, va_up_self])
  refine lv_aload_n hx hb mD_Le_init_0 rfl (lv_at hl 0 rfl) ?_
  refine c_obj hx hb hml hown htw ww_114 ww_47 wO_code hl.1 (by decide) (by decide) mD_Le_init_1 ?_
  refine lv_aload_n hx hb mD_Le_init_4 rfl (lv_at hl 0 rfl) ?_
  refine lv_bipush (v := nI 120) hx hb mD_Le_init_5 (by decide) ?_
  refine c_anew (cA' := ct 1) (N := 120) hx hb htw hown ww_115 (tO_AC hAC hZ) (by obtain ⟨kA, comp, _, _, _, h4⟩ := (hK.2 1 _ rfl).2; exact h4) hP hS (by have := had 1 (by decide) (by decide); omega) (by rw [hE0_, va_up_ne _ _ (by decide), va_up_self, cQ_0]) (by decide) (Nat.le_of_ble_eq_true rfl) (Nat.le_of_ble_eq_true rfl) mD_Le_init_7 (fun H hP hz2 hS => ?_)
  have hz : H.size = s.heap.size + 1 := by omega
  refine c_putF (C := cN_Le) (T := cF_Le) (N := 2) (ci := 2) (fs := [.null, .int 0]) hx hb htw wU_Le cT_Le cO_Le cM_Le hown hK (c_inj hI (by decide)) (fun k hk => hA k (by omega)) hP hS hz 0 (by decide) (by rw [hE0_, va_up_self]) rfl 0 (by decide) rfl ww_139 rfl hna rfl rfl (Nat.le_of_ble_eq_true rfl) mD_Le_init_10 (fun H locs hP hS hz => ?_)
  have hP : va_P D cL (gw (2 + 2 * 0) ad (va_up E 1 (tQ (ct 1) 120 (cQ ad 2 0)))) H := c_eq hP (fun k hk => by
    by_cases h : k = 0
    · rw [h, va_up_self, va_up_ne _ _ (by decide), hE0]
      rfl
    · rw [va_up_ne _ _ h, hE0_, va_up_ne _ _ h])
  refine lv_iconst (v := nI 0) hx hb mD_Le_init_13 (by decide) ?_
  refine lv_istore_n (lv' := [(1, .int (nI 0)), (0, .ref (ad 0))]) hx hb mD_Le_init_14 rfl hl (by decide) rfl (fun ls hl => ?_)
  refine gw_nmQ (fun Q hQ => ?_)
  have loop : ∀ (d i : Nat) (H : Heap) (locs : List Loc) (ls : Array Slot), i + d = 120 → lv_has ls 2 [(1, .int (nI i)), (0, .ref (ad 0))] → va_P D cL (gw (2 + 2 * i) ad (va_up E 1 (tQ (ct 1) 120 (cQ ad 2 i)))) H → va_S (gA 1 ad s.heap.size) s.heap H locs → H.size = s.heap.size + (1 + 2 * i) → W p l e ({ frames := 2, cells := 241, slots := 1680, locals := 60 } : Room) s m [.ref (ad 0)].toArray below meth c H locs (1 + 2 * i) (120 + 13 * i) Q (F0 m 15 ls []) := by
    intro d
    induction d using Nat.strongRecOn with
    | ind d ih =>
      intro i H locs ls hd hl hP hS hz
      refine lv_iload_n hx hb mD_Le_init_15 rfl (lv_at hl 0 rfl) ?_
      refine lv_bipush (v := nI 120) hx hb mD_Le_init_16 (by decide) ?_
      refine lv_icmp_ge (tgt := 40) hx hb mD_Le_init_18 rfl (fun hc => ?_) (fun hc => ?_)
      · have hn : i = 120 := by have := ts_ge (by omega) (by omega) hc; omega
        subst hn
        subst hQ
        exact c_ret hx hb hr hlocks (c_eqQ hP (fun k hk => by
          by_cases h : k = 1
          · refine Or.inr ⟨ct 1, 120, cQ ad 2 120, fun i => some (ad (2 + 2 * i)), by rw [h, va_up_self], by rw [h]; exact hE1, fun j hj => if_pos hj⟩
          · exact Or.inl (va_up_ne _ _ h))) (by omega) hS mD_Le_init_40 (Nat.le_of_ble_eq_true rfl) (Nat.le_of_ble_eq_true rfl)
      · have hi : i < 120 := ts_lt (by omega) (by omega) hc
        refine lv_aload_n hx hb mD_Le_init_21 rfl (lv_at hl 1 rfl) ?_
        refine gw_get (C := cN_Le) (T := cF_Le) (N := 2) (ci := 2) (fs := [.ref (ad 1), .int 0]) (v := .ref (ad 1)) hx hb htw wU_Le hown hK hP 0 (by omega) (by rw [va_up_ne _ _ (by decide)]; exact hE0) rfl 0 (by decide) (htw _ ww_139) (fun _ h => h) rfl mD_Le_init_22 ?_
        refine lv_iload_n hx hb mD_Le_init_25 rfl (lv_at hl 0 rfl) ?_
        have hP : va_P D cL (gw (2 + 2 * i) ad (va_up (va_up E 1 (tQ (ct 1) 120 (cQ ad 2 i))) (2 + 2 * i) (.inr (0, [.null, .int 0, .int 0, .int 0])))) H := c_eq hP (fun k hk => (va_up_ne _ _ (by omega)).symm)
        refine c_new (C := cN_Ce) (T := cF_Ce) (N := 4) (ci := 0) (fs := [.null, .int 0, .int 0, .int 0]) hx hb htw wU_Ce cT_Ce cO_Ce hown ww_115 ww_117 ww_29 hK hP hS rfl (by decide) (by have := had (2 + 2 * i) (by omega) (by omega); omega) (va_up_self _ _ _) (by show 1 + 2 * i + 1 ≤ 241; omega) (by show 120 + 13 * i + 4 ≤ 1680; omega) mD_Le_init_26 (fun H hP hz2 hS => ?_)
        refine lv_dup hx hb mD_Le_init_29 rfl ?_
        refine gcc_I (y := mY_Ce_init) (b := mB_Ce_init) (ml := 1) (np := 0) (N := 2) (rm := { frames := 1, cells := 1, slots := 9, locals := 20 }) (As := []) (rest := [.ref (ad (2 + 2 * i)), .int (nI i), .ref (ad 1)]) (n := 2 + 2 * i) (E := va_up E 1 (tQ (ct 1) 120 (cQ ad 2 i))) (d0 := .inr (0, [.null, .int 0, .int 0, .int 0])) hx hb hml hown htw hK (c_inj hI (by omega)) hP hS (fun j h1 h2 => by have := had (2 + 2 * i + j) (by omega) (by omega); omega) (k_Ce_init l D ct (fun j => ad (2 + 2 * i + j)) (fun a b ha hb e => by have := hI (2 + 2 * i + a) (2 + 2 * i + b) (by omega) (by omega) e; omega) (fun j => va_up E 1 (tQ (ct 1) 120 (cQ ad 2 i)) (2 + 2 * i + j)) (by show va_up E 1 _ (2 + 2 * i + 0) = _; rw [va_up_ne _ _ (by omega)]; exact (hF i hi).1) (by show va_up E 1 _ (2 + 2 * i + 1) = _; rw [va_up_ne _ _ (by omega)]; exact (hF i hi).2)) gZ0_ok (fun _ _ _ => trivial) (fun q hq => by
          rcases hq with ⟨k, hk, ek⟩ | hq
          · have e0 : k = 0 := by omega
            subst e0
            rw [ek]
            exact hA _ (by omega)
          · exact Or.inr (by omega)) ww_118 ww_119 ww_29 wC_Ce_init rfl mP_Ce_init (by decide) rfl hl.1 rfl (Nat.le_of_ble_eq_true rfl) mD_Le_init_30 ⟨by show 1 + 2 * i + 1 + 1 ≤ 241; omega, by show 120 + 13 * i + 4 + 9 ≤ 1680; omega⟩ (fun H locs hP hz3 hS => ?_)
        refine c_ast (r := (cN_Ce, cF_Ce, 4)) (cells := 1 + 2 * i + 1 + 1) hx hb hK (c_inj hI (by omega)) (fun k hk => hA k (by omega)) hP hS (by omega) 1 1 (2 + 2 * i) 0 (by omega) (by omega) (va_up_self _ _ _) rfl (by rw [va_up_ne _ _ (by omega)]; exact (hF i hi).1) rfl hi (by decide) mD_Le_init_33 (fun H locs hP hS hz => ?_)
        rw [va_up2, cQ_s] at hP
        refine lv_iinc (k := 0) (v := nI (i + 1)) (lv' := [(1, .int (nI (i + 1))), (0, .ref (ad 0))]) hx hb mD_Le_init_34 hl rfl (by rw [lit1, nI_1]) (by decide) rfl (fun ls hl => ?_)
        refine lv_goto (tgt := 15) hx hb mD_Le_init_37 rfl ?_
        have k1 := ih (d - 1) (by omega) (i + 1) H locs ls (by omega) hl hP hS (by omega)
        rw [show 1 + 2 * (i + 1) = 1 + 2 * i + 1 + 1 by omega, show 120 + 13 * (i + 1) = 120 + 13 * i + 4 + 9 by omega] at k1
        exact k1
  exact loop 120 0 _ _ _ (by omega) hl hP hS (by omega)
