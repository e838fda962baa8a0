/-! TorusGates' public methods, first part. Laid by wip/whole/part_tg3.py. -/
theorem tR_new {α : tA} {v v1 v' : Nat → Nat → Int32} {q b : Nat} {z : Bool} {g : Int32} (h : tR α v) (hf : aFree α q) (e1 : v1 = va_up (va_up v (110 + 2 * q) (upd (v (110 + 2 * q)) 3 1)) 108 (upd (v 108) 1 (v 108 1 + 1)))
    (hs : ∀ k, k ≠ 0 → k ≠ 104 → k ≠ 105 → k ≠ 107 → k ≠ 110 + 2 * q → k ≠ 110 + 2 * q + 1 → ¬ (355 ≤ k ∧ k < 424) → v' k = v1 k) (h3 : v' (110 + 2 * q) 3 = v1 (110 + 2 * q) 3) (hc : tCok v' (110 + 2 * q) b z) (h10 : v' 0 10 = g) (h11 : v' 0 11 = v1 0 11) : tR (aGates (aMade α q z b) g) v' := by
  have hq := hf.1
  refine tR_made h hf (fun k a1 a2 a3 a4 a5 a6 a7 a8 => ?_) ?_ ?_ hc h10 ?_
  · rw [hs k a1 a2 a3 a4 a6 a7 a8, e1, va_up_ne _ _ a5, va_up_ne _ _ a6]
  · rw [hs 108 (by omega) (by omega) (by omega) (by omega) (by omega) (by omega) (by omega), e1, va_up_self, pk_us]
  · rw [h3, e1, va_up_ne _ _ (by omega), va_up_self, pk_us]
  · rw [h11, e1, va_up_ne _ _ (by omega), va_up_ne _ _ (by omega)]
theorem tn_8k (k : Nat) : nI 8 * nI k + nI 1 = nI (8 * k + 1) := by
  show Int32.ofNat 8 * Int32.ofNat k + nI 1 = _
  rw [← Int32.ofNat_mul]
  exact nI_add _ _
theorem tn_not {z : Bool} {v : Int32} (h : v = tBi z) : (if v = 0 then (1 : Int32) else 0) = tBi (!z) := by
  subst h
  cases z <;> rfl
theorem tn_in {b : Nat} {d : Int32} (h : tp_sm b d) (hb : b < 1073741824) : d ≤ nI b ∧ ¬ d < -nI b := by
  obtain ⟨w, h1, rfl⟩ := h
  have hsz : Int32.size = 4294967296 := rfl
  have e1 : (Int32.ofInt w).toInt = w := by
    rw [Int32.toInt_ofInt]
    exact Int.bmod_eq_of_le (by omega) (by omega)
  have e2 : (nI b).toInt = b := nI_toInt (by omega)
  have e3 : (-nI b).toInt = -(b : Int) := by
    rw [Int32.toInt_neg, e2]
    exact Int.bmod_eq_of_le (by omega) (by omega)
  rw [Int32.le_iff_toInt_le, Int32.lt_iff_toInt_lt, e1, e2, e3]
  omega
theorem tn_open {z : Bool} {pl : Int32} (ho : 0 < pl.toInt ↔ z = true) : (pl ≤ 0 → nI 0 = tBi z) ∧ (¬ pl ≤ 0 → nI 1 = tBi z) := by
  have h0 : (0 : Int32).toInt = 0 := by decide
  rw [Int32.le_iff_toInt_le, h0]
  cases z with
  | true =>
    have h1 := ho.mpr rfl
    exact ⟨fun h => by omega, fun _ => rfl⟩
  | false =>
    refine ⟨fun _ => rfl, fun h => ?_⟩
    have h1 := ho.mp (by omega)
    cases h1
def aGB (α : tA) : Nat → Nat
  | 0 => 0
  | n + 1 => if aT α n = true ∧ aGB α n < aB α n then aB α n else aGB α n
theorem aGB_lt {α : tA} (h : ∀ q, q < 120 → aT α q = true → aB α q < 1073741824) {n : Nat} (hn : n ≤ 120) : aGB α n < 1073741824 := by
  induction n with
  | zero =>
    show (0 : Nat) < 1073741824
    decide
  | succ n ih =>
    unfold aGB
    split
    · rename_i q
      exact h n (by omega) q.1
    · exact ih (by omega)
theorem aGB_eq {α : tA} {v : Nat → Nat → Int32} (h : tR α v) {n : Nat} (hn : n ≤ 120) : tGB v n = nI (aGB α n) := by
  induction n with
  | zero => rfl
  | succ n ih =>
    have i1 := ih (by omega)
    have h1 := (h.2.1 n (by omega)).1
    have h2 := (h.2.1 n (by omega)).2
    have h4 := aGB_lt (fun q a b => ((h.2.1 q a).2 b).1) (show n ≤ 120 by omega)
    unfold tGB aGB
    rw [i1, h1]
    cases ht : aT α n with
    | false => simp [tBi]
    | true =>
      have h3 := h2 ht
      rw [h3.2.1]
      have h5 := h3.1
      by_cases q : aGB α n < aB α n
      · rw [if_pos ⟨by decide, fun z => by have := (nI_leI (by omega) (by omega)).mp z; omega⟩, if_pos ⟨rfl, q⟩]
      · rw [if_neg (fun z => z.2 ((nI_leI (by omega) (by omega)).mpr (by omega))), if_neg (fun z => q z.2)]
def aCount (α : tA) (w : Nat) : Int32 := if w = 0 then nI (aCnt (aT α) 120) else if w = 1 then aG α else if w = 2 then aR α else if w = 3 then nI (aZ α) else nI (aGB α 120)

set_option maxHeartbeats 4000000 in
set_option maxRecDepth 100000 in
theorem k_TG_key (l : Launch) (D : va_G) (ct : Nat → ClassId) (ad : Nat → Nat) (hI : gw_inj 424 ad) (x : tS) (α : tA) (hR : tR α x.1) (a : Int32) : gMi l mY_TG_key mB_TG_key 2 (some .int) (rF 6 138) D (tT ct) gZ0 424 ad (tD ct ad) [.ref (ad 0), .int a] x (fun r x' => r = nI (aCnt (aT α) 120) ∧ tR (aKey α) x'.1) := by
  refine gMi_enter (by decide) (Nat.le_of_ble_eq_true rfl) ?_
  intro p e s m below meth c ls hx hb hr htw hown hlocks hml hl hP hK hZ hS
  have hA : ∀ k, k < 424 → gA 424 ad s.heap.size (ad k) := fun _ h => gA_in h
  have hl : lv_has ls 2 [(0, .ref (ad 0)), (1, .int a)] := hl
  refine lv_aload_n hx hb mD_TG_key_0 rfl (lv_at hl 0 rfl) ?_
  refine lv_iload_n hx hb mD_TG_key_1 rfl (lv_at hl 1 rfl) ?_
  refine gc_Vv (As := [.int a]) (rest := []) hx hb hml hown htw hK hP hS 0 (k_TG_makeKey l D ct ad hI x a) gZ0_ok (fun _ _ _ => trivial) (gA_mono hS.1) (by decide) rfl rfl ww_173 ww_175 ww_0 ww_23 wC_TG_makeKey mP_TG_makeKey (by decide) rfl hl.1 rfl (Nat.le_of_ble_eq_true rfl) mD_TG_key_2 ⟨Nat.le_of_ble_eq_true rfl, Nat.le_of_ble_eq_true rfl⟩ (fun x1 H locs hp1 hP _ _ hS => ?_)
  obtain ⟨hk1, e1⟩ := hp1
  refine lv_aload_n hx hb mD_TG_key_5 rfl (lv_at hl 0 rfl) ?_
  refine t_get (C := cN_TG) (T := cF_TG) (N := 12) (ci := 7) hx hb htw wU_TG hown hK hP 0 (by decide) rfl rfl 4 (by decide) rfl ww_226 rfl mD_TG_key_6 ?_
  refine gc_Vi (As := []) (rest := []) hx hb hml hown htw hK hP hS 108 (k_Le_removeAll l D ct ad hI x1) gZ0_ok (fun _ _ _ => trivial) (gA_mono hS.1) (by decide) rfl rfl ww_263 ww_264 ww_265 ww_28 wC_Le_removeAll mP_Le_removeAll (by decide) rfl hl.1 rfl (Nat.le_of_ble_eq_true rfl) mD_TG_key_9 ⟨Nat.le_of_ble_eq_true rfl, Nat.le_of_ble_eq_true rfl⟩ (fun r4 x3 H locs hp3 hP _ _ hS => ?_)
  obtain ⟨er, hj, h8, he⟩ := hp3
  exact gw_iret hx hb hr hlocks hP hS (⟨by rw [er, e1 108 (by omega)]; exact hR.2.2.1, tR_key hR (tKey_eq hk1 (fun k hk => he k (by omega) (fun j hj => by omega))) (fun j hj_ => by rw [hj j hj_, pk_us]) (by rw [h8, pk_us]) (fun k hk => by rw [he k (by omega) (fun j hj => by omega), e1 k (by omega)])⟩) mD_TG_key_12 (Nat.zero_le _) (Nat.zero_le _)

set_option maxHeartbeats 4000000 in
set_option maxRecDepth 100000 in
theorem k_TG_bit (l : Launch) (D : va_G) (ct : Nat → ClassId) (ad : Nat → Nat) (hI : gw_inj 424 ad) (x : tS) (α : tA) (hR : tR α x.1) (z : Bool) {q : Nat} (hf : aFree α q) : gMi l mY_TG_bit mB_TG_bit 3 (some .int) (rF 4 91) D (tT ct) gZ0 424 ad (tD ct ad) [.ref (ad 0), .int (tBi z)] x (fun r x' => r = nI q ∧ tR (aMade α q z 16) x'.1) := by
  refine gMi_enter (by decide) (Nat.le_of_ble_eq_true rfl) ?_
  intro p e s m below meth c ls hx hb hr htw hown hlocks hml hl hP hK hZ hS
  have hA : ∀ k, k < 424 → gA 424 ad s.heap.size (ad k) := fun _ h => gA_in h
  have hl : lv_has ls 3 [(0, .ref (ad 0)), (1, .int (tBi z))] := hl
  refine lv_aload_n hx hb mD_TG_bit_0 rfl (lv_at hl 0 rfl) ?_
  refine gc_Vi (As := []) (rest := []) hx hb hml hown htw hK hP hS 0 (k_TG_freeNumber l D ct ad hI x (q := q) hf.1 (tR_fr hR hf).1 (tR_fr hR hf).2) gZ0_ok (fun _ _ _ => trivial) (gA_mono hS.1) (by decide) rfl rfl ww_283 ww_285 ww_2 ww_23 wC_TG_freeNumber mP_TG_freeNumber (by decide) rfl hl.1 rfl (Nat.le_of_ble_eq_true rfl) mD_TG_bit_1 ⟨Nat.le_of_ble_eq_true rfl, Nat.le_of_ble_eq_true rfl⟩ (fun r2 x1 H locs hp1 hP _ _ hS => ?_)
  obtain ⟨hq_, rfl⟩ := hp1
  rw [hq_] at hP
  refine lv_istore_n (lv' := [(2, .int (nI q)), (0, .ref (ad 0)), (1, .int (tBi z))]) hx hb mD_TG_bit_4 rfl hl (by decide) rfl (fun ls hl => ?_)
  refine lv_aload_n hx hb mD_TG_bit_5 rfl (lv_at hl 1 rfl) ?_
  refine lv_aload_n hx hb mD_TG_bit_6 rfl (lv_at hl 1 rfl) ?_
  refine t_get (C := cN_TG) (T := cF_TG) (N := 12) (ci := 7) hx hb htw wU_TG hown hK hP 0 (by decide) rfl rfl 4 (by decide) rfl ww_226 rfl mD_TG_bit_7 ?_
  refine lv_iload_n hx hb mD_TG_bit_10 rfl (lv_at hl 0 rfl) ?_
  refine gc_Vr (As := [.int (nI q)]) (rest := [.ref (ad 0)]) hx hb hml hown htw hK hP hS 108 (k_Le_take l D ct ad hI x (q := q) hf.1) gZ0_ok (fun _ _ _ => trivial) (gA_mono hS.1) (by decide) rfl rfl ww_359 ww_360 ww_361 ww_28 wC_Le_take mP_Le_take (by decide) rfl hl.1 rfl (Nat.le_of_ble_eq_true rfl) mD_TG_bit_11 ⟨Nat.le_of_ble_eq_true rfl, Nat.le_of_ble_eq_true rfl⟩ (fun r4 x3 H locs hp3 hP _ _ hS => ?_)
  obtain ⟨ra, e1⟩ := hp3
  subst ra
  refine lv_iload_n hx hb mD_TG_bit_14 rfl (lv_at hl 2 rfl) ?_
  refine gc_Vv (As := [.ref (ad ((110 + 2 * q))), .int (tBi z)]) (rest := []) hx hb hml hown htw hK hP hS 0 (k_TG_fillNew l D ct ad hI x3 (kc := 110 + 2 * q) (tCe_led hf.1) z) gZ0_ok (fun _ _ _ => trivial) (gA_mono hS.1) (by decide) rfl rfl ww_363 ww_365 ww_4 ww_23 wC_TG_fillNew mP_TG_fillNew (by decide) rfl hl.1 rfl (Nat.le_of_ble_eq_true rfl) mD_TG_bit_15 ⟨Nat.le_of_ble_eq_true rfl, Nat.le_of_ble_eq_true rfl⟩ (fun x5 H locs hp5 hP _ _ hS => ?_)
  obtain ⟨g, e2, hg⟩ := hp5
  refine lv_iload_n hx hb mD_TG_bit_18 rfl (lv_at hl 0 rfl) ?_
  exact gw_iret hx hb hr hlocks hP hS (have hn : (110 + 2 * q) + 1 ≠ 110 + 2 * q := Nat.succ_ne_self _; have hq := hf.1; ⟨rfl, tR_new (g := aG α) hR hf e1 (fun k a1 a2 a3 a4 a5 a6 a7 => by rw [e2, va_up_ne _ _ a5, va_up_ne _ _ a6]) (by rw [e2, va_up_self, pk_un (by decide), pk_un (by decide)]) ⟨by decide, by rw [e2, va_up_self, pk_un (by decide), pk_us], by rw [e2, va_up_self, pk_us], by rw [e2, va_up_ne _ _ hn, va_up_self, va_up_ne _ _ (by omega), va_up_ne _ _ (by omega)]; exact hg⟩ (by rw [e2, va_up_ne _ _ (by omega), va_up_ne _ _ (by omega), e1, va_up_ne _ _ (by omega), va_up_ne _ _ (by omega)]; exact hR.2.2.2.2.1) (by rw [e2, va_up_ne _ _ (by omega), va_up_ne _ _ (by omega)])⟩) mD_TG_bit_19 (Nat.zero_le _) (Nat.zero_le _)

set_option maxHeartbeats 4000000 in
set_option maxRecDepth 100000 in
theorem x_TG_bit (l : Launch) (D : va_G) (ct : Nat → ClassId) (ad : Nat → Nat) (hI : gw_inj 424 ad) (x : tS) (hls : l.stackTraces = false) {s0 : State} {zt : Nat → Nat} (h0 : tO s0 zt) (α : tA) (hR : tR α x.1) (z : Bool) (hf : aFull α) : gX l mY_TG_bit mB_TG_bit 3 (some .int) (rX 7 103) D (tT ct) (tZ s0) 424 ad (tD ct ad) [.ref (ad 0), .int (tBi z)] x tX_S (fun x' => tR α x'.1) := by
  refine gX_enter (by decide) (Nat.le_of_ble_eq_true rfl) ?_
  intro p e s m below meth c ls hx hb hr htw hown hlocks hml hl hP hK hZ hS hno
  have hA : ∀ k, k < 424 → gA 424 ad s.heap.size (ad k) := fun _ h => gA_in h
  have hl : lv_has ls 3 [(0, .ref (ad 0)), (1, .int (tBi z))] := hl
  have hP0 := hP
  refine lv_aload_n hx hb mD_TG_bit_0 rfl (lv_at hl 0 rfl) ?_
  refine tx_call (As := []) (rest := []) hx hb hml hown htw hK hP hS 0 (x_TG_freeNumber l D ct ad hI x hls h0 (tR_fl hR hf)) (tZ_ok s0) (tZ_at hZ hS) (gA_mono hS.1) (by decide) rfl rfl ww_283 ww_285 ww_2 ww_23 wC_TG_freeNumber mP_TG_freeNumber (by decide) rfl hl.1 rfl (Nat.le_of_ble_eq_true rfl) mD_TG_bit_1 ⟨Nat.le_of_ble_eq_true rfl, Nat.le_of_ble_eq_true rfl⟩ (fun q ce x1 H locs hp hP _ _ hS hce hcv hcl => ?_)
  exact tx_out hno hlocks hP hS (hp ▸ hR) hce hcv hcl (by decide) (by decide)

set_option maxHeartbeats 4000000 in
set_option maxRecDepth 100000 in
theorem k_TG_drop (l : Launch) (D : va_G) (ct : Nat → ClassId) (ad : Nat → Nat) (hI : gw_inj 424 ad) (x : tS) (α : tA) (hR : tR α x.1) {q : Nat} (hq : q < 120) (ht : aT α q = true) : gMi l mY_TG_drop mB_TG_drop 3 (some .int) (rF 2 42) D (tT ct) gZ0 424 ad (tD ct ad) [.ref (ad 0), .int (nI q)] x (fun r x' => r = nI (aCnt (aT (aDrop α q)) 120) ∧ tR (aDrop α q) x'.1) := by
  refine gMi_enter (by decide) (Nat.le_of_ble_eq_true rfl) ?_
  intro p e s m below meth c ls hx hb hr htw hown hlocks hml hl hP hK hZ hS
  have hA : ∀ k, k < 424 → gA 424 ad s.heap.size (ad k) := fun _ h => gA_in h
  have hl : lv_has ls 3 [(0, .ref (ad 0)), (1, .int (nI q))] := hl
  refine lv_aload_n hx hb mD_TG_drop_0 rfl (lv_at hl 0 rfl) ?_
  refine lv_iload_n hx hb mD_TG_drop_1 rfl (lv_at hl 1 rfl) ?_
  refine gc_Vr (As := [.int (nI q)]) (rest := []) hx hb hml hown htw hK hP hS 0 (k_TG_cellOf l D ct ad hI x (q := q) hq (tR_th hR hq ht)) gZ0_ok (fun _ _ _ => trivial) (gA_mono hS.1) (by decide) rfl rfl ww_381 ww_383 ww_5 ww_23 wC_TG_cellOf mP_TG_cellOf (by decide) rfl hl.1 rfl (Nat.le_of_ble_eq_true rfl) mD_TG_drop_2 ⟨Nat.le_of_ble_eq_true rfl, Nat.le_of_ble_eq_true rfl⟩ (fun r2 x1 H locs hp1 hP _ _ hS => ?_)
  obtain ⟨ra, hq_⟩ := hp1
  subst ra
  rw [hq_] at hP
  refine lv_astore_n (lv' := [(2, .ref (ad ((110 + 2 * q)))), (0, .ref (ad 0)), (1, .int (nI q))]) hx hb mD_TG_drop_5 rfl hl (by decide) rfl (fun ls hl => ?_)
  refine lv_aload_n hx hb mD_TG_drop_6 rfl (lv_at hl 1 rfl) ?_
  refine t_get (C := cN_TG) (T := cF_TG) (N := 12) (ci := 7) hx hb htw wU_TG hown hK hP 0 (by decide) rfl rfl 4 (by decide) rfl ww_226 rfl mD_TG_drop_7 ?_
  refine lv_aload_n hx hb mD_TG_drop_10 rfl (lv_at hl 0 rfl) ?_
  refine gc_Vv (As := [.ref (ad ((110 + 2 * q)))]) (rest := []) hx hb hml hown htw hK hP hS 108 (k_Le_remove l D ct ad hI x (kc := 110 + 2 * q) (tCe_led hq)) gZ0_ok (fun _ _ _ => trivial) (gA_mono hS.1) (by decide) rfl rfl ww_405 ww_406 ww_407 ww_28 wC_Le_remove mP_Le_remove (by decide) rfl hl.1 rfl (Nat.le_of_ble_eq_true rfl) mD_TG_drop_11 ⟨Nat.le_of_ble_eq_true rfl, Nat.le_of_ble_eq_true rfl⟩ (fun x3 H locs hp3 hP _ _ hS => ?_)
  have e1 := hp3
  refine lv_aload_n hx hb mD_TG_drop_14 rfl (lv_at hl 1 rfl) ?_
  refine t_get (C := cN_TG) (T := cF_TG) (N := 12) (ci := 7) hx hb htw wU_TG hown hK hP 0 (by decide) rfl rfl 4 (by decide) rfl ww_226 rfl mD_TG_drop_15 ?_
  refine t_get (C := cN_Le) (T := cF_Le) (N := 2) (ci := 2) hx hb htw wU_Le hown hK hP 108 (by decide) rfl rfl 1 (by decide) rfl ww_142 rfl mD_TG_drop_18 ?_
  exact gw_iret hx hb hr hlocks hP hS (⟨(tR_drop hR hq ht e1).2, (tR_drop hR hq ht e1).1⟩) mD_TG_drop_21 (Nat.zero_le _) (Nat.zero_le _)

set_option maxHeartbeats 4000000 in
set_option maxRecDepth 100000 in
theorem x_TG_drop (l : Launch) (D : va_G) (ct : Nat → ClassId) (ad : Nat → Nat) (hI : gw_inj 424 ad) (x : tS) (hls : l.stackTraces = false) {s0 : State} {zt : Nat → Nat} (h0 : tO s0 zt) (α : tA) (hR : tR α x.1) (a : Int32) (hh : ¬ aHas α a) : gX l mY_TG_drop mB_TG_drop 3 (some .int) (rX 7 103) D (tT ct) (tZ s0) 424 ad (tD ct ad) [.ref (ad 0), .int a] x tX_N (fun x' => tR α x'.1) := by
  refine gX_enter (by decide) (Nat.le_of_ble_eq_true rfl) ?_
  intro p e s m below meth c ls hx hb hr htw hown hlocks hml hl hP hK hZ hS hno
  have hA : ∀ k, k < 424 → gA 424 ad s.heap.size (ad k) := fun _ h => gA_in h
  have hl : lv_has ls 3 [(0, .ref (ad 0)), (1, .int a)] := hl
  have hP0 := hP
  refine lv_aload_n hx hb mD_TG_drop_0 rfl (lv_at hl 0 rfl) ?_
  refine lv_iload_n hx hb mD_TG_drop_1 rfl (lv_at hl 1 rfl) ?_
  refine tx_call (As := [.int a]) (rest := []) hx hb hml hown htw hK hP hS 0 (x_TG_cellOf l D ct ad hI x hls h0 a (fun q => hh ((tR_has hR _).mp q))) (tZ_ok s0) (tZ_at hZ hS) (gA_mono hS.1) (by decide) rfl rfl ww_381 ww_383 ww_5 ww_23 wC_TG_cellOf mP_TG_cellOf (by decide) rfl hl.1 rfl (Nat.le_of_ble_eq_true rfl) mD_TG_drop_2 ⟨Nat.le_of_ble_eq_true rfl, Nat.le_of_ble_eq_true rfl⟩ (fun q ce x1 H locs hp hP _ _ hS hce hcv hcl => ?_)
  exact tx_out hno hlocks hP hS (hp ▸ hR) hce hcv hcl (by decide) (by decide)

set_option maxHeartbeats 4000000 in
set_option maxRecDepth 100000 in
theorem k_TG_not (l : Launch) (D : va_G) (ct : Nat → ClassId) (ad : Nat → Nat) (hI : gw_inj 424 ad) (x : tS) (α : tA) (hR : tR α x.1) {q u : Nat} (hu : u < 120) (hut : aT α u = true) (hf : aFree α q) : gMi l mY_TG_not mB_TG_not 4 (some .int) (rF 3 106) D (tT ct) gZ0 424 ad (tD ct ad) [.ref (ad 0), .int (nI u)] x (fun r x' => r = nI q ∧ tR (aMade α q (!(aV α u)) (aB α u)) x'.1) := by
  refine gMi_enter (by decide) (Nat.le_of_ble_eq_true rfl) ?_
  intro p e s m below meth c ls hx hb hr htw hown hlocks hml hl hP hK hZ hS
  have hA : ∀ k, k < 424 → gA 424 ad s.heap.size (ad k) := fun _ h => gA_in h
  have hl : lv_has ls 4 [(0, .ref (ad 0)), (1, .int (nI u))] := hl
  refine lv_aload_n hx hb mD_TG_not_0 rfl (lv_at hl 0 rfl) ?_
  refine lv_iload_n hx hb mD_TG_not_1 rfl (lv_at hl 1 rfl) ?_
  refine gc_Vr (As := [.int (nI u)]) (rest := []) hx hb hml hown htw hK hP hS 0 (k_TG_cellOf l D ct ad hI x (q := u) hu (tR_th hR hu hut)) gZ0_ok (fun _ _ _ => trivial) (gA_mono hS.1) (by decide) rfl rfl ww_381 ww_383 ww_5 ww_23 wC_TG_cellOf mP_TG_cellOf (by decide) rfl hl.1 rfl (Nat.le_of_ble_eq_true rfl) mD_TG_not_2 ⟨Nat.le_of_ble_eq_true rfl, Nat.le_of_ble_eq_true rfl⟩ (fun r2 x1 H locs hp1 hP _ _ hS => ?_)
  obtain ⟨ra, hq_⟩ := hp1
  subst ra
  rw [hq_] at hP
  refine lv_astore_n (lv' := [(2, .ref (ad ((110 + 2 * u)))), (0, .ref (ad 0)), (1, .int (nI u))]) hx hb mD_TG_not_5 rfl hl (by decide) rfl (fun ls hl => ?_)
  refine lv_aload_n hx hb mD_TG_not_6 rfl (lv_at hl 1 rfl) ?_
  refine gc_Vi (As := []) (rest := []) hx hb hml hown htw hK hP hS 0 (k_TG_freeNumber l D ct ad hI x (q := q) hf.1 (tR_fr hR hf).1 (tR_fr hR hf).2) gZ0_ok (fun _ _ _ => trivial) (gA_mono hS.1) (by decide) rfl rfl ww_283 ww_285 ww_2 ww_23 wC_TG_freeNumber mP_TG_freeNumber (by decide) rfl hl.1 rfl (Nat.le_of_ble_eq_true rfl) mD_TG_not_7 ⟨Nat.le_of_ble_eq_true rfl, Nat.le_of_ble_eq_true rfl⟩ (fun r4 x3 H locs hp3 hP _ _ hS => ?_)
  obtain ⟨hq_, rfl⟩ := hp3
  rw [hq_] at hP
  refine lv_istore_n (lv' := [(3, .int (nI q)), (2, .ref (ad ((110 + 2 * u)))), (0, .ref (ad 0)), (1, .int (nI u))]) hx hb mD_TG_not_10 rfl hl (by decide) rfl (fun ls hl => ?_)
  refine lv_aload_n hx hb mD_TG_not_11 rfl (lv_at hl 2 rfl) ?_
  refine t_get (C := cN_TG) (T := cF_TG) (N := 12) (ci := 7) hx hb htw wU_TG hown hK hP 0 (by decide) rfl rfl 4 (by decide) rfl ww_226 rfl mD_TG_not_12 ?_
  refine lv_iload_n hx hb mD_TG_not_15 rfl (lv_at hl 0 rfl) ?_
  refine gc_Vr (As := [.int (nI q)]) (rest := []) hx hb hml hown htw hK hP hS 108 (k_Le_take l D ct ad hI x (q := q) hf.1) gZ0_ok (fun _ _ _ => trivial) (gA_mono hS.1) (by decide) rfl rfl ww_359 ww_360 ww_361 ww_28 wC_Le_take mP_Le_take (by decide) rfl hl.1 rfl (Nat.le_of_ble_eq_true rfl) mD_TG_not_16 ⟨Nat.le_of_ble_eq_true rfl, Nat.le_of_ble_eq_true rfl⟩ (fun r6 x5 H locs hp5 hP _ _ hS => ?_)
  obtain ⟨ra, e1⟩ := hp5
  subst ra
  have hne : u ≠ q := fun z => by have h1 := hf.2.1; rw [← z, hut] at h1; cases h1
  have hq := hf.1
  have hu0 := (hR.2.1 u hu).2 hut
  have eu : x5.1 (110 + 2 * u) = x.1 (110 + 2 * u) := by rw [e1, va_up_ne _ _ (by omega), va_up_ne _ _ (by omega)]
  have eu1 : x5.1 (110 + 2 * u + 1) = x.1 (110 + 2 * u + 1) := by rw [e1, va_up_ne _ _ (by omega), va_up_ne _ _ (by omega)]
  refine lv_aload_n hx hb mD_TG_not_19 rfl (lv_at hl 1 rfl) ?_
  refine gc_Vv (As := [.ref (ad ((110 + 2 * u)))]) (rest := []) hx hb hml hown htw hK hP hS ((110 + 2 * q)) (k_Ce_becomeOpposite l D ct ad hI x5 (kc := 110 + 2 * q) (ko := 110 + 2 * u) (tCe_led hq) (tCe_led hu) (by omega) (by rw [eu, hu0.2.2.1]; exact tBi_bit _)) gZ0_ok (fun _ _ _ => trivial) (gA_mono hS.1) (tCe_lt (tCe_led (c := q) hf.1)) (tE_cell (tCe_led (c := q) hf.1)) rfl ww_416 ww_417 ww_418 ww_29 wC_Ce_becomeOpposite mP_Ce_becomeOpposite (by decide) rfl hl.1 rfl (Nat.le_of_ble_eq_true rfl) mD_TG_not_20 ⟨Nat.le_of_ble_eq_true rfl, Nat.le_of_ble_eq_true rfl⟩ (fun x7 H locs hp7 hP _ _ hS => ?_)
  obtain ⟨g, e2, hg⟩ := hp7
  rw [eu] at e2
  refine lv_iload_n hx hb mD_TG_not_23 rfl (lv_at hl 0 rfl) ?_
  exact gw_iret hx hb hr hlocks hP hS (have hn : (110 + 2 * q) + 1 ≠ 110 + 2 * q := Nat.succ_ne_self _; ⟨rfl, tR_new (g := aG α) hR hf e1 (fun k a1 a2 a3 a4 a5 a6 a7 => by rw [e2, va_up_ne _ _ a5, va_up_ne _ _ a6]) (by rw [e2, va_up_self, pk_un (by decide), pk_un (by decide)]) ⟨hu0.1, by rw [e2, va_up_self, pk_un (by decide), pk_us]; exact hu0.2.1, by rw [e2, va_up_self, pk_us]; exact tn_not hu0.2.2.1, by rw [e2, va_up_ne _ _ hn, va_up_self, va_up_ne _ _ (by omega), va_up_ne _ _ (by omega), e1, va_up_ne _ _ (by omega), va_up_ne _ _ (by omega)]; exact tp_near_not hu0.2.2.2 (fun i hi => by rw [hg i hi, eu1])⟩ (by rw [e2, va_up_ne _ _ (by omega), va_up_ne _ _ (by omega), e1, va_up_ne _ _ (by omega), va_up_ne _ _ (by omega)]; exact hR.2.2.2.2.1) (by rw [e2, va_up_ne _ _ (by omega), va_up_ne _ _ (by omega)])⟩) mD_TG_not_24 (Nat.zero_le _) (Nat.zero_le _)

set_option maxHeartbeats 4000000 in
set_option maxRecDepth 100000 in
theorem x_TG_not1 (l : Launch) (D : va_G) (ct : Nat → ClassId) (ad : Nat → Nat) (hI : gw_inj 424 ad) (x : tS) (hls : l.stackTraces = false) {s0 : State} {zt : Nat → Nat} (h0 : tO s0 zt) (α : tA) (hR : tR α x.1) (a : Int32) (hh : ¬ aHas α a) : gX l mY_TG_not mB_TG_not 4 (some .int) (rX 7 106) D (tT ct) (tZ s0) 424 ad (tD ct ad) [.ref (ad 0), .int a] x tX_N (fun x' => tR α x'.1) := by
  refine gX_enter (by decide) (Nat.le_of_ble_eq_true rfl) ?_
  intro p e s m below meth c ls hx hb hr htw hown hlocks hml hl hP hK hZ hS hno
  have hA : ∀ k, k < 424 → gA 424 ad s.heap.size (ad k) := fun _ h => gA_in h
  have hl : lv_has ls 4 [(0, .ref (ad 0)), (1, .int a)] := hl
  have hP0 := hP
  refine lv_aload_n hx hb mD_TG_not_0 rfl (lv_at hl 0 rfl) ?_
  refine lv_iload_n hx hb mD_TG_not_1 rfl (lv_at hl 1 rfl) ?_
  refine tx_call (As := [.int a]) (rest := []) hx hb hml hown htw hK hP hS 0 (x_TG_cellOf l D ct ad hI x hls h0 a (fun q => hh ((tR_has hR _).mp q))) (tZ_ok s0) (tZ_at hZ hS) (gA_mono hS.1) (by decide) rfl rfl ww_381 ww_383 ww_5 ww_23 wC_TG_cellOf mP_TG_cellOf (by decide) rfl hl.1 rfl (Nat.le_of_ble_eq_true rfl) mD_TG_not_2 ⟨Nat.le_of_ble_eq_true rfl, Nat.le_of_ble_eq_true rfl⟩ (fun q ce x1 H locs hp hP _ _ hS hce hcv hcl => ?_)
  exact tx_out hno hlocks hP hS (hp ▸ hR) hce hcv hcl (by decide) (by decide)

set_option maxHeartbeats 4000000 in
set_option maxRecDepth 100000 in
theorem x_TG_not2 (l : Launch) (D : va_G) (ct : Nat → ClassId) (ad : Nat → Nat) (hI : gw_inj 424 ad) (x : tS) (hls : l.stackTraces = false) {s0 : State} {zt : Nat → Nat} (h0 : tO s0 zt) (α : tA) (hR : tR α x.1) {u : Nat} (hu : u < 120) (hut : aT α u = true) (hf : aFull α) : gX l mY_TG_not mB_TG_not 4 (some .int) (rX 7 106) D (tT ct) (tZ s0) 424 ad (tD ct ad) [.ref (ad 0), .int (nI u)] x tX_S (fun x' => tR α x'.1) := by
  refine gX_enter (by decide) (Nat.le_of_ble_eq_true rfl) ?_
  intro p e s m below meth c ls hx hb hr htw hown hlocks hml hl hP hK hZ hS hno
  have hA : ∀ k, k < 424 → gA 424 ad s.heap.size (ad k) := fun _ h => gA_in h
  have hl : lv_has ls 4 [(0, .ref (ad 0)), (1, .int (nI u))] := hl
  have hP0 := hP
  refine lv_aload_n hx hb mD_TG_not_0 rfl (lv_at hl 0 rfl) ?_
  refine lv_iload_n hx hb mD_TG_not_1 rfl (lv_at hl 1 rfl) ?_
  refine gc_Vr (As := [.int (nI u)]) (rest := []) hx hb hml hown htw hK hP hS 0 (k_TG_cellOf l D ct ad hI x (q := u) hu (tR_th hR hu hut)) gZ0_ok (fun _ _ _ => trivial) (gA_mono hS.1) (by decide) rfl rfl ww_381 ww_383 ww_5 ww_23 wC_TG_cellOf mP_TG_cellOf (by decide) rfl hl.1 rfl (Nat.le_of_ble_eq_true rfl) mD_TG_not_2 ⟨Nat.le_of_ble_eq_true rfl, Nat.le_of_ble_eq_true rfl⟩ (fun r2 x1 H locs hp1 hP _ _ hS => ?_)
  obtain ⟨ra, hq_⟩ := hp1
  subst ra
  rw [hq_] at hP
  refine lv_astore_n (lv' := [(2, .ref (ad ((110 + 2 * u)))), (0, .ref (ad 0)), (1, .int (nI u))]) hx hb mD_TG_not_5 rfl hl (by decide) rfl (fun ls hl => ?_)
  refine lv_aload_n hx hb mD_TG_not_6 rfl (lv_at hl 1 rfl) ?_
  refine tx_call (As := []) (rest := []) hx hb hml hown htw hK hP hS 0 (x_TG_freeNumber l D ct ad hI x hls h0 (tR_fl hR hf)) (tZ_ok s0) (tZ_at hZ hS) (gA_mono hS.1) (by decide) rfl rfl ww_283 ww_285 ww_2 ww_23 wC_TG_freeNumber mP_TG_freeNumber (by decide) rfl hl.1 rfl (Nat.le_of_ble_eq_true rfl) mD_TG_not_7 ⟨Nat.le_of_ble_eq_true rfl, Nat.le_of_ble_eq_true rfl⟩ (fun q ce x3 H locs hp hP _ _ hS hce hcv hcl => ?_)
  exact tx_out hno hlocks hP hS (hp ▸ hR) hce hcv hcl (by decide) (by decide)

set_option maxHeartbeats 4000000 in
set_option maxRecDepth 100000 in
theorem k_TG_open (l : Launch) (D : va_G) (ct : Nat → ClassId) (ad : Nat → Nat) (hI : gw_inj 424 ad) (x : tS) (α : tA) (hR : tR α x.1) {u : Nat} (hu : u < 120) (hut : aT α u = true) (hb_ : aB α u < 268435456) : gMi l mY_TG_open mB_TG_open 3 (some .int) (rF 2 42) D (tT ct) gZ0 424 ad (tD ct ad) [.ref (ad 0), .int (nI u)] x (fun r x' => r = tBi (aV α u) ∧ tR α x'.1) := by
  refine gMi_enter (by decide) (Nat.le_of_ble_eq_true rfl) ?_
  intro p e s m below meth c ls hx hb hr htw hown hlocks hml hl hP hK hZ hS
  have hA : ∀ k, k < 424 → gA 424 ad s.heap.size (ad k) := fun _ h => gA_in h
  have hl : lv_has ls 3 [(0, .ref (ad 0)), (1, .int (nI u))] := hl
  refine lv_aload_n hx hb mD_TG_open_0 rfl (lv_at hl 0 rfl) ?_
  refine lv_iload_n hx hb mD_TG_open_1 rfl (lv_at hl 1 rfl) ?_
  refine gc_Vr (As := [.int (nI u)]) (rest := []) hx hb hml hown htw hK hP hS 0 (k_TG_cellOf l D ct ad hI x (q := u) hu (tR_th hR hu hut)) gZ0_ok (fun _ _ _ => trivial) (gA_mono hS.1) (by decide) rfl rfl ww_381 ww_383 ww_5 ww_23 wC_TG_cellOf mP_TG_cellOf (by decide) rfl hl.1 rfl (Nat.le_of_ble_eq_true rfl) mD_TG_open_2 ⟨Nat.le_of_ble_eq_true rfl, Nat.le_of_ble_eq_true rfl⟩ (fun r2 x1 H locs hp1 hP _ _ hS => ?_)
  obtain ⟨ra, hq_⟩ := hp1
  subst ra
  rw [hq_] at hP
  refine lv_astore_n (lv' := [(2, .ref (ad ((110 + 2 * u)))), (0, .ref (ad 0)), (1, .int (nI u))]) hx hb mD_TG_open_5 rfl hl (by decide) rfl (fun ls hl => ?_)
  have hu0 := (hR.2.1 u hu).2 hut
  refine lv_aload_n hx hb mD_TG_open_6 rfl (lv_at hl 0 rfl) ?_
  refine t_get (C := cN_Ce) (T := cF_Ce) (N := 4) (ci := 0) hx hb htw wU_Ce hown hK hP ((110 + 2 * u)) (tCe_lt (tCe_led (c := u) hu)) (tE_cell (tCe_led (c := u) hu)) rfl 1 (by decide) rfl ww_125 rfl mD_TG_open_7 ?_
  refine lv_ldc hx hb hown (htw _ ww_571) mD_TG_open_10 ?_
  refine lv_icmp_lt (tgt := 25) hx hb mD_TG_open_12 rfl (fun hc => ?_) (fun hc => ?_)
  · skip
    refine lv_aload_n hx hb mD_TG_open_25 rfl (lv_at hl 1 rfl) ?_
    refine t_get (C := cN_TG) (T := cF_TG) (N := 12) (ci := 7) hx hb htw wU_TG hown hK hP 0 (by decide) rfl rfl 1 (by decide) rfl ww_223 rfl mD_TG_open_26 ?_
    refine lv_aload_n hx hb mD_TG_open_29 rfl (lv_at hl 0 rfl) ?_
    refine t_get (C := cN_Ce) (T := cF_Ce) (N := 4) (ci := 0) hx hb htw wU_Ce hown hK hP ((110 + 2 * u)) (tCe_lt (tCe_led (c := u) hu)) (tE_cell (tCe_led (c := u) hu)) rfl 0 (by decide) rfl ww_123 rfl mD_TG_open_30 ?_
    refine gc_Vi (As := [.ref (ad (((110 + 2 * u) + 1)))]) (rest := []) hx hb hml hown htw hK hP hS 2 (k_Se_placeOf l D ct ad hI x (k := 110 + 2 * u + 1) (tCe_row (tCe_led hu))) gZ0_ok (fun _ _ _ => trivial) (gA_mono hS.1) (by decide) rfl rfl ww_573 ww_574 ww_575 ww_25 wC_Se_placeOf mP_Se_placeOf (by decide) rfl hl.1 rfl (Nat.le_of_ble_eq_true rfl) mD_TG_open_33 ⟨Nat.le_of_ble_eq_true rfl, Nat.le_of_ble_eq_true rfl⟩ (fun r4 x3 H locs hp3 hP _ _ hS => ?_)
    obtain ⟨hq_, rfl⟩ := hp3
    rw [hq_] at hP
    have ho := tp_near_open hu0.2.2.2 (by omega)
    refine lv_if_le (tgt := 43) hx hb mD_TG_open_36 rfl (fun h6 => ?_) (fun h6 => ?_)
    · skip
      refine lv_iconst (v := nI 0) hx hb mD_TG_open_43 (by decide) ?_
      exact gw_iret hx hb hr hlocks hP hS (⟨by first | exact (tn_open ho).1 h6 | exact (tn_open ho).2 h6, hR⟩) mD_TG_open_44 (Nat.zero_le _) (Nat.zero_le _)
    · skip
      refine lv_iconst (v := nI 1) hx hb mD_TG_open_39 (by decide) ?_
      refine lv_goto (tgt := 44) hx hb mD_TG_open_40 rfl ?_
      exact gw_iret hx hb hr hlocks hP hS (⟨by first | exact (tn_open ho).1 h6 | exact (tn_open ho).2 h6, hR⟩) mD_TG_open_44 (Nat.zero_le _) (Nat.zero_le _)
  · skip
    exfalso; rw [hu0.2.1] at hc; exact hc (nI_lt (b := 268435456) hb_ (by decide))

set_option maxHeartbeats 4000000 in
set_option maxRecDepth 100000 in
theorem x_TG_open1 (l : Launch) (D : va_G) (ct : Nat → ClassId) (ad : Nat → Nat) (hI : gw_inj 424 ad) (x : tS) (hls : l.stackTraces = false) {s0 : State} {zt : Nat → Nat} (h0 : tO s0 zt) (α : tA) (hR : tR α x.1) (a : Int32) (hh : ¬ aHas α a) : gX l mY_TG_open mB_TG_open 3 (some .int) (rX 7 103) D (tT ct) (tZ s0) 424 ad (tD ct ad) [.ref (ad 0), .int a] x tX_N (fun x' => tR α x'.1) := by
  refine gX_enter (by decide) (Nat.le_of_ble_eq_true rfl) ?_
  intro p e s m below meth c ls hx hb hr htw hown hlocks hml hl hP hK hZ hS hno
  have hA : ∀ k, k < 424 → gA 424 ad s.heap.size (ad k) := fun _ h => gA_in h
  have hl : lv_has ls 3 [(0, .ref (ad 0)), (1, .int a)] := hl
  have hP0 := hP
  refine lv_aload_n hx hb mD_TG_open_0 rfl (lv_at hl 0 rfl) ?_
  refine lv_iload_n hx hb mD_TG_open_1 rfl (lv_at hl 1 rfl) ?_
  refine tx_call (As := [.int a]) (rest := []) hx hb hml hown htw hK hP hS 0 (x_TG_cellOf l D ct ad hI x hls h0 a (fun q => hh ((tR_has hR _).mp q))) (tZ_ok s0) (tZ_at hZ hS) (gA_mono hS.1) (by decide) rfl rfl ww_381 ww_383 ww_5 ww_23 wC_TG_cellOf mP_TG_cellOf (by decide) rfl hl.1 rfl (Nat.le_of_ble_eq_true rfl) mD_TG_open_2 ⟨Nat.le_of_ble_eq_true rfl, Nat.le_of_ble_eq_true rfl⟩ (fun q ce x1 H locs hp hP _ _ hS hce hcv hcl => ?_)
  exact tx_out hno hlocks hP hS (hp ▸ hR) hce hcv hcl (by decide) (by decide)

set_option maxHeartbeats 4000000 in
set_option maxRecDepth 100000 in
theorem x_TG_open2 (l : Launch) (D : va_G) (ct : Nat → ClassId) (ad : Nat → Nat) (hI : gw_inj 424 ad) (x : tS) (hls : l.stackTraces = false) {s0 : State} {zt : Nat → Nat} (h0 : tO s0 zt) (α : tA) (hR : tR α x.1) {u : Nat} (hu : u < 120) (hut : aT α u = true) (hb_ : 268435456 ≤ aB α u) : gX l mY_TG_open mB_TG_open 3 (some .int) (rX 7 103) D (tT ct) (tZ s0) 424 ad (tD ct ad) [.ref (ad 0), .int (nI u)] x tX_S (fun x' => tR α x'.1) := by
  refine gX_enter (by decide) (Nat.le_of_ble_eq_true rfl) ?_
  intro p e s m below meth c ls hx hb hr htw hown hlocks hml hl hP hK hZ hS hno
  have hA : ∀ k, k < 424 → gA 424 ad s.heap.size (ad k) := fun _ h => gA_in h
  have hl : lv_has ls 3 [(0, .ref (ad 0)), (1, .int (nI u))] := hl
  have hP0 := hP
  refine lv_aload_n hx hb mD_TG_open_0 rfl (lv_at hl 0 rfl) ?_
  refine lv_iload_n hx hb mD_TG_open_1 rfl (lv_at hl 1 rfl) ?_
  refine gc_Vr (As := [.int (nI u)]) (rest := []) hx hb hml hown htw hK hP hS 0 (k_TG_cellOf l D ct ad hI x (q := u) hu (tR_th hR hu hut)) gZ0_ok (fun _ _ _ => trivial) (gA_mono hS.1) (by decide) rfl rfl ww_381 ww_383 ww_5 ww_23 wC_TG_cellOf mP_TG_cellOf (by decide) rfl hl.1 rfl (Nat.le_of_ble_eq_true rfl) mD_TG_open_2 ⟨Nat.le_of_ble_eq_true rfl, Nat.le_of_ble_eq_true rfl⟩ (fun r2 x1 H locs hp1 hP _ _ hS => ?_)
  obtain ⟨ra, hq_⟩ := hp1
  subst ra
  rw [hq_] at hP
  refine lv_astore_n (lv' := [(2, .ref (ad ((110 + 2 * u)))), (0, .ref (ad 0)), (1, .int (nI u))]) hx hb mD_TG_open_5 rfl hl (by decide) rfl (fun ls hl => ?_)
  have hu0 := (hR.2.1 u hu).2 hut
  refine lv_aload_n hx hb mD_TG_open_6 rfl (lv_at hl 0 rfl) ?_
  refine t_get (C := cN_Ce) (T := cF_Ce) (N := 4) (ci := 0) hx hb htw wU_Ce hown hK hP ((110 + 2 * u)) (tCe_lt (tCe_led (c := u) hu)) (tE_cell (tCe_led (c := u) hu)) rfl 1 (by decide) rfl ww_125 rfl mD_TG_open_7 ?_
  refine lv_ldc hx hb hown (htw _ ww_571) mD_TG_open_10 ?_
  refine lv_icmp_lt (tgt := 25) hx hb mD_TG_open_12 rfl (fun hc => ?_) (fun hc => ?_)
  · skip
    exfalso; rw [hu0.2.1] at hc; exact nI_nlt (b := 268435456) hb_ (by have := hu0.1; omega) hc
  · skip
    obtain ⟨sa, hsa⟩ := tO_str h0 hZ 6 rfl
    exact tx_thS hx hb (hl.1.trans hml.symm) hown hls hno hlocks h0 hZ hsa hP0 hP hS (hR) (by decide) (by decide) (by decide) (by decide) (by decide) (by decide) mD_TG_open_15 mD_TG_open_18 mD_TG_open_19 mD_TG_open_21 mD_TG_open_24

set_option maxHeartbeats 4000000 in
set_option maxRecDepth 100000 in
theorem k_TG_bound (l : Launch) (D : va_G) (ct : Nat → ClassId) (ad : Nat → Nat) (hI : gw_inj 424 ad) (x : tS) (α : tA) (hR : tR α x.1) {u : Nat} (hu : u < 120) (hut : aT α u = true) : gMi l mY_TG_bound mB_TG_bound 2 (some .int) (rF 2 42) D (tT ct) gZ0 424 ad (tD ct ad) [.ref (ad 0), .int (nI u)] x (fun r x' => r = nI (aB α u) ∧ tR α x'.1) := by
  refine gMi_enter (by decide) (Nat.le_of_ble_eq_true rfl) ?_
  intro p e s m below meth c ls hx hb hr htw hown hlocks hml hl hP hK hZ hS
  have hA : ∀ k, k < 424 → gA 424 ad s.heap.size (ad k) := fun _ h => gA_in h
  have hl : lv_has ls 2 [(0, .ref (ad 0)), (1, .int (nI u))] := hl
  refine lv_aload_n hx hb mD_TG_bound_0 rfl (lv_at hl 0 rfl) ?_
  refine lv_iload_n hx hb mD_TG_bound_1 rfl (lv_at hl 1 rfl) ?_
  refine gc_Vr (As := [.int (nI u)]) (rest := []) hx hb hml hown htw hK hP hS 0 (k_TG_cellOf l D ct ad hI x (q := u) hu (tR_th hR hu hut)) gZ0_ok (fun _ _ _ => trivial) (gA_mono hS.1) (by decide) rfl rfl ww_381 ww_383 ww_5 ww_23 wC_TG_cellOf mP_TG_cellOf (by decide) rfl hl.1 rfl (Nat.le_of_ble_eq_true rfl) mD_TG_bound_2 ⟨Nat.le_of_ble_eq_true rfl, Nat.le_of_ble_eq_true rfl⟩ (fun r2 x1 H locs hp1 hP _ _ hS => ?_)
  obtain ⟨ra, hq_⟩ := hp1
  subst ra
  rw [hq_] at hP
  refine t_get (C := cN_Ce) (T := cF_Ce) (N := 4) (ci := 0) hx hb htw wU_Ce hown hK hP ((110 + 2 * u)) (tCe_lt (tCe_led (c := u) hu)) (tE_cell (tCe_led (c := u) hu)) rfl 1 (by decide) rfl ww_125 rfl mD_TG_bound_5 ?_
  exact gw_iret hx hb hr hlocks hP hS (⟨((hR.2.1 u hu).2 hut).2.1, hR⟩) mD_TG_bound_8 (Nat.zero_le _) (Nat.zero_le _)

set_option maxHeartbeats 4000000 in
set_option maxRecDepth 100000 in
theorem x_TG_bound (l : Launch) (D : va_G) (ct : Nat → ClassId) (ad : Nat → Nat) (hI : gw_inj 424 ad) (x : tS) (hls : l.stackTraces = false) {s0 : State} {zt : Nat → Nat} (h0 : tO s0 zt) (α : tA) (hR : tR α x.1) (a : Int32) (hh : ¬ aHas α a) : gX l mY_TG_bound mB_TG_bound 2 (some .int) (rX 7 103) D (tT ct) (tZ s0) 424 ad (tD ct ad) [.ref (ad 0), .int a] x tX_N (fun x' => tR α x'.1) := by
  refine gX_enter (by decide) (Nat.le_of_ble_eq_true rfl) ?_
  intro p e s m below meth c ls hx hb hr htw hown hlocks hml hl hP hK hZ hS hno
  have hA : ∀ k, k < 424 → gA 424 ad s.heap.size (ad k) := fun _ h => gA_in h
  have hl : lv_has ls 2 [(0, .ref (ad 0)), (1, .int a)] := hl
  have hP0 := hP
  refine lv_aload_n hx hb mD_TG_bound_0 rfl (lv_at hl 0 rfl) ?_
  refine lv_iload_n hx hb mD_TG_bound_1 rfl (lv_at hl 1 rfl) ?_
  refine tx_call (As := [.int a]) (rest := []) hx hb hml hown htw hK hP hS 0 (x_TG_cellOf l D ct ad hI x hls h0 a (fun q => hh ((tR_has hR _).mp q))) (tZ_ok s0) (tZ_at hZ hS) (gA_mono hS.1) (by decide) rfl rfl ww_381 ww_383 ww_5 ww_23 wC_TG_cellOf mP_TG_cellOf (by decide) rfl hl.1 rfl (Nat.le_of_ble_eq_true rfl) mD_TG_bound_2 ⟨Nat.le_of_ble_eq_true rfl, Nat.le_of_ble_eq_true rfl⟩ (fun q ce x1 H locs hp hP _ _ hS hce hcv hcl => ?_)
  exact tx_out hno hlocks hP hS (hp ▸ hR) hce hcv hcl (by decide) (by decide)

set_option maxHeartbeats 4000000 in
set_option maxRecDepth 100000 in
theorem k_TG_within (l : Launch) (D : va_G) (ct : Nat → ClassId) (ad : Nat → Nat) (hI : gw_inj 424 ad) (x : tS) (α : tA) (hR : tR α x.1) {u : Nat} (hu : u < 120) (hut : aT α u = true) : gMi l mY_TG_within mB_TG_within 4 (some .boolean) (rF 2 42) D (tT ct) gZ0 424 ad (tD ct ad) [.ref (ad 0), .int (nI u)] x (fun r x' => r = nI 1 ∧ tR α x'.1) := by
  refine gMi_enter (by decide) (Nat.le_of_ble_eq_true rfl) ?_
  intro p e s m below meth c ls hx hb hr htw hown hlocks hml hl hP hK hZ hS
  have hA : ∀ k, k < 424 → gA 424 ad s.heap.size (ad k) := fun _ h => gA_in h
  have hl : lv_has ls 4 [(0, .ref (ad 0)), (1, .int (nI u))] := hl
  refine lv_aload_n hx hb mD_TG_within_0 rfl (lv_at hl 0 rfl) ?_
  refine lv_iload_n hx hb mD_TG_within_1 rfl (lv_at hl 1 rfl) ?_
  refine gc_Vr (As := [.int (nI u)]) (rest := []) hx hb hml hown htw hK hP hS 0 (k_TG_cellOf l D ct ad hI x (q := u) hu (tR_th hR hu hut)) gZ0_ok (fun _ _ _ => trivial) (gA_mono hS.1) (by decide) rfl rfl ww_381 ww_383 ww_5 ww_23 wC_TG_cellOf mP_TG_cellOf (by decide) rfl hl.1 rfl (Nat.le_of_ble_eq_true rfl) mD_TG_within_2 ⟨Nat.le_of_ble_eq_true rfl, Nat.le_of_ble_eq_true rfl⟩ (fun r2 x1 H locs hp1 hP _ _ hS => ?_)
  obtain ⟨ra, hq_⟩ := hp1
  subst ra
  rw [hq_] at hP
  refine lv_astore_n (lv' := [(2, .ref (ad ((110 + 2 * u)))), (0, .ref (ad 0)), (1, .int (nI u))]) hx hb mD_TG_within_5 rfl hl (by decide) rfl (fun ls hl => ?_)
  have hu0 := (hR.2.1 u hu).2 hut
  have hin := tn_in hu0.2.2.2 hu0.1
  refine lv_aload_n hx hb mD_TG_within_6 rfl (lv_at hl 1 rfl) ?_
  refine t_get (C := cN_TG) (T := cF_TG) (N := 12) (ci := 7) hx hb htw wU_TG hown hK hP 0 (by decide) rfl rfl 1 (by decide) rfl ww_223 rfl mD_TG_within_7 ?_
  refine lv_aload_n hx hb mD_TG_within_10 rfl (lv_at hl 0 rfl) ?_
  refine t_get (C := cN_Ce) (T := cF_Ce) (N := 4) (ci := 0) hx hb htw wU_Ce hown hK hP ((110 + 2 * u)) (tCe_lt (tCe_led (c := u) hu)) (tE_cell (tCe_led (c := u) hu)) rfl 0 (by decide) rfl ww_123 rfl mD_TG_within_11 ?_
  refine gc_Vi (As := [.ref (ad (((110 + 2 * u) + 1)))]) (rest := []) hx hb hml hown htw hK hP hS 2 (k_Se_placeOf l D ct ad hI x (k := 110 + 2 * u + 1) (tCe_row (tCe_led hu))) gZ0_ok (fun _ _ _ => trivial) (gA_mono hS.1) (by decide) rfl rfl ww_573 ww_574 ww_575 ww_25 wC_Se_placeOf mP_Se_placeOf (by decide) rfl hl.1 rfl (Nat.le_of_ble_eq_true rfl) mD_TG_within_14 ⟨Nat.le_of_ble_eq_true rfl, Nat.le_of_ble_eq_true rfl⟩ (fun r4 x3 H locs hp3 hP _ _ hS => ?_)
  obtain ⟨hq_, rfl⟩ := hp3
  rw [hq_] at hP
  refine lv_aload_n hx hb mD_TG_within_17 rfl (lv_at hl 0 rfl) ?_
  refine t_get (C := cN_Ce) (T := cF_Ce) (N := 4) (ci := 0) hx hb htw wU_Ce hown hK hP ((110 + 2 * u)) (tCe_lt (tCe_led (c := u) hu)) (tE_cell (tCe_led (c := u) hu)) rfl 2 (by decide) rfl ww_128 rfl mD_TG_within_18 ?_
  rw [hu0.2.2.1]
  refine gc_Si (As := [.int (tBi (aV α u))]) (rest := [.int (tp_place (x.1 3) (x.1 (110 + 2 * u + 1)))]) hx hb hml hown htw hK hP hS (k_TG_placeFor l D ct ad hI x (aV α u)) gZ0_ok (fun _ _ _ => trivial) (gA_mono hS.1) ww_367 ww_368 ww_23 wC_TG_placeFor mP_TG_placeFor (by decide) rfl hl.1 rfl (Nat.le_of_ble_eq_true rfl) mD_TG_within_21 ⟨Nat.le_of_ble_eq_true rfl, Nat.le_of_ble_eq_true rfl⟩ (fun r6 x5 H locs hp5 hP _ _ hS => ?_)
  obtain ⟨hq_, rfl⟩ := hp5
  rw [hq_] at hP
  refine lv_isub hx hb mD_TG_within_24 ?_
  refine lv_istore_n (lv' := [(3, .int ((tp_place (x.1 3) (x.1 (110 + 2 * u + 1))) - (tp_pl (aV α u)))), (2, .ref (ad ((110 + 2 * u)))), (0, .ref (ad 0)), (1, .int (nI u))]) hx hb mD_TG_within_25 rfl hl (by decide) rfl (fun ls hl => ?_)
  refine lv_iload_n hx hb mD_TG_within_26 rfl (lv_at hl 0 rfl) ?_
  refine lv_aload_n hx hb mD_TG_within_27 rfl (lv_at hl 1 rfl) ?_
  refine t_get (C := cN_Ce) (T := cF_Ce) (N := 4) (ci := 0) hx hb htw wU_Ce hown hK hP ((110 + 2 * u)) (tCe_lt (tCe_led (c := u) hu)) (tE_cell (tCe_led (c := u) hu)) rfl 1 (by decide) rfl ww_125 rfl mD_TG_within_28 ?_
  refine lv_icmp_gt (tgt := 47) hx hb mD_TG_within_31 rfl (fun hc => ?_) (fun hc => ?_)
  · skip
    exfalso; rw [hu0.2.1] at hc; first | exact hc hin.1 | exact Int32.not_le.mpr hc hin.1
  · skip
    refine lv_iload_n hx hb mD_TG_within_34 rfl (lv_at hl 0 rfl) ?_
    refine lv_aload_n hx hb mD_TG_within_35 rfl (lv_at hl 1 rfl) ?_
    refine t_get (C := cN_Ce) (T := cF_Ce) (N := 4) (ci := 0) hx hb htw wU_Ce hown hK hP ((110 + 2 * u)) (tCe_lt (tCe_led (c := u) hu)) (tE_cell (tCe_led (c := u) hu)) rfl 1 (by decide) rfl ww_125 rfl mD_TG_within_36 ?_
    refine lv_ineg hx hb mD_TG_within_39 ?_
    refine lv_icmp_lt (tgt := 47) hx hb mD_TG_within_40 rfl (fun hc => ?_) (fun hc => ?_)
    · skip
      exfalso; rw [hu0.2.1] at hc; first | exact hin.2 hc | exact hc hin.2
    · skip
      refine lv_iconst (v := nI 1) hx hb mD_TG_within_43 (by decide) ?_
      refine lv_goto (tgt := 48) hx hb mD_TG_within_44 rfl ?_
      exact gw_zret hx hb hr hlocks hP hS rfl (⟨rfl, hR⟩) mD_TG_within_48 (Nat.zero_le _) (Nat.zero_le _)

set_option maxHeartbeats 4000000 in
set_option maxRecDepth 100000 in
theorem x_TG_within (l : Launch) (D : va_G) (ct : Nat → ClassId) (ad : Nat → Nat) (hI : gw_inj 424 ad) (x : tS) (hls : l.stackTraces = false) {s0 : State} {zt : Nat → Nat} (h0 : tO s0 zt) (α : tA) (hR : tR α x.1) (a : Int32) (hh : ¬ aHas α a) : gX l mY_TG_within mB_TG_within 4 (some .boolean) (rX 7 103) D (tT ct) (tZ s0) 424 ad (tD ct ad) [.ref (ad 0), .int a] x tX_N (fun x' => tR α x'.1) := by
  refine gX_enter (by decide) (Nat.le_of_ble_eq_true rfl) ?_
  intro p e s m below meth c ls hx hb hr htw hown hlocks hml hl hP hK hZ hS hno
  have hA : ∀ k, k < 424 → gA 424 ad s.heap.size (ad k) := fun _ h => gA_in h
  have hl : lv_has ls 4 [(0, .ref (ad 0)), (1, .int a)] := hl
  have hP0 := hP
  refine lv_aload_n hx hb mD_TG_within_0 rfl (lv_at hl 0 rfl) ?_
  refine lv_iload_n hx hb mD_TG_within_1 rfl (lv_at hl 1 rfl) ?_
  refine tx_call (As := [.int a]) (rest := []) hx hb hml hown htw hK hP hS 0 (x_TG_cellOf l D ct ad hI x hls h0 a (fun q => hh ((tR_has hR _).mp q))) (tZ_ok s0) (tZ_at hZ hS) (gA_mono hS.1) (by decide) rfl rfl ww_381 ww_383 ww_5 ww_23 wC_TG_cellOf mP_TG_cellOf (by decide) rfl hl.1 rfl (Nat.le_of_ble_eq_true rfl) mD_TG_within_2 ⟨Nat.le_of_ble_eq_true rfl, Nat.le_of_ble_eq_true rfl⟩ (fun q ce x1 H locs hp hP _ _ hS hce hcv hcl => ?_)
  exact tx_out hno hlocks hP hS (hp ▸ hR) hce hcv hcl (by decide) (by decide)

set_option maxHeartbeats 4000000 in
set_option maxRecDepth 100000 in
theorem k_TG_clear (l : Launch) (D : va_G) (ct : Nat → ClassId) (ad : Nat → Nat) (hI : gw_inj 424 ad) (x : tS) (α : tA) (hR : tR α x.1)  : gMi l mY_TG_clear mB_TG_clear 1 (some .int) (rF 1 21) D (tT ct) gZ0 424 ad (tD ct ad) [.ref (ad 0)] x (fun r x' => r = nI (aZ α) ∧ tR (aClear α) x'.1) := by
  refine gMi_enter (by decide) (Nat.le_of_ble_eq_true rfl) ?_
  intro p e s m below meth c ls hx hb hr htw hown hlocks hml hl hP hK hZ hS
  have hA : ∀ k, k < 424 → gA 424 ad s.heap.size (ad k) := fun _ h => gA_in h
  have hl : lv_has ls 1 [(0, .ref (ad 0))] := hl
  refine lv_aload_n hx hb mD_TG_clear_0 rfl (lv_at hl 0 rfl) ?_
  refine t_get (C := cN_TG) (T := cF_TG) (N := 12) (ci := 7) hx hb htw wU_TG hown hK hP 0 (by decide) rfl rfl 5 (by decide) rfl ww_227 rfl mD_TG_clear_1 ?_
  refine gc_Vi (As := []) (rest := []) hx hb hml hown htw hK hP hS 350 (k_Ci_removeAll l D ct ad hI x) gZ0_ok (fun _ _ _ => trivial) (gA_mono hS.1) (by decide) rfl rfl ww_271 ww_272 ww_273 ww_30 wC_Ci_removeAll mP_Ci_removeAll (by decide) rfl hl.1 rfl (Nat.le_of_ble_eq_true rfl) mD_TG_clear_4 ⟨Nat.le_of_ble_eq_true rfl, Nat.le_of_ble_eq_true rfl⟩ (fun r2 x1 H locs hp1 hP _ _ hS => ?_)
  obtain ⟨er, e1⟩ := hp1
  exact gw_iret hx hb hr hlocks hP hS (⟨by rw [er]; exact hR.2.2.2.1.2.1, tR_clear hR e1⟩) mD_TG_clear_7 (Nat.zero_le _) (Nat.zero_le _)

set_option maxHeartbeats 4000000 in
set_option maxRecDepth 100000 in
theorem k_TG_count (l : Launch) (D : va_G) (ct : Nat → ClassId) (ad : Nat → Nat) (hI : gw_inj 424 ad) (x : tS) (α : tA) (hR : tR α x.1) {w : Nat} (hw : w < 5) : gMi l mY_TG_count mB_TG_count 2 (some .int) (rF 1 22) D (tT ct) gZ0 424 ad (tD ct ad) [.ref (ad 0), .int (nI w)] x (fun r x' => r = aCount α w ∧ tR α x'.1) := by
  refine gMi_enter (by decide) (Nat.le_of_ble_eq_true rfl) ?_
  intro p e s m below meth c ls hx hb hr htw hown hlocks hml hl hP hK hZ hS
  have hA : ∀ k, k < 424 → gA 424 ad s.heap.size (ad k) := fun _ h => gA_in h
  have hl : lv_has ls 2 [(0, .ref (ad 0)), (1, .int (nI w))] := hl
  refine lv_iload_n hx hb mD_TG_count_0 rfl (lv_at hl 1 rfl) ?_
  rcases (show w = 0 ∨ w = 1 ∨ w = 2 ∨ w = 3 ∨ w = 4 by omega) with rfl | rfl | rfl | rfl | rfl
  · skip
    refine lv_tableIn (tgt := 36) hx hb mD_TG_count_1 (by decide) (by decide) rfl rfl ?_
    refine lv_aload_n hx hb mD_TG_count_36 rfl (lv_at hl 0 rfl) ?_
    refine t_get (C := cN_TG) (T := cF_TG) (N := 12) (ci := 7) hx hb htw wU_TG hown hK hP 0 (by decide) rfl rfl 4 (by decide) rfl ww_226 rfl mD_TG_count_37 ?_
    refine t_get (C := cN_Le) (T := cF_Le) (N := 2) (ci := 2) hx hb htw wU_Le hown hK hP 108 (by decide) rfl rfl 1 (by decide) rfl ww_142 rfl mD_TG_count_40 ?_
    exact gw_iret hx hb hr hlocks hP hS (⟨hR.2.2.1, hR⟩) mD_TG_count_43 (Nat.zero_le _) (Nat.zero_le _)
  · skip
    refine lv_tableIn (tgt := 44) hx hb mD_TG_count_1 (by decide) (by decide) rfl rfl ?_
    refine lv_aload_n hx hb mD_TG_count_44 rfl (lv_at hl 0 rfl) ?_
    refine t_get (C := cN_TG) (T := cF_TG) (N := 12) (ci := 7) hx hb htw wU_TG hown hK hP 0 (by decide) rfl rfl 10 (by decide) rfl ww_232 rfl mD_TG_count_45 ?_
    exact gw_iret hx hb hr hlocks hP hS (⟨hR.2.2.2.2.1, hR⟩) mD_TG_count_48 (Nat.zero_le _) (Nat.zero_le _)
  · skip
    refine lv_tableIn (tgt := 49) hx hb mD_TG_count_1 (by decide) (by decide) rfl rfl ?_
    refine lv_aload_n hx hb mD_TG_count_49 rfl (lv_at hl 0 rfl) ?_
    refine t_get (C := cN_TG) (T := cF_TG) (N := 12) (ci := 7) hx hb htw wU_TG hown hK hP 0 (by decide) rfl rfl 11 (by decide) rfl ww_233 rfl mD_TG_count_50 ?_
    exact gw_iret hx hb hr hlocks hP hS (⟨hR.2.2.2.2.2, hR⟩) mD_TG_count_53 (Nat.zero_le _) (Nat.zero_le _)
  · skip
    refine lv_tableIn (tgt := 54) hx hb mD_TG_count_1 (by decide) (by decide) rfl rfl ?_
    refine lv_aload_n hx hb mD_TG_count_54 rfl (lv_at hl 0 rfl) ?_
    refine t_get (C := cN_TG) (T := cF_TG) (N := 12) (ci := 7) hx hb htw wU_TG hown hK hP 0 (by decide) rfl rfl 5 (by decide) rfl ww_227 rfl mD_TG_count_55 ?_
    refine t_get (C := cN_Ci) (T := cF_Ci) (N := 4) (ci := 1) hx hb htw wU_Ci hown hK hP 350 (by decide) rfl rfl 3 (by decide) rfl ww_161 rfl mD_TG_count_58 ?_
    exact gw_iret hx hb hr hlocks hP hS (⟨hR.2.2.2.1.2.1, hR⟩) mD_TG_count_61 (Nat.zero_le _) (Nat.zero_le _)
  · skip
    refine lv_tableIn (tgt := 62) hx hb mD_TG_count_1 (by decide) (by decide) rfl rfl ?_
    refine lv_aload_n hx hb mD_TG_count_62 rfl (lv_at hl 0 rfl) ?_
    refine t_get (C := cN_TG) (T := cF_TG) (N := 12) (ci := 7) hx hb htw wU_TG hown hK hP 0 (by decide) rfl rfl 4 (by decide) rfl ww_226 rfl mD_TG_count_63 ?_
    refine gc_Vi (As := []) (rest := []) hx hb hml hown htw hK hP hS 108 (k_Le_greatestBound l D ct ad hI x) gZ0_ok (fun _ _ _ => trivial) (gA_mono hS.1) (by decide) rfl rfl ww_629 ww_630 ww_631 ww_28 wC_Le_greatestBound mP_Le_greatestBound (by decide) rfl hl.1 rfl (Nat.le_of_ble_eq_true rfl) mD_TG_count_66 ⟨Nat.le_of_ble_eq_true rfl, Nat.le_of_ble_eq_true rfl⟩ (fun r2 x1 H locs hp1 hP _ _ hS => ?_)
    obtain ⟨hq_, er⟩ := hp1
    rw [hq_] at hP
    exact gw_iret hx hb hr hlocks hP hS (⟨by rw [er]; exact aGB_eq hR (Nat.le_refl _), hR⟩) mD_TG_count_69 (Nat.zero_le _) (Nat.zero_le _)

theorem tk_out {a : Int32} (h : ¬ ∃ w, w < 5 ∧ a = nI w) : a.toInt < 0 ∨ 4 < a.toInt := by
  rcases Classical.em (a.toInt < 0) with h1 | h1
  · exact Or.inl h1
  · refine Or.inr (Int.not_le.mp (fun z => h ?_))
    obtain ⟨q, h2, h3⟩ := tb_idx (a := a) (N := 5) (by decide) (fun q => h1 (by have := Int32.lt_iff_toInt_lt.mp q; exact this)) (fun q => by have h5 := Int32.le_iff_toInt_le.mp q; rw [nI_toInt (by decide)] at h5; omega)
    exact ⟨q, h2, h3⟩

set_option maxHeartbeats 4000000 in
set_option maxRecDepth 100000 in
theorem x_TG_count (l : Launch) (D : va_G) (ct : Nat → ClassId) (ad : Nat → Nat) (hI : gw_inj 424 ad) (x : tS) (hls : l.stackTraces = false) {s0 : State} {zt : Nat → Nat} (h0 : tO s0 zt) (α : tA) (hR : tR α x.1) (a : Int32) (hh : ¬ ∃ w, w < 5 ∧ a = nI w) : gX l mY_TG_count mB_TG_count 2 (some .int) (rX 6 82) D (tT ct) (tZ s0) 424 ad (tD ct ad) [.ref (ad 0), .int a] x tX_A (fun x' => tR α x'.1) := by
  refine gX_enter (by decide) (Nat.le_of_ble_eq_true rfl) ?_
  intro p e s m below meth c ls hx hb hr htw hown hlocks hml hl hP hK hZ hS hno
  have hA : ∀ k, k < 424 → gA 424 ad s.heap.size (ad k) := fun _ h => gA_in h
  have hl : lv_has ls 2 [(0, .ref (ad 0)), (1, .int a)] := hl
  have hP0 := hP
  refine lv_iload_n hx hb mD_TG_count_0 rfl (lv_at hl 1 rfl) ?_
  refine lv_tableOut (tgt := 70) hx hb mD_TG_count_1 (tk_out hh) rfl ?_
  obtain ⟨sa, hsa⟩ := tO_str h0 hZ 10 rfl
  exact tx_thA hx hb (hl.1.trans hml.symm) hown hls hno hlocks h0 hZ hsa hP0 hP hS (hR) (by decide) (by decide) (by decide) (by decide) (by decide) (by decide) mD_TG_count_70 mD_TG_count_73 mD_TG_count_74 mD_TG_count_76 mD_TG_count_79
