/-! the law's beginning: its two objects and its long[1]. My own rows. -/
section BGR
variable {p : Program} {l : Launch} {e : Env} {R : Room} {s : State} {m : MethodId} {args : Array Value} {below : List Frame} {meth : Method} {c : Code} {H : Heap} {locs : List Loc} {cells slots : Nat} {Q : State → Prop}
variable {cc : ByteArray} {pc nL : Nat} {ls : Array Slot} {rest st0 : List Value} {D : va_G} {ct : Nat → ClassId} {Z : (Nat → Prop) → State → Prop} {ad : Nat → Nat} {A : Nat → Prop} {H0 : Heap} {own : String}
/-- new TorusGates(): invokespecial -/
theorem gcc_T {index : Nat} {rm : Room} (hx : p.tables.exec = Jvm.exec) (hb : c.code = cc) (hml : c.maxLocals = nL) (hown : s.vm.findClass own = some m.cls) (htw : ∀ w ∈ wW, w.before args s = true) (hK : va_K D cL (tT ct) s) (hP : va_P D cL (gw 1 ad (fun _ => .inr (7, [.null, .null, .null, .null, .null, .null, .null, .null, .null, .null, .int 0, .int 0]))) H) (hS : va_S A H0 H locs) (hsz : ∀ j, 1 ≤ j → j < 424 → ad j = H.size + (j - 1))
    (hM : gCT l rm D ct Z ad) (hz : gZ Z) (hZ : ∀ U : State, U.heap = H → s.WarmedH U.vm → Z (gA 1 ad H.size) U) (hA : ∀ q, gA 1 ad H.size q → A q)
    (hlk : Cond.methodLink own index mY_TG_init ∈ wW) (hR : rm.frames + 1 ≤ R.frames ∧ 8 + (2 + 11) + rm.locals ≤ R.locals) (hls : ls.size = nL) (hst : st0 = .ref (ad 0) :: rest) (hW : (rest.map fun v => v.category).sum ≤ 8) (hdg : decode cc pc = .ok (.invokespecial index, 3)) (hf : cells + rm.cells ≤ R.cells ∧ slots + rm.slots ≤ R.slots)
    (kk : ∀ (x : tS) (H1 : Heap) (locs1 : List Loc), tR aNew x.1 → va_P D cL (gw 424 ad (tD ct ad x)) H1 → H1.size = H.size + 423 → va_S A H0 H1 locs1 → W p l e R s m args below meth c H1 locs1 (cells + rm.cells) (slots + rm.slots) Q (F0 m (pc + 3) ls rest)) : W p l e R s m args below meth c H locs cells slots Q (F0 m pc ls st0) :=
  va_callv (va_runI (n := 0) (As := []) ⟨hx, hb, hml, hown, htw⟩ (hM H.size hsz) ⟨callB_of 0 htw (wW_G wC_TG_init) rfl rfl rfl (htw _ ww_23) (htw _ hlk) mP_TG_init hR, rfl, htw _ ww_44⟩ ⟨gc_blind hz, gc_at hP hK hZ⟩ rfl rfl hls hst (lv_room hW) hdg hf) hS (fun q _ h => hA q h) hA
    (fun x t H1 locs1 ht _ hp hB _ _ hS1 => kk x H1 locs1 hp (by rw [← ht]; exact hB.1) (by rw [← ht]; exact hB.2) hS1)
end BGR
/-- where the law's things lie, o the heap's size as it begins -/
def bA (o k : Nat) : Nat := if k = 424 then o + 432 else o + k
def bM (o j : Nat) : Nat := o + (424 + j)
theorem bA_lt {o k : Nat} (h : k < 424) : bA o k = o + k := if_neg (by omega)
theorem bA_eq (o : Nat) : bA o 424 = o + 432 := if_pos rfl
theorem bA_inj (o : Nat) : gw_inj 425 (bA o) := fun i j hi hj h => by
  unfold bA at h
  split at h <;> split at h <;> omega
theorem bM_inj (o : Nat) : gw_inj 8 (bM o) := fun i j hi hj h => by
  unfold bM at h
  omega
theorem bA_ge (o k : Nat) : o ≤ bA o k := by
  unfold bA
  split <;> omega
theorem bAM (o k j : Nat) (hk : k < 425) (hj : j < 8) : bA o k ≠ bM o j := fun h => by
  unfold bA bM at h
  split at h <;> omega
def bE (ct : Nat → ClassId) (o : Nat) (x : tS) (k : Nat) : va_E := if k < 424 then tD ct (bA o) x k else if k < 432 then mD ct (bM o) (fun _ _ => 0) (k - 424) else .inl (ct 4, 1, .inr (.inl (fun _ => 0)))
theorem bE_t {ct : Nat → ClassId} {o : Nat} {x : tS} {k : Nat} (h : k < 424) : bE ct o x k = tD ct (bA o) x k := if_pos h
theorem bE_m {ct : Nat → ClassId} {o : Nat} {x : tS} {j : Nat} (h : j < 8) : bE ct o x (424 + j) = mD ct (bM o) (fun _ _ => 0) j := by
  unfold bE
  rw [if_neg (by omega), if_pos (by omega), Nat.add_sub_cancel_left]
theorem bE_l {ct : Nat → ClassId} {o : Nat} {x : tS} : bE ct o x 432 = .inl (ct 4, 1, .inr (.inl (fun _ => 0))) := by
  unfold bE
  rw [if_neg (by decide), if_neg (by decide)]
theorem b_up {D : va_G} {ct : Nat → ClassId} {o : Nat} {x : tS} {H : Heap} {d0 : va_E} (h : va_P D cL (gw 424 (bA o) (tD ct (bA o) x)) H) : va_P D cL (gw 424 (fun k => o + k) (va_up (bE ct o x) 424 d0)) H := by
  rw [← gw_congr (ad := bA o) (ad' := fun k => o + k) (e := tD ct (bA o) x) (e' := va_up (bE ct o x) 424 d0) (fun k hk => ⟨bA_lt hk, by rw [va_up_ne _ _ (by omega), bE_t hk]⟩)]
  exact h
theorem b_spl {D : va_G} {ct : Nat → ClassId} {o : Nat} {x : tS} {H : Heap} (h : va_P D cL (gw 433 (fun k => o + k) (bE ct o x)) H) : va_P D cL (gw 425 (bA o) (lD ct (bA o) (x, 0))) H := by
  intro k q hq
  obtain ⟨hk1, rfl⟩ := gw_inv hq
  by_cases hk : k = 424
  · subst hk
    have h1 := h 432 _ (gw_at (by decide))
    rw [bE_l] at h1
    rw [bA_eq, show lD ct (bA o) (x, 0) 424 = .inl (ct 4, 1, .inr (.inl (fun _ => 0))) from if_pos rfl]
    exact h1
  · have h1 := h k _ (gw_at (by omega))
    rw [bE_t (by omega)] at h1
    rw [bA_lt (by omega), show lD ct (bA o) (x, 0) k = tD ct (bA o) x k from if_neg hk]
    exact h1
theorem b_spm {D : va_G} {ct : Nat → ClassId} {o : Nat} {x : tS} {H : Heap} (h : va_P D cL (gw 433 (fun k => o + k) (bE ct o x)) H) : va_P D cL (gw 8 (bM o) (mD ct (bM o) (fun _ _ => 0))) H := by
  intro j q hq
  obtain ⟨hj, rfl⟩ := gw_inv hq
  have h1 := h (424 + j) _ (gw_at (by omega))
  rw [bE_m hj] at h1
  exact h1
theorem b_mR : mR aNew 0 (fun _ _ => 0) := ⟨fun q hq => ⟨rfl, fun h => by cases h⟩, rfl, rfl, ⟨Nat.zero_le _, rfl⟩, fun i hi => absurd hi (Nat.not_lt_zero _), rfl⟩
theorem b_gw0 {D : va_G} {ad : Nat → Nat} {E : Nat → va_E} {H : Heap} : va_P D cL (gw 0 ad E) H := fun k q hq => absurd (gw_inv hq).1 (Nat.not_lt_zero _)
theorem b_gA {s : State} {n sz : Nat} {ad : Nat → Nat} (h : ∀ k, s.heap.size ≤ ad k) (hs : s.heap.size ≤ sz) : ∀ q, gA n ad sz q → tB s q := fun q hq => by
  rcases hq with ⟨k, hk, e⟩ | hq
  · rw [e]; exact h k
  · exact Nat.le_trans hs hq

set_option maxHeartbeats 4000000 in
theorem l_begin {p : Program} {l : Launch} {e : Env} {s : State} {m : MethodId} {below : List Frame} {meth : Method} {c : Code} {b L : Nat} {xs : Nat → Int32} {D : va_G} {ct : Nat → ClassId} {zt : Nat → Nat} {Q : State → Prop} (hx : p.tables.exec = Jvm.exec) (hb : c.code = code) (hml : c.maxLocals = 7) (hown : s.vm.findClass cN_La = some m.cls) (htw : ∀ w ∈ wW, w.before #[Value.ref b] s = true) (hX : va_X b L xs s s.heap) (hbl : b < s.heap.size) (hL : L ≤ 2048) (hls : l.stackTraces = false) (h0 : tO s zt) (hC : tOC s) (hK : va_K D cL (tT ct) s) (hON : tON s) (hAA : tOA s) (hAC : tOAC s)
    (out : ∀ (H : Heap) (locs : List Loc) (ls : Array Slot), va_S (tB s) s.heap H locs → W p l e room_1 s m #[.ref b] below meth c H locs 601024 7293034 Q (F0 m 1016 ls [.int (nI 1)])) {ls : Array Slot} (hl : lv_has ls 7 [(0, .ref b)]) : W p l e room_1 s m #[.ref b] below meth c s.heap [] 0 0 Q (F0 m 0 ls []) := by
  have hS : va_S (tB s) s.heap s.heap [] := va_S.rf
  have hZ := tZ_self s
  have h00 : bA s.heap.size 0 = s.heap.size := bA_lt (by decide)
  refine c_new (n := 0) (ad := bA s.heap.size) (E := fun _ => .inr (7, [.null, .null, .null, .null, .null, .null, .null, .null, .null, .null, .int 0, .int 0])) (C := cN_TG) (T := cF_TG) (N := 12) (ci := 7) (fs := [.null, .null, .null, .null, .null, .null, .null, .null, .null, .null, .int 0, .int 0]) hx hb htw wU_TG cT_TG cO_TG hown ww_41 ww_42 ww_23 hK b_gw0 hS rfl (by decide) h00.symm rfl (Nat.le_of_ble_eq_true rfl) (Nat.le_of_ble_eq_true rfl) mD_La_law_0 (fun H hP hz1 hS => ?_)
  refine lv_dup hx hb mD_La_law_3 rfl ?_
  refine gcc_T (ad := bA s.heap.size) (rest := [.ref (bA s.heap.size 0)]) hx hb hml hown htw hK hP hS (fun j h1 h2 => by rw [bA_lt h2]; omega) (k_TG_init l D ct (bA s.heap.size) (c_inj (bA_inj _) (by decide)) hON hAA hAC) (tZ_ok s) (tZ_in hZ hS (b_gA (bA_ge _) hS.1)) (b_gA (bA_ge _) hS.1) ww_43 ⟨Nat.le_of_ble_eq_true rfl, Nat.le_of_ble_eq_true rfl⟩ hl.1 rfl (Nat.le_of_ble_eq_true rfl) mD_La_law_4 ⟨Nat.le_of_ble_eq_true rfl, Nat.le_of_ble_eq_true rfl⟩ (fun x H locs hR hP hz2 hS => ?_)
  refine lv_astore_n (lv' := [(1, .ref (bA s.heap.size 0)), (0, .ref b)]) hx hb mD_La_law_7 rfl hl (by decide) rfl (fun ls hl => ?_)
  have hP := b_up (d0 := .inr (8, [.int 0, .null, .null, .null, .int 0, .int 0, .int 0, .null, .null, .null, .null])) hP
  refine c_new (n := 424) (ad := fun k => s.heap.size + k) (E := va_up (bE ct s.heap.size x) 424 (.inr (8, [.int 0, .null, .null, .null, .int 0, .int 0, .int 0, .null, .null, .null, .null]))) (C := cN_Mo) (T := cF_Mo) (N := 11) (ci := 8) (fs := [.int 0, .null, .null, .null, .int 0, .int 0, .int 0, .null, .null, .null, .null]) hx hb htw wU_Mo cT_Mo cO_Mo hown ww_634 ww_635 ww_33 hK hP hS rfl (by decide) (by show _ = s.heap.size + 424; omega) (va_up_self _ _ _) (Nat.le_of_ble_eq_true rfl) (Nat.le_of_ble_eq_true rfl) mD_La_law_8 (fun H hP hz3 hS => ?_)
  refine lv_dup hx hb mD_La_law_11 rfl ?_
  refine gcc_I (y := mY_Mo_init) (b := mB_Mo_init) (ml := 1) (np := 0) (N := 8) (rm := { frames := 1, cells := 7, slots := 464, locals := 20 }) (As := []) (rest := [.ref (s.heap.size + 424)]) (n := 424) (ad := fun k => s.heap.size + k) (E := bE ct s.heap.size x) (d0 := .inr (8, [.int 0, .null, .null, .null, .int 0, .int 0, .int 0, .null, .null, .null, .null])) hx hb hml hown htw hK (fun i j _ _ h => by have h : s.heap.size + i = s.heap.size + j := h; omega) hP hS (fun j h1 h2 => by show s.heap.size + (424 + j) = _; omega) (k_Mo_init l D ct (bM s.heap.size) (bM_inj _) (fun j => bE ct s.heap.size x (424 + j)) (bE_m (by decide)) (bE_m (by decide)) (bE_m (by decide)) (bE_m (by decide)) (bE_m (by decide)) (bE_m (by decide)) (bE_m (by decide)) (bE_m (by decide))) gZ0_ok (fun _ _ _ => trivial) (b_gA (fun k => by show _ ≤ s.heap.size + (424 + k); omega) hS.1) ww_636 ww_637 ww_33 wC_Mo_init rfl mP_Mo_init ⟨Nat.le_of_ble_eq_true rfl, Nat.le_of_ble_eq_true rfl⟩ rfl hl.1 rfl (Nat.le_of_ble_eq_true rfl) mD_La_law_12 ⟨Nat.le_of_ble_eq_true rfl, Nat.le_of_ble_eq_true rfl⟩ (fun H locs hP hz4 hS => ?_)
  refine lv_astore_n (lv' := [(2, .ref (s.heap.size + 424)), (1, .ref (bA s.heap.size 0)), (0, .ref b)]) hx hb mD_La_law_15 rfl hl (by decide) rfl (fun ls hl => ?_)
  refine lv_iconst (v := nI 1) hx hb mD_La_law_16 (by decide) ?_
  refine c_newa (n := 432) (ad := fun k => s.heap.size + k) (E := bE ct s.heap.size x) (atype := .long) (cA' := ct 4) (N := 1) (a0 := (1, .inr (.inl (fun _ => 0)))) hx hb htw ww_781 (hK.2 4 _ rfl).2 hP hS (by show _ = s.heap.size + 432; omega) (fun _ => rfl) bE_l (by decide) (by decide) (Nat.le_of_ble_eq_true rfl) (Nat.le_of_ble_eq_true rfl) mD_La_law_17 (fun H hP hz5 hS => ?_)
  refine lv_astore_n (lv' := [(3, .ref (s.heap.size + 432)), (2, .ref (s.heap.size + 424)), (1, .ref (bA s.heap.size 0)), (0, .ref b)]) hx hb mD_La_law_19 rfl hl (by decide) rfl (fun ls hl => ?_)
  refine lv_iconst (v := nI 0) hx hb mD_La_law_20 (by decide) ?_
  refine lv_istore (lv' := [(4, .int (nI 0)), (3, .ref (s.heap.size + 432)), (2, .ref (s.heap.size + 424)), (1, .ref (bA s.heap.size 0)), (0, .ref b)]) hx hb mD_La_law_21 hl (by decide) rfl (fun ls hl => ?_)
  have hl1 : lv_has ls 7 [(4, .int (nI (4 * 0))), (0, .ref b), (1, .ref (bA s.heap.size 0)), (2, .ref (bM s.heap.size 0)), (3, .ref (bA s.heap.size 424))] := by
    rw [bA_eq]
    exact lv_sub hl [0, 4, 3, 2, 1] rfl
  exact l_loop (ad := bA s.heap.size) (am := bM s.heap.size) ⟨hx, hb, hml, hown, htw, hX, hbl, hL, hls, h0, hC, hK, bA_inj _, bM_inj _, fun k _ => bA_ge _ k, fun k _ => Nat.le_add_right _ _, fun k j hk hj => bAM _ k j hk hj⟩ out 513 0 (x, 0) (fun _ _ => 0) aNew 0 H locs ls rfl hR b_mR hl1 (b_spl hP) (b_spm hP) hS
