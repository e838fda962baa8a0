/-! Secret: bits of the key, hidden rows, places, pairs that hide nothing. Laid by wip/whole/part_secret.py. -/
theorem va_up_same {α : Type} {f : Nat → α} {k : Nat} : va_up f k (f k) = f := by
  funext j
  by_cases h : j = k
  · rw [h, va_up_self]
  · rw [va_up_ne _ _ h]
theorem tU_f {x : tS} {k : Nat} {f : Nat → Int32} : (tU x k f).1 = va_up x.1 k f := rfl
theorem ts_lt {n N : Nat} (hn : n < 2 ^ 31) (hN : N < 2 ^ 31) (hc : ¬ nI N ≤ nI n) : n < N := Nat.not_le.mp (fun q => hc ((nI_leI hN hn).mpr q))
theorem ts_ge {n N : Nat} (hn : n < 2 ^ 31) (hN : N < 2 ^ 31) (hc : nI N ≤ nI n) : N ≤ n := (nI_leI hN hn).mp hc
theorem ts_bits {g : Nat → Int32} {n : Nat} {v : Int32} (h : ∀ i, i < n → tp_bit (g i)) (hv : tp_bit v) : ∀ i, i < n + 1 → tp_bit (upd g n v i) := fun i hi => by
  by_cases q : i = n
  · rw [q, pk_us]; exact hv
  · rw [pk_un q]; exact h i (by omega)
theorem ts_hide {g key : Nat → Int32} {n b : Nat} {h pl r : Int32} (hh : tp_sm b (h - pl - tp_sum n (fun i => g i * key i))) : tp_sm b (h + upd g n r n * key n - pl - tp_sum (n + 1) (fun i => upd g n r i * key i)) := by
  rw [tp_sum_s, tp_sum_congr (g := fun i => g i * key i) (fun i hi => by rw [pk_un (by omega)])]
  have e : ∀ a b c d : Int32, a + b - c - (d + b) = a - c - d := by intro a b c d; grind
  rw [e]
  exact hh
theorem ts_hide8 {g key : Nat → Int32} {b : Nat} {h pl : Int32} (hh : tp_sm b (h - pl - tp_sum 8 (fun i => g i * key i))) : tp_sm b (tp_place key (upd g 8 h) - pl) := by
  unfold tp_place
  rw [pk_us, tp_sum_congr (g := fun i => g i * key i) (fun i hi => by rw [pk_un (by omega)])]
  have e : ∀ a b c : Int32, a - b - c = a - c - b := by intro a b c; grind
  rw [e]
  exact hh
theorem ts_nothing {s a b e : Nat → Int32} (h : ∀ i : Nat, i < 32 → b i = e i + tp_sum 32 (fun q => s q * tp_ext a ((i : Int) - (q : Int)))) (j : Int) : tp_ph s a b j = tp_ext e j := by
  have q : tp_ext b j = tp_ext e j + tp_sum 32 (fun q => s q * tp_ext a (j - (q : Int))) := by
    refine tp_ext_all (f := b) (g := fun j => tp_ext e j + tp_sum 32 (fun q => s q * tp_ext a (j - (q : Int)))) ?_ ?_ ?_ j
    · intro k
      show tp_ext e (k + 32) + tp_sum 32 (fun q => s q * tp_ext a (k + 32 - (q : Int))) = - (tp_ext e k + tp_sum 32 (fun q => s q * tp_ext a (k - (q : Int))))
      rw [tp_ext_32, tp_sum_congr (g := fun q => - (s q * tp_ext a (k - (q : Int)))) (fun q _ => by rw [show k + 32 - (q : Int) = k - q + 32 by omega, tp_ext_32]; grind), tp_sum_neg]
      grind
    · intro i hi
      show b i = tp_ext e i + _
      rw [h i hi, tp_ext_lt hi]
    · intro k j hkj
      show tp_ext e k + _ = tp_ext e j + _
      rw [tp_ext_mod hkj, tp_sum_congr (fun q _ => by rw [tp_ext_mod (k := k - q) (j := j - q) (by omega)])]
  unfold tp_ph
  rw [q]
  grind
theorem ts_nothing2 {s g g0 : Nat → Int32} (hb : ∀ i, i < 32 → tp_sm 4 (g0 (32 + i))) (hlo : ∀ j, j < 32 → g j = g0 j) (hhi : ∀ i : Nat, i < 32 → g (32 + i) = g0 (32 + i) + tp_sum 32 (fun q => s q * tp_ext g0 ((i : Int) - (q : Int)))) (j : Int) : tp_sm 4 (tp_ph s (fun i => g i) (fun i => g (32 + i)) j) := by
  rw [ts_nothing (a := fun i => g i) (b := fun i => g (32 + i)) (e := fun i => g0 (32 + i)) (fun i hi => ?_) j]
  · exact tp_ext_sm (n := 4) hb j
  · show g (32 + i) = _
    rw [hhi i hi, tp_sum_congr (f := fun q => s q * tp_ext g0 ((i : Int) - (q : Int))) (g := fun q => s q * tp_ext (fun i => g i) ((i : Int) - (q : Int))) (fun q _ => by rw [tp_ext_congr (f := fun i => g i) (g := g0) hlo])]
theorem ts_not3 {k : Nat} (h : tRow k) : (3 : Nat) ≠ k := by unfold tRow at h; omega
theorem ts_not4 {k : Nat} (h : tPair k) : (4 : Nat) ≠ k := by unfold tPair at h; omega
/-- one turn more of the key's product -/
theorem ts_add {g g0 g1 s : Nat → Int32} {n : Nat} (hn : n < 32) (hlo : ∀ j, j < 32 → g j = g0 j) (hhi : ∀ i : Nat, i < 32 → g (32 + i) = g0 (32 + i) + tp_sum n (fun q => s q * tp_ext g0 ((i : Int) - (q : Int))))
    (h : ta_ok g (fun j => g (0 + j)) g1 (s n) n 32) : (∀ j, j < 32 → g1 j = g0 j) ∧ ∀ i : Nat, i < 32 → g1 (32 + i) = g0 (32 + i) + tp_sum (n + 1) (fun q => s q * tp_ext g0 ((i : Int) - (q : Int))) := by
  refine ⟨fun j hj => by rw [h.2 j (Or.inl hj)]; exact hlo j hj, fun i hi => ?_⟩
  rw [h.1 i hi, hhi i hi, tp_sum_s, tp_ext_congr (f := fun j => g (0 + j)) (g := g0) (fun j hj => by show g (0 + j) = _; rw [Nat.zero_add]; exact hlo j hj)]
  grind

set_option maxHeartbeats 4000000 in
set_option maxRecDepth 100000 in
theorem k_Se_drawBits8 (l : Launch) (D : va_G) (ct : Nat → ClassId) (ad : Nat → Nat) (hI : gw_inj 424 ad) (x : tS)  : gMv l mY_Se_drawBits mB_Se_drawBits 4 none (rF 1 22) D (tT ct) gZ0 424 ad (tD ct ad) [.ref (ad 3), .int (nI 8), .ref (ad 1)] x (fun x' => ∃ g, x'.1 = va_up x.1 3 g ∧ ∀ i, i < 8 → tp_bit (g i)) := by
  refine gMv_enter (by decide) (Nat.le_of_ble_eq_true rfl) ?_
  intro p e s m below meth c ls hx hb hr htw hown hlocks hml hl hP hK hZ hS
  have hA : ∀ k, k < 424 → gA 424 ad s.heap.size (ad k) := fun _ h => gA_in h
  have hl : lv_has ls 4 [(0, .ref (ad 3)), (1, .int (nI 8)), (2, .ref (ad 1))] := hl
  refine gw_nmQ (fun Q hQ => ?_)
  refine lv_iconst (v := nI 0) hx hb mD_Se_drawBits_0 (by decide) ?_
  refine lv_istore_n (lv' := [(3, .int (nI 0)), (0, .ref (ad 3)), (1, .int (nI 8)), (2, .ref (ad 1))]) hx hb mD_Se_drawBits_1 rfl hl (by decide) rfl (fun ls hl => ?_)
  have loop : ∀ (d : Nat) (n : Nat) (y : tS) (H : Heap) (locs : List Loc) (ls : Array Slot), n + d = 8 → lv_has ls 4 [(3, .int (nI n)), (0, .ref (ad 3)), (1, .int (nI 8)), (2, .ref (ad 1))] → va_P D cL (gw 424 ad (tD ct ad y)) H → va_S (gA 424 ad s.heap.size) s.heap H locs → (∃ g, y.1 = va_up x.1 3 g ∧ ∀ i, i < n → tp_bit (g i)) → W p l e (rF 1 22) s m [.ref (ad 3), .int (nI 8), .ref (ad 1)].toArray below meth c H locs 0 0 Q (F0 m 2 ls []) := by
    intro d
    induction d using Nat.strongRecOn with
    | ind d ih =>
      intro n y H locs ls hd hl hP hS hinv
      refine lv_iload_n hx hb mD_Se_drawBits_2 rfl (lv_at hl 0 rfl) ?_
      refine lv_iload_n hx hb mD_Se_drawBits_3 rfl (lv_at hl 2 rfl) ?_
      refine lv_icmp_ge (tgt := 23) hx hb mD_Se_drawBits_4 rfl (fun hc => ?_) (fun hc => ?_)
      · skip
        have hn : n = 8 := by have := ts_ge (by omega) (by omega) hc; omega
        subst hn
        subst hQ
        exact gw_vret hx hb hr hlocks hP hS (hinv) mD_Se_drawBits_23 (Nat.zero_le _) (Nat.zero_le _)
      · skip
        have hn : n < 8 := ts_lt (by omega) (by omega) hc
        refine lv_aload_n hx hb mD_Se_drawBits_7 rfl (lv_at hl 1 rfl) ?_
        refine lv_iload_n hx hb mD_Se_drawBits_8 rfl (lv_at hl 0 rfl) ?_
        refine lv_aload_n hx hb mD_Se_drawBits_9 rfl (lv_at hl 3 rfl) ?_
        refine gc_Vi (As := []) (rest := [.int (nI n), .ref (ad 3)]) hx hb hml hown htw hK hP hS 1 (k_So_draw l D ct ad hI y) gZ0_ok (fun _ _ _ => trivial) (gA_mono hS.1) (by decide) rfl rfl ww_188 ww_189 ww_190 ww_24 wC_So_draw mP_So_draw (by decide) rfl hl.1 rfl (Nat.le_of_ble_eq_true rfl) mD_Se_drawBits_10 ⟨Nat.le_of_ble_eq_true rfl, Nat.le_of_ble_eq_true rfl⟩ (fun r2 x1 H locs hp1 hP _ _ hS => ?_)
        refine lv_bipush (v := nI 31) hx hb mD_Se_drawBits_13 (by decide) ?_
        refine lv_iushr hx hb mD_Se_drawBits_15 rfl ?_
        refine t_iast hx hb hK hI hA hP hS 3 8 (by decide) (fun _ => rfl) n rfl (by omega) (by decide) mD_Se_drawBits_16 (fun H locs hP hS => ?_)
        obtain ⟨x3, hx3⟩ : ∃ z, z = tU x1 3 (upd (x1.1 3) n ((r2.toUInt32 >>> ((nI 31).toUInt32 &&& Int32.toUInt32 31)).toInt32)) := ⟨_, rfl⟩
        rw [← hx3] at hP
        refine lv_iinc (k := 0) (v := nI (n + 1)) (lv' := [(3, .int (nI (n + 1))), (0, .ref (ad 3)), (1, .int (nI 8)), (2, .ref (ad 1))]) hx hb mD_Se_drawBits_17 hl rfl (by rw [lit1, nI_1]) (by decide) rfl (fun ls hl => ?_)
        refine lv_goto (tgt := 2) hx hb mD_Se_drawBits_20 rfl ?_
        exact ih (d - 1) (by omega) (n + 1) x3 _ _ _ (by omega) (lv_sub hl [0, 1, 2, 3] rfl) hP hS (by obtain ⟨g, hg, hb9⟩ := hinv; exact ⟨upd g n _, by rw [hx3, tU_f, hp1, hg, bx_uu, va_up_self], ts_bits hb9 (tn_bit _)⟩)
  exact loop 8 0 x _ _ _ (by omega) hl hP hS ⟨x.1 3, va_up_same.symm, fun _ h => absurd h (Nat.not_lt_zero _)⟩

set_option maxHeartbeats 4000000 in
set_option maxRecDepth 100000 in
theorem k_Se_drawBits32 (l : Launch) (D : va_G) (ct : Nat → ClassId) (ad : Nat → Nat) (hI : gw_inj 424 ad) (x : tS)  : gMv l mY_Se_drawBits mB_Se_drawBits 4 none (rF 1 22) D (tT ct) gZ0 424 ad (tD ct ad) [.ref (ad 4), .int (nI 32), .ref (ad 1)] x (fun x' => ∃ g, x'.1 = va_up x.1 4 g ∧ ∀ i, i < 32 → tp_bit (g i)) := by
  refine gMv_enter (by decide) (Nat.le_of_ble_eq_true rfl) ?_
  intro p e s m below meth c ls hx hb hr htw hown hlocks hml hl hP hK hZ hS
  have hA : ∀ k, k < 424 → gA 424 ad s.heap.size (ad k) := fun _ h => gA_in h
  have hl : lv_has ls 4 [(0, .ref (ad 4)), (1, .int (nI 32)), (2, .ref (ad 1))] := hl
  refine gw_nmQ (fun Q hQ => ?_)
  refine lv_iconst (v := nI 0) hx hb mD_Se_drawBits_0 (by decide) ?_
  refine lv_istore_n (lv' := [(3, .int (nI 0)), (0, .ref (ad 4)), (1, .int (nI 32)), (2, .ref (ad 1))]) hx hb mD_Se_drawBits_1 rfl hl (by decide) rfl (fun ls hl => ?_)
  have loop : ∀ (d : Nat) (n : Nat) (y : tS) (H : Heap) (locs : List Loc) (ls : Array Slot), n + d = 32 → lv_has ls 4 [(3, .int (nI n)), (0, .ref (ad 4)), (1, .int (nI 32)), (2, .ref (ad 1))] → va_P D cL (gw 424 ad (tD ct ad y)) H → va_S (gA 424 ad s.heap.size) s.heap H locs → (∃ g, y.1 = va_up x.1 4 g ∧ ∀ i, i < n → tp_bit (g i)) → W p l e (rF 1 22) s m [.ref (ad 4), .int (nI 32), .ref (ad 1)].toArray below meth c H locs 0 0 Q (F0 m 2 ls []) := by
    intro d
    induction d using Nat.strongRecOn with
    | ind d ih =>
      intro n y H locs ls hd hl hP hS hinv
      refine lv_iload_n hx hb mD_Se_drawBits_2 rfl (lv_at hl 0 rfl) ?_
      refine lv_iload_n hx hb mD_Se_drawBits_3 rfl (lv_at hl 2 rfl) ?_
      refine lv_icmp_ge (tgt := 23) hx hb mD_Se_drawBits_4 rfl (fun hc => ?_) (fun hc => ?_)
      · skip
        have hn : n = 32 := by have := ts_ge (by omega) (by omega) hc; omega
        subst hn
        subst hQ
        exact gw_vret hx hb hr hlocks hP hS (hinv) mD_Se_drawBits_23 (Nat.zero_le _) (Nat.zero_le _)
      · skip
        have hn : n < 32 := ts_lt (by omega) (by omega) hc
        refine lv_aload_n hx hb mD_Se_drawBits_7 rfl (lv_at hl 1 rfl) ?_
        refine lv_iload_n hx hb mD_Se_drawBits_8 rfl (lv_at hl 0 rfl) ?_
        refine lv_aload_n hx hb mD_Se_drawBits_9 rfl (lv_at hl 3 rfl) ?_
        refine gc_Vi (As := []) (rest := [.int (nI n), .ref (ad 4)]) hx hb hml hown htw hK hP hS 1 (k_So_draw l D ct ad hI y) gZ0_ok (fun _ _ _ => trivial) (gA_mono hS.1) (by decide) rfl rfl ww_188 ww_189 ww_190 ww_24 wC_So_draw mP_So_draw (by decide) rfl hl.1 rfl (Nat.le_of_ble_eq_true rfl) mD_Se_drawBits_10 ⟨Nat.le_of_ble_eq_true rfl, Nat.le_of_ble_eq_true rfl⟩ (fun r2 x1 H locs hp1 hP _ _ hS => ?_)
        refine lv_bipush (v := nI 31) hx hb mD_Se_drawBits_13 (by decide) ?_
        refine lv_iushr hx hb mD_Se_drawBits_15 rfl ?_
        refine t_iast hx hb hK hI hA hP hS 4 32 (by decide) (fun _ => rfl) n rfl (by omega) (by decide) mD_Se_drawBits_16 (fun H locs hP hS => ?_)
        obtain ⟨x3, hx3⟩ : ∃ z, z = tU x1 4 (upd (x1.1 4) n ((r2.toUInt32 >>> ((nI 31).toUInt32 &&& Int32.toUInt32 31)).toInt32)) := ⟨_, rfl⟩
        rw [← hx3] at hP
        refine lv_iinc (k := 0) (v := nI (n + 1)) (lv' := [(3, .int (nI (n + 1))), (0, .ref (ad 4)), (1, .int (nI 32)), (2, .ref (ad 1))]) hx hb mD_Se_drawBits_17 hl rfl (by rw [lit1, nI_1]) (by decide) rfl (fun ls hl => ?_)
        refine lv_goto (tgt := 2) hx hb mD_Se_drawBits_20 rfl ?_
        exact ih (d - 1) (by omega) (n + 1) x3 _ _ _ (by omega) (lv_sub hl [0, 1, 2, 3] rfl) hP hS (by obtain ⟨g, hg, hb9⟩ := hinv; exact ⟨upd g n _, by rw [hx3, tU_f, hp1, hg, bx_uu, va_up_self], ts_bits hb9 (tn_bit _)⟩)
  exact loop 32 0 x _ _ _ (by omega) hl hP hS ⟨x.1 4, va_up_same.symm, fun _ h => absurd h (Nat.not_lt_zero _)⟩

set_option maxHeartbeats 4000000 in
set_option maxRecDepth 100000 in
theorem k_Se_renew (l : Launch) (D : va_G) (ct : Nat → ClassId) (ad : Nat → Nat) (hI : gw_inj 424 ad) (x : tS)  : gMv l mY_Se_renew mB_Se_renew 2 none (rF 2 45) D (tT ct) gZ0 424 ad (tD ct ad) [.ref (ad 2), .ref (ad 1)] x (fun x' => ∃ g3 g4, x'.1 = va_up (va_up x.1 3 g3) 4 g4 ∧ (∀ i, i < 8 → tp_bit (g3 i)) ∧ ∀ i, i < 32 → tp_bit (g4 i)) := by
  refine gMv_enter (by decide) (Nat.le_of_ble_eq_true rfl) ?_
  intro p e s m below meth c ls hx hb hr htw hown hlocks hml hl hP hK hZ hS
  have hA : ∀ k, k < 424 → gA 424 ad s.heap.size (ad k) := fun _ h => gA_in h
  have hl : lv_has ls 2 [(0, .ref (ad 2)), (1, .ref (ad 1))] := hl
  refine lv_aload_n hx hb mD_Se_renew_0 rfl (lv_at hl 0 rfl) ?_
  refine t_get (C := cN_Se) (T := cF_Se) (N := 2) (ci := 4) hx hb htw wU_Se hown hK hP 2 (by decide) rfl rfl 0 (by decide) rfl ww_65 rfl mD_Se_renew_1 ?_
  refine lv_bipush (v := nI 8) hx hb mD_Se_renew_4 (by decide) ?_
  refine lv_aload_n hx hb mD_Se_renew_6 rfl (lv_at hl 1 rfl) ?_
  refine gc_Sv (As := [.ref (ad 3), .int (nI 8), .ref (ad 1)]) (rest := []) hx hb hml hown htw hK hP hS (k_Se_drawBits8 l D ct ad hI x) gZ0_ok (fun _ _ _ => trivial) (gA_mono hS.1) ww_185 ww_186 ww_25 wC_Se_drawBits mP_Se_drawBits (by decide) rfl hl.1 rfl (Nat.le_of_ble_eq_true rfl) mD_Se_renew_7 ⟨Nat.le_of_ble_eq_true rfl, Nat.le_of_ble_eq_true rfl⟩ (fun x1 H locs hp1 hP _ _ hS => ?_)
  refine lv_aload_n hx hb mD_Se_renew_10 rfl (lv_at hl 0 rfl) ?_
  refine t_get (C := cN_Se) (T := cF_Se) (N := 2) (ci := 4) hx hb htw wU_Se hown hK hP 2 (by decide) rfl rfl 1 (by decide) rfl ww_67 rfl mD_Se_renew_11 ?_
  refine lv_bipush (v := nI 32) hx hb mD_Se_renew_14 (by decide) ?_
  refine lv_aload_n hx hb mD_Se_renew_16 rfl (lv_at hl 1 rfl) ?_
  refine gc_Sv (As := [.ref (ad 4), .int (nI 32), .ref (ad 1)]) (rest := []) hx hb hml hown htw hK hP hS (k_Se_drawBits32 l D ct ad hI x1) gZ0_ok (fun _ _ _ => trivial) (gA_mono hS.1) ww_185 ww_186 ww_25 wC_Se_drawBits mP_Se_drawBits (by decide) rfl hl.1 rfl (Nat.le_of_ble_eq_true rfl) mD_Se_renew_17 ⟨Nat.le_of_ble_eq_true rfl, Nat.le_of_ble_eq_true rfl⟩ (fun x3 H locs hp3 hP _ _ hS => ?_)
  exact gw_vret hx hb hr hlocks hP hS (by obtain ⟨g3, e3, b3⟩ := hp1; obtain ⟨g4, e4, b4⟩ := hp3; exact ⟨g3, g4, by rw [e4, e3], b3, b4⟩) mD_Se_renew_20 (Nat.zero_le _) (Nat.zero_le _)

set_option maxHeartbeats 4000000 in
set_option maxRecDepth 100000 in
theorem k_Se_hide5 (l : Launch) (D : va_G) (ct : Nat → ClassId) (ad : Nat → Nat) (hI : gw_inj 424 ad) (x : tS) (pl : Int32) {k : Nat} (hk : tRow k) : gMv l mY_Se_hide mB_Se_hide 7 none (rF 2 43) D (tT ct) gZ0 424 ad (tD ct ad) [.ref (ad 2), .int pl, .ref (ad k), .int (nI 5), .ref (ad 1)] x (fun x' => ∃ g, x'.1 = va_up x.1 k g ∧ tp_sm 16 (tp_place (x.1 3) g - pl)) := by
  refine gMv_enter (by decide) (Nat.le_of_ble_eq_true rfl) ?_
  intro p e s m below meth c ls hx hb hr htw hown hlocks hml hl hP hK hZ hS
  have hA : ∀ k, k < 424 → gA 424 ad s.heap.size (ad k) := fun _ h => gA_in h
  have hl : lv_has ls 7 [(0, .ref (ad 2)), (1, .int pl), (2, .ref (ad k)), (3, .int (nI 5)), (4, .ref (ad 1))] := hl
  refine gw_nmQ (fun Q hQ => ?_)
  refine lv_iload_n hx hb mD_Se_hide_0 rfl (lv_at hl 1 rfl) ?_
  refine lv_aload hx hb mD_Se_hide_1 (lv_at hl 4 rfl) ?_
  refine lv_iload_n hx hb mD_Se_hide_3 rfl (lv_at hl 3 rfl) ?_
  refine gc_Vi (As := [.int (nI 5)]) (rest := [.int pl]) hx hb hml hown htw hK hP hS 1 (k_So_drawNoise5 l D ct ad hI x) gZ0_ok (fun _ _ _ => trivial) (gA_mono hS.1) (by decide) rfl rfl ww_207 ww_208 ww_209 ww_24 wC_So_drawNoise mP_So_drawNoise (by decide) rfl hl.1 rfl (Nat.le_of_ble_eq_true rfl) mD_Se_hide_4 ⟨Nat.le_of_ble_eq_true rfl, Nat.le_of_ble_eq_true rfl⟩ (fun r2 x1 H locs hp1 hP _ _ hS => ?_)
  refine lv_iadd hx hb mD_Se_hide_7 ?_
  refine lv_istore (lv' := [(5, .int (pl + r2)), (0, .ref (ad 2)), (1, .int pl), (2, .ref (ad k)), (3, .int (nI 5)), (4, .ref (ad 1))]) hx hb mD_Se_hide_8 hl (by decide) rfl (fun ls hl => ?_)
  refine lv_iconst (v := nI 0) hx hb mD_Se_hide_10 (by decide) ?_
  refine lv_istore (lv' := [(6, .int (nI 0)), (5, .int (pl + r2)), (0, .ref (ad 2)), (1, .int pl), (2, .ref (ad k)), (3, .int (nI 5)), (4, .ref (ad 1))]) hx hb mD_Se_hide_11 hl (by decide) rfl (fun ls hl => ?_)
  have loop : ∀ (d : Nat) (n : Nat) (y : tS) (h : Int32) (H : Heap) (locs : List Loc) (ls : Array Slot), n + d = 8 → lv_has ls 7 [(6, .int (nI n)), (5, .int h), (0, .ref (ad 2)), (1, .int pl), (2, .ref (ad k)), (3, .int (nI 5)), (4, .ref (ad 1))] → va_P D cL (gw 424 ad (tD ct ad y)) H → va_S (gA 424 ad s.heap.size) s.heap H locs → (∃ g, y.1 = va_up x.1 k g ∧ tp_sm 16 (h - pl - tp_sum n (fun i => g i * x.1 3 i))) → W p l e (rF 2 43) s m [.ref (ad 2), .int pl, .ref (ad k), .int (nI 5), .ref (ad 1)].toArray below meth c H locs 0 0 Q (F0 m 13 ls []) := by
    intro d
    induction d using Nat.strongRecOn with
    | ind d ih =>
      intro n y h H locs ls hd hl hP hS hinv
      refine lv_iload hx hb mD_Se_hide_13 (lv_at hl 0 rfl) ?_
      refine lv_bipush (v := nI 8) hx hb mD_Se_hide_15 (by decide) ?_
      refine lv_icmp_ge (tgt := 52) hx hb mD_Se_hide_17 rfl (fun hc => ?_) (fun hc => ?_)
      · skip
        have hn : n = 8 := by have := ts_ge (by omega) (by omega) hc; omega
        subst hn
        refine lv_aload_n hx hb mD_Se_hide_52 rfl (lv_at hl 4 rfl) ?_
        refine lv_bipush (v := nI 8) hx hb mD_Se_hide_53 (by decide) ?_
        refine lv_iload hx hb mD_Se_hide_55 (lv_at hl 1 rfl) ?_
        refine t_iast hx hb hK hI hA hP hS k 9 (tRow_lt hk) (fun _ => tE_row hk) 8 rfl (by decide) (by decide) mD_Se_hide_57 (fun H locs hP hS => ?_)
        obtain ⟨x3, hx3⟩ : ∃ z, z = tU y k (upd (y.1 k) 8 h) := ⟨_, rfl⟩
        rw [← hx3] at hP
        subst hQ
        exact gw_vret hx hb hr hlocks hP hS (by obtain ⟨g, hg, hb9⟩ := hinv; exact ⟨upd g 8 h, by rw [hx3, tU_f, hg, bx_uu, va_up_self], ts_hide8 hb9⟩) mD_Se_hide_58 (Nat.zero_le _) (Nat.zero_le _)
      · skip
        have hn : n < 8 := ts_lt (by omega) (by omega) hc
        refine lv_aload_n hx hb mD_Se_hide_20 rfl (lv_at hl 4 rfl) ?_
        refine lv_iload hx hb mD_Se_hide_21 (lv_at hl 0 rfl) ?_
        refine lv_aload hx hb mD_Se_hide_23 (lv_at hl 6 rfl) ?_
        refine gc_Vi (As := []) (rest := [.int (nI n), .ref (ad k)]) hx hb hml hown htw hK hP hS 1 (k_So_draw l D ct ad hI y) gZ0_ok (fun _ _ _ => trivial) (gA_mono hS.1) (by decide) rfl rfl ww_188 ww_189 ww_190 ww_24 wC_So_draw mP_So_draw (by decide) rfl hl.1 rfl (Nat.le_of_ble_eq_true rfl) mD_Se_hide_25 ⟨Nat.le_of_ble_eq_true rfl, Nat.le_of_ble_eq_true rfl⟩ (fun r5 x4 H locs hp4 hP _ _ hS => ?_)
        refine t_iast hx hb hK hI hA hP hS k 9 (tRow_lt hk) (fun _ => tE_row hk) n rfl (by omega) (by decide) mD_Se_hide_28 (fun H locs hP hS => ?_)
        obtain ⟨x6, hx6⟩ : ∃ z, z = tU x4 k (upd (x4.1 k) n r5) := ⟨_, rfl⟩
        rw [← hx6] at hP
        refine lv_iload hx hb mD_Se_hide_29 (lv_at hl 1 rfl) ?_
        refine lv_aload_n hx hb mD_Se_hide_31 rfl (lv_at hl 4 rfl) ?_
        refine lv_iload hx hb mD_Se_hide_32 (lv_at hl 0 rfl) ?_
        refine t_iald hx hb hK hP k 9 (tRow_lt hk) (tE_row hk) n rfl (by omega) (by decide) mD_Se_hide_34 ?_
        refine lv_aload_n hx hb mD_Se_hide_35 rfl (lv_at hl 2 rfl) ?_
        refine t_get (C := cN_Se) (T := cF_Se) (N := 2) (ci := 4) hx hb htw wU_Se hown hK hP 2 (by decide) rfl rfl 0 (by decide) rfl ww_65 rfl mD_Se_hide_36 ?_
        refine lv_iload hx hb mD_Se_hide_39 (lv_at hl 0 rfl) ?_
        refine t_iald hx hb hK hP 3 8 (by decide) rfl n rfl (by omega) (by decide) mD_Se_hide_41 ?_
        refine lv_imul hx hb mD_Se_hide_42 ?_
        refine lv_iadd hx hb mD_Se_hide_43 ?_
        refine lv_istore (lv' := [(5, .int (h + ((x6.1 k n) * (x6.1 3 n)))), (6, .int (nI n)), (0, .ref (ad 2)), (1, .int pl), (2, .ref (ad k)), (3, .int (nI 5)), (4, .ref (ad 1))]) hx hb mD_Se_hide_44 hl (by decide) rfl (fun ls hl => ?_)
        refine lv_iinc (k := 1) (v := nI (n + 1)) (lv' := [(6, .int (nI (n + 1))), (5, .int (h + ((x6.1 k n) * (x6.1 3 n)))), (0, .ref (ad 2)), (1, .int pl), (2, .ref (ad k)), (3, .int (nI 5)), (4, .ref (ad 1))]) hx hb mD_Se_hide_46 hl rfl (by rw [lit1, nI_1]) (by decide) rfl (fun ls hl => ?_)
        refine lv_goto (tgt := 13) hx hb mD_Se_hide_49 rfl ?_
        exact ih (d - 1) (by omega) (n + 1) x6 _ _ _ _ (by omega) (lv_sub hl [0, 1, 2, 3, 4, 5, 6] rfl) hP hS (by obtain ⟨g, hg, hb9⟩ := hinv; have e3 : x6.1 3 = x.1 3 := (by rw [hx6, tU_f, va_up_ne _ _ (ts_not3 hk), hp4, hg, va_up_ne _ _ (ts_not3 hk)]); have ek : x6.1 k = upd g n r5 := (by rw [hx6, tU_f, va_up_self, hp4, hg, va_up_self]); exact ⟨upd g n r5, by rw [hx6, tU_f, hp4, hg, bx_uu, va_up_self], by rw [ek, e3]; exact ts_hide hb9⟩)
  exact loop 8 0 x1 _ _ _ _ (by omega) hl hP hS ⟨x.1 k, by rw [hp1.1, va_up_same], by rw [tp_sum_0]; have e : ∀ a b : Int32, a + b - a - 0 = b := (by intro a b; grind); rw [e]; exact hp1.2⟩

set_option maxHeartbeats 4000000 in
set_option maxRecDepth 100000 in
theorem k_Se_hide3 (l : Launch) (D : va_G) (ct : Nat → ClassId) (ad : Nat → Nat) (hI : gw_inj 424 ad) (x : tS) (pl : Int32) {k : Nat} (hk : tRow k) : gMv l mY_Se_hide mB_Se_hide 7 none (rF 2 43) D (tT ct) gZ0 424 ad (tD ct ad) [.ref (ad 2), .int pl, .ref (ad k), .int (nI 3), .ref (ad 1)] x (fun x' => ∃ g, x'.1 = va_up x.1 k g ∧ tp_sm 4 (tp_place (x.1 3) g - pl)) := by
  refine gMv_enter (by decide) (Nat.le_of_ble_eq_true rfl) ?_
  intro p e s m below meth c ls hx hb hr htw hown hlocks hml hl hP hK hZ hS
  have hA : ∀ k, k < 424 → gA 424 ad s.heap.size (ad k) := fun _ h => gA_in h
  have hl : lv_has ls 7 [(0, .ref (ad 2)), (1, .int pl), (2, .ref (ad k)), (3, .int (nI 3)), (4, .ref (ad 1))] := hl
  refine gw_nmQ (fun Q hQ => ?_)
  refine lv_iload_n hx hb mD_Se_hide_0 rfl (lv_at hl 1 rfl) ?_
  refine lv_aload hx hb mD_Se_hide_1 (lv_at hl 4 rfl) ?_
  refine lv_iload_n hx hb mD_Se_hide_3 rfl (lv_at hl 3 rfl) ?_
  refine gc_Vi (As := [.int (nI 3)]) (rest := [.int pl]) hx hb hml hown htw hK hP hS 1 (k_So_drawNoise3 l D ct ad hI x) gZ0_ok (fun _ _ _ => trivial) (gA_mono hS.1) (by decide) rfl rfl ww_207 ww_208 ww_209 ww_24 wC_So_drawNoise mP_So_drawNoise (by decide) rfl hl.1 rfl (Nat.le_of_ble_eq_true rfl) mD_Se_hide_4 ⟨Nat.le_of_ble_eq_true rfl, Nat.le_of_ble_eq_true rfl⟩ (fun r2 x1 H locs hp1 hP _ _ hS => ?_)
  refine lv_iadd hx hb mD_Se_hide_7 ?_
  refine lv_istore (lv' := [(5, .int (pl + r2)), (0, .ref (ad 2)), (1, .int pl), (2, .ref (ad k)), (3, .int (nI 3)), (4, .ref (ad 1))]) hx hb mD_Se_hide_8 hl (by decide) rfl (fun ls hl => ?_)
  refine lv_iconst (v := nI 0) hx hb mD_Se_hide_10 (by decide) ?_
  refine lv_istore (lv' := [(6, .int (nI 0)), (5, .int (pl + r2)), (0, .ref (ad 2)), (1, .int pl), (2, .ref (ad k)), (3, .int (nI 3)), (4, .ref (ad 1))]) hx hb mD_Se_hide_11 hl (by decide) rfl (fun ls hl => ?_)
  have loop : ∀ (d : Nat) (n : Nat) (y : tS) (h : Int32) (H : Heap) (locs : List Loc) (ls : Array Slot), n + d = 8 → lv_has ls 7 [(6, .int (nI n)), (5, .int h), (0, .ref (ad 2)), (1, .int pl), (2, .ref (ad k)), (3, .int (nI 3)), (4, .ref (ad 1))] → va_P D cL (gw 424 ad (tD ct ad y)) H → va_S (gA 424 ad s.heap.size) s.heap H locs → (∃ g, y.1 = va_up x.1 k g ∧ tp_sm 4 (h - pl - tp_sum n (fun i => g i * x.1 3 i))) → W p l e (rF 2 43) s m [.ref (ad 2), .int pl, .ref (ad k), .int (nI 3), .ref (ad 1)].toArray below meth c H locs 0 0 Q (F0 m 13 ls []) := by
    intro d
    induction d using Nat.strongRecOn with
    | ind d ih =>
      intro n y h H locs ls hd hl hP hS hinv
      refine lv_iload hx hb mD_Se_hide_13 (lv_at hl 0 rfl) ?_
      refine lv_bipush (v := nI 8) hx hb mD_Se_hide_15 (by decide) ?_
      refine lv_icmp_ge (tgt := 52) hx hb mD_Se_hide_17 rfl (fun hc => ?_) (fun hc => ?_)
      · skip
        have hn : n = 8 := by have := ts_ge (by omega) (by omega) hc; omega
        subst hn
        refine lv_aload_n hx hb mD_Se_hide_52 rfl (lv_at hl 4 rfl) ?_
        refine lv_bipush (v := nI 8) hx hb mD_Se_hide_53 (by decide) ?_
        refine lv_iload hx hb mD_Se_hide_55 (lv_at hl 1 rfl) ?_
        refine t_iast hx hb hK hI hA hP hS k 9 (tRow_lt hk) (fun _ => tE_row hk) 8 rfl (by decide) (by decide) mD_Se_hide_57 (fun H locs hP hS => ?_)
        obtain ⟨x3, hx3⟩ : ∃ z, z = tU y k (upd (y.1 k) 8 h) := ⟨_, rfl⟩
        rw [← hx3] at hP
        subst hQ
        exact gw_vret hx hb hr hlocks hP hS (by obtain ⟨g, hg, hb9⟩ := hinv; exact ⟨upd g 8 h, by rw [hx3, tU_f, hg, bx_uu, va_up_self], ts_hide8 hb9⟩) mD_Se_hide_58 (Nat.zero_le _) (Nat.zero_le _)
      · skip
        have hn : n < 8 := ts_lt (by omega) (by omega) hc
        refine lv_aload_n hx hb mD_Se_hide_20 rfl (lv_at hl 4 rfl) ?_
        refine lv_iload hx hb mD_Se_hide_21 (lv_at hl 0 rfl) ?_
        refine lv_aload hx hb mD_Se_hide_23 (lv_at hl 6 rfl) ?_
        refine gc_Vi (As := []) (rest := [.int (nI n), .ref (ad k)]) hx hb hml hown htw hK hP hS 1 (k_So_draw l D ct ad hI y) gZ0_ok (fun _ _ _ => trivial) (gA_mono hS.1) (by decide) rfl rfl ww_188 ww_189 ww_190 ww_24 wC_So_draw mP_So_draw (by decide) rfl hl.1 rfl (Nat.le_of_ble_eq_true rfl) mD_Se_hide_25 ⟨Nat.le_of_ble_eq_true rfl, Nat.le_of_ble_eq_true rfl⟩ (fun r5 x4 H locs hp4 hP _ _ hS => ?_)
        refine t_iast hx hb hK hI hA hP hS k 9 (tRow_lt hk) (fun _ => tE_row hk) n rfl (by omega) (by decide) mD_Se_hide_28 (fun H locs hP hS => ?_)
        obtain ⟨x6, hx6⟩ : ∃ z, z = tU x4 k (upd (x4.1 k) n r5) := ⟨_, rfl⟩
        rw [← hx6] at hP
        refine lv_iload hx hb mD_Se_hide_29 (lv_at hl 1 rfl) ?_
        refine lv_aload_n hx hb mD_Se_hide_31 rfl (lv_at hl 4 rfl) ?_
        refine lv_iload hx hb mD_Se_hide_32 (lv_at hl 0 rfl) ?_
        refine t_iald hx hb hK hP k 9 (tRow_lt hk) (tE_row hk) n rfl (by omega) (by decide) mD_Se_hide_34 ?_
        refine lv_aload_n hx hb mD_Se_hide_35 rfl (lv_at hl 2 rfl) ?_
        refine t_get (C := cN_Se) (T := cF_Se) (N := 2) (ci := 4) hx hb htw wU_Se hown hK hP 2 (by decide) rfl rfl 0 (by decide) rfl ww_65 rfl mD_Se_hide_36 ?_
        refine lv_iload hx hb mD_Se_hide_39 (lv_at hl 0 rfl) ?_
        refine t_iald hx hb hK hP 3 8 (by decide) rfl n rfl (by omega) (by decide) mD_Se_hide_41 ?_
        refine lv_imul hx hb mD_Se_hide_42 ?_
        refine lv_iadd hx hb mD_Se_hide_43 ?_
        refine lv_istore (lv' := [(5, .int (h + ((x6.1 k n) * (x6.1 3 n)))), (6, .int (nI n)), (0, .ref (ad 2)), (1, .int pl), (2, .ref (ad k)), (3, .int (nI 3)), (4, .ref (ad 1))]) hx hb mD_Se_hide_44 hl (by decide) rfl (fun ls hl => ?_)
        refine lv_iinc (k := 1) (v := nI (n + 1)) (lv' := [(6, .int (nI (n + 1))), (5, .int (h + ((x6.1 k n) * (x6.1 3 n)))), (0, .ref (ad 2)), (1, .int pl), (2, .ref (ad k)), (3, .int (nI 3)), (4, .ref (ad 1))]) hx hb mD_Se_hide_46 hl rfl (by rw [lit1, nI_1]) (by decide) rfl (fun ls hl => ?_)
        refine lv_goto (tgt := 13) hx hb mD_Se_hide_49 rfl ?_
        exact ih (d - 1) (by omega) (n + 1) x6 _ _ _ _ (by omega) (lv_sub hl [0, 1, 2, 3, 4, 5, 6] rfl) hP hS (by obtain ⟨g, hg, hb9⟩ := hinv; have e3 : x6.1 3 = x.1 3 := (by rw [hx6, tU_f, va_up_ne _ _ (ts_not3 hk), hp4, hg, va_up_ne _ _ (ts_not3 hk)]); have ek : x6.1 k = upd g n r5 := (by rw [hx6, tU_f, va_up_self, hp4, hg, va_up_self]); exact ⟨upd g n r5, by rw [hx6, tU_f, hp4, hg, bx_uu, va_up_self], by rw [ek, e3]; exact ts_hide hb9⟩)
  exact loop 8 0 x1 _ _ _ _ (by omega) hl hP hS ⟨x.1 k, by rw [hp1.1, va_up_same], by rw [tp_sum_0]; have e : ∀ a b : Int32, a + b - a - 0 = b := (by intro a b; grind); rw [e]; exact hp1.2⟩

set_option maxHeartbeats 4000000 in
set_option maxRecDepth 100000 in
theorem k_Se_placeOf (l : Launch) (D : va_G) (ct : Nat → ClassId) (ad : Nat → Nat) (hI : gw_inj 424 ad) (x : tS) {k : Nat} (hk : tRow k) : gMi l mY_Se_placeOf mB_Se_placeOf 4 (some .int) (rF 0 0) D (tT ct) gZ0 424 ad (tD ct ad) [.ref (ad 2), .ref (ad k)] x (fun r x' => x' = x ∧ r = tp_place (x.1 3) (x.1 k)) := by
  refine gMi_enter (by decide) (Nat.le_of_ble_eq_true rfl) ?_
  intro p e s m below meth c ls hx hb hr htw hown hlocks hml hl hP hK hZ hS
  have hA : ∀ k, k < 424 → gA 424 ad s.heap.size (ad k) := fun _ h => gA_in h
  have hl : lv_has ls 4 [(0, .ref (ad 2)), (1, .ref (ad k))] := hl
  refine gw_nmQ (fun Q hQ => ?_)
  refine lv_aload_n hx hb mD_Se_placeOf_0 rfl (lv_at hl 1 rfl) ?_
  refine lv_bipush (v := nI 8) hx hb mD_Se_placeOf_1 (by decide) ?_
  refine t_iald hx hb hK hP k 9 (tRow_lt hk) (tE_row hk) 8 rfl (by decide) (by decide) mD_Se_placeOf_3 ?_
  refine lv_istore_n (lv' := [(2, .int (x.1 k 8)), (0, .ref (ad 2)), (1, .ref (ad k))]) hx hb mD_Se_placeOf_4 rfl hl (by decide) rfl (fun ls hl => ?_)
  refine lv_iconst (v := nI 0) hx hb mD_Se_placeOf_5 (by decide) ?_
  refine lv_istore_n (lv' := [(3, .int (nI 0)), (2, .int (x.1 k 8)), (0, .ref (ad 2)), (1, .ref (ad k))]) hx hb mD_Se_placeOf_6 rfl hl (by decide) rfl (fun ls hl => ?_)
  have loop : ∀ (d : Nat) (n : Nat) (q : Int32) (H : Heap) (locs : List Loc) (ls : Array Slot), n + d = 8 → lv_has ls 4 [(3, .int (nI n)), (2, .int q), (0, .ref (ad 2)), (1, .ref (ad k))] → va_P D cL (gw 424 ad (tD ct ad x)) H → va_S (gA 424 ad s.heap.size) s.heap H locs → (q = x.1 k 8 - tp_sum n (fun i => x.1 k i * x.1 3 i)) → W p l e (rF 0 0) s m [.ref (ad 2), .ref (ad k)].toArray below meth c H locs 0 0 Q (F0 m 7 ls []) := by
    intro d
    induction d using Nat.strongRecOn with
    | ind d ih =>
      intro n q H locs ls hd hl hP hS hinv
      refine lv_iload_n hx hb mD_Se_placeOf_7 rfl (lv_at hl 0 rfl) ?_
      refine lv_bipush (v := nI 8) hx hb mD_Se_placeOf_8 (by decide) ?_
      refine lv_icmp_ge (tgt := 32) hx hb mD_Se_placeOf_10 rfl (fun hc => ?_) (fun hc => ?_)
      · skip
        have hn : n = 8 := by have := ts_ge (by omega) (by omega) hc; omega
        subst hn
        refine lv_iload_n hx hb mD_Se_placeOf_32 rfl (lv_at hl 1 rfl) ?_
        subst hQ
        exact gw_iret hx hb hr hlocks hP hS (⟨rfl, hinv⟩) mD_Se_placeOf_33 (Nat.zero_le _) (Nat.zero_le _)
      · skip
        have hn : n < 8 := ts_lt (by omega) (by omega) hc
        refine lv_iload_n hx hb mD_Se_placeOf_13 rfl (lv_at hl 1 rfl) ?_
        refine lv_aload_n hx hb mD_Se_placeOf_14 rfl (lv_at hl 3 rfl) ?_
        refine lv_iload_n hx hb mD_Se_placeOf_15 rfl (lv_at hl 0 rfl) ?_
        refine t_iald hx hb hK hP k 9 (tRow_lt hk) (tE_row hk) n rfl (by omega) (by decide) mD_Se_placeOf_16 ?_
        refine lv_aload_n hx hb mD_Se_placeOf_17 rfl (lv_at hl 2 rfl) ?_
        refine t_get (C := cN_Se) (T := cF_Se) (N := 2) (ci := 4) hx hb htw wU_Se hown hK hP 2 (by decide) rfl rfl 0 (by decide) rfl ww_65 rfl mD_Se_placeOf_18 ?_
        refine lv_iload_n hx hb mD_Se_placeOf_21 rfl (lv_at hl 0 rfl) ?_
        refine t_iald hx hb hK hP 3 8 (by decide) rfl n rfl (by omega) (by decide) mD_Se_placeOf_22 ?_
        refine lv_imul hx hb mD_Se_placeOf_23 ?_
        refine lv_isub hx hb mD_Se_placeOf_24 ?_
        refine lv_istore_n (lv' := [(2, .int (q - ((x.1 k n) * (x.1 3 n)))), (3, .int (nI n)), (0, .ref (ad 2)), (1, .ref (ad k))]) hx hb mD_Se_placeOf_25 rfl hl (by decide) rfl (fun ls hl => ?_)
        refine lv_iinc (k := 1) (v := nI (n + 1)) (lv' := [(3, .int (nI (n + 1))), (2, .int (q - ((x.1 k n) * (x.1 3 n)))), (0, .ref (ad 2)), (1, .ref (ad k))]) hx hb mD_Se_placeOf_26 hl rfl (by rw [lit1, nI_1]) (by decide) rfl (fun ls hl => ?_)
        refine lv_goto (tgt := 7) hx hb mD_Se_placeOf_29 rfl ?_
        exact ih (d - 1) (by omega) (n + 1) _ _ _ _ (by omega) (lv_sub hl [0, 1, 2, 3] rfl) hP hS (by rw [hinv, tp_sum_s]; grind)
  exact loop 8 0 _ _ _ _ (by omega) hl hP hS (by rw [tp_sum_0]; grind)

set_option maxHeartbeats 4000000 in
set_option maxRecDepth 100000 in
theorem k_Se_hideNothing (l : Launch) (D : va_G) (ct : Nat → ClassId) (ad : Nat → Nat) (hI : gw_inj 424 ad) (x : tS) {k : Nat} (hk : tPair k) : gMv l mY_Se_hideNothing mB_Se_hideNothing 4 none (rF 2 43) D (tT ct) gZ0 424 ad (tD ct ad) [.ref (ad 2), .ref (ad k), .ref (ad 1)] x (fun x' => ∃ g, x'.1 = va_up x.1 k g ∧ ∀ j : Int, tp_sm 4 (tp_ph (x.1 4) (fun i => g i) (fun i => g (32 + i)) j)) := by
  refine gMv_enter (by decide) (Nat.le_of_ble_eq_true rfl) ?_
  intro p e s m below meth c ls hx hb hr htw hown hlocks hml hl hP hK hZ hS
  have hA : ∀ k, k < 424 → gA 424 ad s.heap.size (ad k) := fun _ h => gA_in h
  have hl : lv_has ls 4 [(0, .ref (ad 2)), (1, .ref (ad k)), (2, .ref (ad 1))] := hl
  refine gw_nmQ (fun Q hQ => ?_)
  refine lv_iconst (v := nI 0) hx hb mD_Se_hideNothing_0 (by decide) ?_
  refine lv_istore_n (lv' := [(3, .int (nI 0)), (0, .ref (ad 2)), (1, .ref (ad k)), (2, .ref (ad 1))]) hx hb mD_Se_hideNothing_1 rfl hl (by decide) rfl (fun ls hl => ?_)
  have loop : ∀ (d : Nat) (n : Nat) (y : tS) (H : Heap) (locs : List Loc) (ls : Array Slot), n + d = 32 → lv_has ls 4 [(3, .int (nI n)), (0, .ref (ad 2)), (1, .ref (ad k)), (2, .ref (ad 1))] → va_P D cL (gw 424 ad (tD ct ad y)) H → va_S (gA 424 ad s.heap.size) s.heap H locs → (∃ g, y.1 = va_up x.1 k g ∧ ∀ i, i < n → tp_sm 4 (g (32 + i))) → W p l e (rF 2 43) s m [.ref (ad 2), .ref (ad k), .ref (ad 1)].toArray below meth c H locs 0 0 Q (F0 m 2 ls []) := by
    intro d
    induction d using Nat.strongRecOn with
    | ind d ih =>
      intro n y H locs ls hd hl hP hS hinv
      refine lv_iload_n hx hb mD_Se_hideNothing_2 rfl (lv_at hl 0 rfl) ?_
      refine lv_bipush (v := nI 32) hx hb mD_Se_hideNothing_3 (by decide) ?_
      refine lv_icmp_ge (tgt := 32) hx hb mD_Se_hideNothing_5 rfl (fun hc => ?_) (fun hc => ?_)
      · skip
        have hn : n = 32 := by have := ts_ge (by omega) (by omega) hc; omega
        subst hn
        obtain ⟨g0, hg0, hb0⟩ := hinv
        refine lv_iconst (v := nI 0) hx hb mD_Se_hideNothing_32 (by decide) ?_
        refine lv_istore_n (lv' := [(3, .int (nI 0)), (0, .ref (ad 2)), (1, .ref (ad k)), (2, .ref (ad 1))]) hx hb mD_Se_hideNothing_33 rfl hl (by decide) rfl (fun ls hl => ?_)
        have loop2 : ∀ (d : Nat) (n : Nat) (y : tS) (H : Heap) (locs : List Loc) (ls : Array Slot), n + d = 32 → lv_has ls 4 [(3, .int (nI n)), (0, .ref (ad 2)), (1, .ref (ad k)), (2, .ref (ad 1))] → va_P D cL (gw 424 ad (tD ct ad y)) H → va_S (gA 424 ad s.heap.size) s.heap H locs → (∃ g, y.1 = va_up x.1 k g ∧ (∀ j, j < 32 → g j = g0 j) ∧ ∀ i : Nat, i < 32 → g (32 + i) = g0 (32 + i) + tp_sum n (fun q => x.1 4 q * tp_ext g0 ((i : Int) - (q : Int)))) → W p l e (rF 2 43) s m [.ref (ad 2), .ref (ad k), .ref (ad 1)].toArray below meth c H locs 0 0 Q (F0 m 34 ls []) := by
          intro d
          induction d using Nat.strongRecOn with
          | ind d ih2 =>
            intro n y H locs ls hd hl hP hS hinv
            refine lv_iload_n hx hb mD_Se_hideNothing_34 rfl (lv_at hl 0 rfl) ?_
            refine lv_bipush (v := nI 32) hx hb mD_Se_hideNothing_35 (by decide) ?_
            refine lv_icmp_ge (tgt := 61) hx hb mD_Se_hideNothing_37 rfl (fun hc => ?_) (fun hc => ?_)
            · skip
              have hn : n = 32 := by have := ts_ge (by omega) (by omega) hc; omega
              subst hn
              subst hQ
              exact gw_vret hx hb hr hlocks hP hS (by obtain ⟨g, hg, hlo, hhi⟩ := hinv; exact ⟨g, hg, ts_nothing2 hb0 hlo hhi⟩) mD_Se_hideNothing_61 (Nat.zero_le _) (Nat.zero_le _)
            · skip
              have hn : n < 32 := ts_lt (by omega) (by omega) hc
              refine lv_aload_n hx hb mD_Se_hideNothing_40 rfl (lv_at hl 1 rfl) ?_
              refine t_get (C := cN_Se) (T := cF_Se) (N := 2) (ci := 4) hx hb htw wU_Se hown hK hP 2 (by decide) rfl rfl 1 (by decide) rfl ww_67 rfl mD_Se_hideNothing_41 ?_
              refine lv_iload_n hx hb mD_Se_hideNothing_44 rfl (lv_at hl 0 rfl) ?_
              refine t_iald hx hb hK hP 4 32 (by decide) rfl n rfl (by omega) (by decide) mD_Se_hideNothing_45 ?_
              refine lv_iload_n hx hb mD_Se_hideNothing_46 rfl (lv_at hl 0 rfl) ?_
              refine lv_aload_n hx hb mD_Se_hideNothing_47 rfl (lv_at hl 2 rfl) ?_
              refine lv_iconst (v := nI 0) hx hb mD_Se_hideNothing_48 (by decide) ?_
              refine lv_aload_n hx hb mD_Se_hideNothing_49 rfl (lv_at hl 2 rfl) ?_
              refine lv_bipush (v := nI 32) hx hb mD_Se_hideNothing_50 (by decide) ?_
              refine gc_Sv (As := [.int (y.1 4 n), .int (nI n), .ref (ad k), .int (nI 0), .ref (ad k), .int (nI 32)]) (rest := []) hx hb hml hown htw hK hP hS (k_Ri_addTurned l D ct ad hI y (y.1 4 n) (t := n) (kf := k) (fs := 0) (kt := k) (ts := 32) (by omega) hk hk (by decide) (by decide) (by decide) (Or.inr (by decide))) gZ0_ok (fun _ _ _ => trivial) (gA_mono hS.1) ww_212 ww_213 ww_31 wC_Ri_addTurned mP_Ri_addTurned (by decide) rfl hl.1 rfl (Nat.le_of_ble_eq_true rfl) mD_Se_hideNothing_52 ⟨Nat.le_of_ble_eq_true rfl, Nat.le_of_ble_eq_true rfl⟩ (fun x1 H locs hp1 hP _ _ hS => ?_)
              refine lv_iinc (k := 0) (v := nI (n + 1)) (lv' := [(3, .int (nI (n + 1))), (0, .ref (ad 2)), (1, .ref (ad k)), (2, .ref (ad 1))]) hx hb mD_Se_hideNothing_55 hl rfl (by rw [lit1, nI_1]) (by decide) rfl (fun ls hl => ?_)
              refine lv_goto (tgt := 34) hx hb mD_Se_hideNothing_58 rfl ?_
              exact ih2 (d - 1) (by omega) (n + 1) x1 _ _ _ (by omega) (lv_sub hl [0, 1, 2, 3] rfl) hP hS (by obtain ⟨g, hg, hlo, hhi⟩ := hinv; obtain ⟨g1, e1, h1⟩ := hp1; have e4 : y.1 4 = x.1 4 := (by rw [hg, va_up_ne _ _ (ts_not4 hk)]); have ek : y.1 k = g := (by rw [hg, va_up_self]); rw [ek, e4] at h1; exact ⟨g1, by rw [e1, tU_f, hg, bx_uu], ts_add hn hlo hhi h1⟩)
        exact loop2 32 0 y _ _ _ (by omega) hl hP hS ⟨g0, hg0, fun _ _ => rfl, fun i _ => by rw [tp_sum_0]; grind⟩
      · skip
        have hn : n < 32 := ts_lt (by omega) (by omega) hc
        refine lv_aload_n hx hb mD_Se_hideNothing_8 rfl (lv_at hl 2 rfl) ?_
        refine lv_iload_n hx hb mD_Se_hideNothing_9 rfl (lv_at hl 0 rfl) ?_
        refine lv_aload_n hx hb mD_Se_hideNothing_10 rfl (lv_at hl 3 rfl) ?_
        refine gc_Vi (As := []) (rest := [.int (nI n), .ref (ad k)]) hx hb hml hown htw hK hP hS 1 (k_So_draw l D ct ad hI y) gZ0_ok (fun _ _ _ => trivial) (gA_mono hS.1) (by decide) rfl rfl ww_188 ww_189 ww_190 ww_24 wC_So_draw mP_So_draw (by decide) rfl hl.1 rfl (Nat.le_of_ble_eq_true rfl) mD_Se_hideNothing_11 ⟨Nat.le_of_ble_eq_true rfl, Nat.le_of_ble_eq_true rfl⟩ (fun r4 x3 H locs hp3 hP _ _ hS => ?_)
        refine t_iast hx hb hK hI hA hP hS k 64 (tPair_lt hk) (fun _ => tE_pair hk) n rfl (by omega) (by decide) mD_Se_hideNothing_14 (fun H locs hP hS => ?_)
        obtain ⟨x5, hx5⟩ : ∃ z, z = tU x3 k (upd (x3.1 k) n r4) := ⟨_, rfl⟩
        rw [← hx5] at hP
        refine lv_aload_n hx hb mD_Se_hideNothing_15 rfl (lv_at hl 2 rfl) ?_
        refine lv_bipush (v := nI 32) hx hb mD_Se_hideNothing_16 (by decide) ?_
        refine lv_iload_n hx hb mD_Se_hideNothing_18 rfl (lv_at hl 0 rfl) ?_
        refine lv_iadd hx hb mD_Se_hideNothing_19 ?_
        refine lv_aload_n hx hb mD_Se_hideNothing_20 rfl (lv_at hl 3 rfl) ?_
        refine lv_iconst (v := nI 3) hx hb mD_Se_hideNothing_21 (by decide) ?_
        refine gc_Vi (As := [.int (nI 3)]) (rest := [.int ((nI 32) + (nI n)), .ref (ad k)]) hx hb hml hown htw hK hP hS 1 (k_So_drawNoise3 l D ct ad hI x5) gZ0_ok (fun _ _ _ => trivial) (gA_mono hS.1) (by decide) rfl rfl ww_207 ww_208 ww_209 ww_24 wC_So_drawNoise mP_So_drawNoise (by decide) rfl hl.1 rfl (Nat.le_of_ble_eq_true rfl) mD_Se_hideNothing_22 ⟨Nat.le_of_ble_eq_true rfl, Nat.le_of_ble_eq_true rfl⟩ (fun r7 x6 H locs hp6 hP _ _ hS => ?_)
        refine t_iast hx hb hK hI hA hP hS k 64 (tPair_lt hk) (fun _ => tE_pair hk) ((32 + n)) (nI_add _ _) (by omega) (by decide) mD_Se_hideNothing_25 (fun H locs hP hS => ?_)
        obtain ⟨x8, hx8⟩ : ∃ z, z = tU x6 k (upd (x6.1 k) ((32 + n)) r7) := ⟨_, rfl⟩
        rw [← hx8] at hP
        refine lv_iinc (k := 0) (v := nI (n + 1)) (lv' := [(3, .int (nI (n + 1))), (0, .ref (ad 2)), (1, .ref (ad k)), (2, .ref (ad 1))]) hx hb mD_Se_hideNothing_26 hl rfl (by rw [lit1, nI_1]) (by decide) rfl (fun ls hl => ?_)
        refine lv_goto (tgt := 2) hx hb mD_Se_hideNothing_29 rfl ?_
        exact ih (d - 1) (by omega) (n + 1) x8 _ _ _ (by omega) (lv_sub hl [0, 1, 2, 3] rfl) hP hS (by obtain ⟨g, hg, hb9⟩ := hinv; exact ⟨upd (upd g n _) (32 + n) _, by rw [hx8, tU_f, hp6.1, hx5, tU_f, hp3, hg, bx_uu, bx_uu, va_up_self, va_up_self], fun i hi => by by_cases q : i = n; rw [q, pk_us]; exact hp6.2; rw [pk_un (by omega), pk_un (by omega)]; exact hb9 i (by omega)⟩)
  exact loop 32 0 x _ _ _ (by omega) hl hP hS ⟨x.1 k, va_up_same.symm, fun _ h => absurd h (Nat.not_lt_zero _)⟩
