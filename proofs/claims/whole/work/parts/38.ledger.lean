/-! cells; the ledger; the circuit. Laid by wip/whole/part_ledger.py. -/
theorem tb_idx {a : Int32} {N : Nat} (hN : N < 2 ^ 31) (h0 : ¬ a < 0) (h1 : ¬ nI N ≤ a) : ∃ q, q < N ∧ a = nI q := by
  rcases pk_ix a hN with h | h | h
  · exact absurd h h0
  · exact absurd h h1
  · exact h
theorem tb_nar {v : Int32} (h : tp_bit v) : narrow .boolean (.int v) = .int v ∧ fits .boolean (.int v) = true := by
  rcases h with rfl | rfl <;> exact ⟨rfl, rfl⟩
theorem tb_up2 {f : Nat → Nat → Int32} {k j : Nat} {a b c : Nat → Int32} (h : k ≠ j) : va_up (va_up (va_up f k a) j b) k c = va_up (va_up f k c) j b := by
  funext q
  by_cases h1 : q = k
  · rw [h1, va_up_self, va_up_ne _ _ h, va_up_self]
  · rw [va_up_ne _ _ h1]
    by_cases h2 : q = j
    · rw [h2, va_up_self, va_up_self]
    · rw [va_up_ne _ _ h2, va_up_ne _ _ h2, va_up_ne _ _ h1, va_up_ne _ _ h1]
theorem tb_swap {f : Nat → Nat → Int32} {k j : Nat} {a b : Nat → Int32} (h : k ≠ j) : va_up (va_up f k a) j b = va_up (va_up f j b) k a := by
  funext q
  by_cases h1 : q = k
  · rw [h1, va_up_self, va_up_ne _ _ h, va_up_self]
  · rw [va_up_ne _ _ h1]
    by_cases h2 : q = j
    · rw [h2, va_up_self, va_up_self]
    · rw [va_up_ne _ _ h2, va_up_ne _ _ h2, va_up_ne _ _ h1]
theorem tb_uu {f : Nat → Int32} {k : Nat} {a b : Int32} : upd (upd f k a) k b = upd f k b := by
  funext j
  by_cases h : j = k
  · rw [h, pk_us, pk_us]
  · rw [pk_un h, pk_un h, pk_un h]
theorem tb_led {j k : Nat} (h : j ≠ k) : 110 + 2 * j ≠ 110 + 2 * k := by omega
section TCP
variable {p : Program} {l : Launch} {e : Env} {R : Room} {s : State} {m : MethodId} {args : Array Value} {below : List Frame} {meth : Method} {c : Code} {H : Heap} {locs : List Loc} {cells slots : Nat} {Q : State → Prop}
variable {cc : ByteArray} {pc : Nat} {ls : Array Slot} {rest : List Value} {D : va_G} {ct : Nat → ClassId} {ad : Nat → Nat} {x : tS} {A : Nat → Prop} {H0 : Heap}
/-- System.arraycopy of a whole row -/
theorem t_copy9 (hx : p.tables.exec = Jvm.exec) (hb : c.code = cc) (hml : c.maxLocals = ls.size) (hown : s.vm.findClass cN_Ce = some m.cls) (htw : ∀ w ∈ wW, w.before args s = true) (hK : va_K D cL (tT ct) s) (hI : gw_inj 424 ad) (hA : ∀ k, k < 424 → A (ad k)) (hP : va_P D cL (gw 424 ad (tD ct ad x)) H) (hS : va_S A H0 H locs) {kf kt : Nat} (hf : tRow kf) (ht : tRow kt)
    (hframes : 1 ≤ R.frames) (hlocals : (rest.map fun v => v.category).sum + (nativeFrameWords "java/lang/System" "arraycopy" 5 + 11) ≤ R.locals) (hdg : decode cc pc = .ok (.invokestatic 15, 3))
    (kk : ∀ (H1 : Heap) (locs1 : List Loc), va_P D cL (gw 424 ad (tD ct ad (tU x kt (va_cpy (x.1 kf) (x.1 kt) 0 0 9)))) H1 → va_S A H0 H1 locs1 → W p l e R s m args below meth c H1 locs1 cells slots Q (F0 m (pc + 3) ls rest)) : W p l e R s m args below meth c H locs cells slots Q (F0 m pc ls (.int (nI 9) :: .int (nI 0) :: .ref (ad kt) :: .int (nI 0) :: .ref (ad kf) :: rest)) := by
  refine va_copyi hx hb hml hown (htw _ wX_lkcopy) (htw _ wX_natcopy) (htw _ wX_stcopy) (htw _ wX_inisys) hK hP (gw_D hI hA) hS kf kt 0 0 (gw_at' (tRow_lt hf) (tE_row (ct := ct) (ad := ad) (so := x.2) (f := x.1 kf) hf)) (gw_at' (tRow_lt ht) (tE_row (ct := ct) (ad := ad) (so := x.2) (f := x.1 kt) ht)) rfl rfl rfl (by decide) (by decide) (by decide) (by decide) (by decide) (fun _ _ => rfl) hframes hlocals hdg (fun H1 locs1 h1 _ h3 => kk H1 locs1 ?_ h3)
  rw [gw_set (tRow_lt ht)] at h1
  rw [← tD_up, tE_row ht]
  exact h1
end TCP

set_option maxHeartbeats 4000000 in
set_option maxRecDepth 100000 in
theorem k_Ce_addRow (l : Launch) (D : va_G) (ct : Nat → ClassId) (ad : Nat → Nat) (hI : gw_inj 424 ad) (x : tS) {kc ko : Nat} (hkc : tCe kc) (hko : tRow ko) (hne : ko ≠ kc + 1) : gMv l mY_Ce_addRow mB_Ce_addRow 3 none (rF 0 0) D (tT ct) gZ0 424 ad (tD ct ad) [.ref (ad kc), .ref (ad ko)] x (fun x' => ∃ g, x'.1 = va_up x.1 (kc + 1) g ∧ ∀ i, i < 9 → g i = x.1 (kc + 1) i + x.1 ko i) := by
  refine gMv_enter (by decide) (Nat.le_of_ble_eq_true rfl) ?_
  intro p e s m below meth c ls hx hb hr htw hown hlocks hml hl hP hK hZ hS
  have hA : ∀ k, k < 424 → gA 424 ad s.heap.size (ad k) := fun _ h => gA_in h
  have hl : lv_has ls 3 [(0, .ref (ad kc)), (1, .ref (ad ko))] := hl
  refine gw_nmQ (fun Q hQ => ?_)
  refine lv_iconst (v := nI 0) hx hb mD_Ce_addRow_0 (by decide) ?_
  refine lv_istore_n (lv' := [(2, .int (nI 0)), (0, .ref (ad kc)), (1, .ref (ad ko))]) hx hb mD_Ce_addRow_1 rfl hl (by decide) rfl (fun ls hl => ?_)
  have loop : ∀ (d2 : Nat) (n : Nat) (y : tS) (H : Heap) (locs : List Loc) (ls : Array Slot), n + d2 = 9 → lv_has ls 3 [(2, .int (nI n)), (0, .ref (ad kc)), (1, .ref (ad ko))] → va_P D cL (gw 424 ad (tD ct ad y)) H → va_S (gA 424 ad s.heap.size) s.heap H locs → (∃ g, y.1 = va_up x.1 (kc + 1) g ∧ (∀ i, i < n → g i = x.1 (kc + 1) i + x.1 ko i) ∧ ∀ i, n ≤ i → g i = x.1 (kc + 1) i) → W p l e (rF 0 0) s m [.ref (ad kc), .ref (ad ko)].toArray below meth c H locs 0 0 Q (F0 m 2 ls []) := by
    intro d2
    induction d2 using Nat.strongRecOn with
    | ind d2 ih =>
      intro n y H locs ls hd hl hP hS hinv
      refine lv_iload_n hx hb mD_Ce_addRow_2 rfl (lv_at hl 0 rfl) ?_
      refine lv_bipush (v := nI 9) hx hb mD_Ce_addRow_3 (by decide) ?_
      refine lv_icmp_ge (tgt := 26) hx hb mD_Ce_addRow_5 rfl (fun hc => ?_) (fun hc => ?_)
      · skip
        have hn : n = 9 := by have := ts_ge (by omega) (by omega) hc; omega
        subst hn
        subst hQ
        exact gw_vret hx hb hr hlocks hP hS (by obtain ⟨g, hg, h1, _⟩ := hinv; exact ⟨g, hg, h1⟩) mD_Ce_addRow_26 (Nat.zero_le _) (Nat.zero_le _)
      · skip
        have hn_n : n < 9 := ts_lt (by omega) (by omega) hc
        refine lv_aload_n hx hb mD_Ce_addRow_8 rfl (lv_at hl 1 rfl) ?_
        refine t_get (C := cN_Ce) (T := cF_Ce) (N := 4) (ci := 0) hx hb htw wU_Ce hown hK hP kc (tCe_lt hkc) (tE_cell hkc) rfl 0 (by decide) rfl ww_122 rfl mD_Ce_addRow_9 ?_
        refine lv_iload_n hx hb mD_Ce_addRow_12 rfl (lv_at hl 0 rfl) ?_
        refine lv_dup2_11 hx hb mD_Ce_addRow_13 rfl rfl ?_
        refine t_iald hx hb hK hP ((kc + 1)) 9 (tRow_lt (tCe_row hkc)) (tE_row (tCe_row hkc)) n rfl (by omega) (by decide) mD_Ce_addRow_14 ?_
        refine lv_aload_n hx hb mD_Ce_addRow_15 rfl (lv_at hl 2 rfl) ?_
        refine lv_iload_n hx hb mD_Ce_addRow_16 rfl (lv_at hl 0 rfl) ?_
        refine t_iald hx hb hK hP ko 9 (tRow_lt hko) (tE_row hko) n rfl (by omega) (by decide) mD_Ce_addRow_17 ?_
        refine lv_iadd hx hb mD_Ce_addRow_18 ?_
        refine t_iast hx hb hK hI hA hP hS ((kc + 1)) 9 (tRow_lt (tCe_row hkc)) (fun _ => tE_row (tCe_row hkc)) n rfl (by omega) (by decide) mD_Ce_addRow_19 (fun H locs hP hS => ?_)
        obtain ⟨x1, hx1⟩ : ∃ z, z = tU y ((kc + 1)) (upd (y.1 ((kc + 1))) n ((y.1 ((kc + 1)) n) + (y.1 ko n))) := ⟨_, rfl⟩
        rw [← hx1] at hP
        refine lv_iinc (k := 0) (v := nI (n + 1)) (lv' := [(2, .int (nI (n + 1))), (0, .ref (ad kc)), (1, .ref (ad ko))]) hx hb mD_Ce_addRow_20 hl rfl (by rw [lit1, nI_1]) (by decide) rfl (fun ls hl => ?_)
        refine lv_goto (tgt := 2) hx hb mD_Ce_addRow_23 rfl ?_
        exact ih (d2 - 1) (by omega) (n + 1) x1 _ _ _ (by omega) (lv_sub hl [0, 1, 2] rfl) hP hS (by obtain ⟨g, hg, h1, h2⟩ := hinv; have ed : y.1 (kc + 1) = g := (by rw [hg, va_up_self]); have er : y.1 ko = x.1 ko := (by rw [hg, va_up_ne _ _ hne]); exact ⟨upd g n (g n + x.1 ko n), by rw [hx1, tU_f, ed, er, hg, bx_uu], fun i hi => by by_cases q : i = n; rw [q, pk_us, h2 n (Nat.le_refl _)]; rw [pk_un q]; exact h1 i (by omega), fun i hi => by rw [pk_un (by omega)]; exact h2 i (by omega)⟩)
  exact loop 9 0 x _ _ _ (by omega) hl hP hS ⟨x.1 (kc + 1), va_up_same.symm, fun _ h => absurd h (Nat.not_lt_zero _), fun _ _ => rfl⟩

set_option maxHeartbeats 4000000 in
set_option maxRecDepth 100000 in
theorem k_Ce_multiply (l : Launch) (D : va_G) (ct : Nat → ClassId) (ad : Nat → Nat) (hI : gw_inj 424 ad) (x : tS) {kc : Nat} (hkc : tCe kc) (tm : Int32) : gMv l mY_Ce_multiply mB_Ce_multiply 3 none (rF 0 0) D (tT ct) gZ0 424 ad (tD ct ad) [.ref (ad kc), .int tm] x (fun x' => ∃ g, x'.1 = va_up x.1 (kc + 1) g ∧ ∀ i, i < 9 → g i = x.1 (kc + 1) i * tm) := by
  refine gMv_enter (by decide) (Nat.le_of_ble_eq_true rfl) ?_
  intro p e s m below meth c ls hx hb hr htw hown hlocks hml hl hP hK hZ hS
  have hA : ∀ k, k < 424 → gA 424 ad s.heap.size (ad k) := fun _ h => gA_in h
  have hl : lv_has ls 3 [(0, .ref (ad kc)), (1, .int tm)] := hl
  refine gw_nmQ (fun Q hQ => ?_)
  refine lv_iconst (v := nI 0) hx hb mD_Ce_multiply_0 (by decide) ?_
  refine lv_istore_n (lv' := [(2, .int (nI 0)), (0, .ref (ad kc)), (1, .int tm)]) hx hb mD_Ce_multiply_1 rfl hl (by decide) rfl (fun ls hl => ?_)
  have loop : ∀ (d2 : Nat) (n : Nat) (y : tS) (H : Heap) (locs : List Loc) (ls : Array Slot), n + d2 = 9 → lv_has ls 3 [(2, .int (nI n)), (0, .ref (ad kc)), (1, .int tm)] → va_P D cL (gw 424 ad (tD ct ad y)) H → va_S (gA 424 ad s.heap.size) s.heap H locs → (∃ g, y.1 = va_up x.1 (kc + 1) g ∧ (∀ i, i < n → g i = x.1 (kc + 1) i * tm) ∧ ∀ i, n ≤ i → g i = x.1 (kc + 1) i) → W p l e (rF 0 0) s m [.ref (ad kc), .int tm].toArray below meth c H locs 0 0 Q (F0 m 2 ls []) := by
    intro d2
    induction d2 using Nat.strongRecOn with
    | ind d2 ih =>
      intro n y H locs ls hd hl hP hS hinv
      refine lv_iload_n hx hb mD_Ce_multiply_2 rfl (lv_at hl 0 rfl) ?_
      refine lv_bipush (v := nI 9) hx hb mD_Ce_multiply_3 (by decide) ?_
      refine lv_icmp_ge (tgt := 24) hx hb mD_Ce_multiply_5 rfl (fun hc => ?_) (fun hc => ?_)
      · skip
        have hn : n = 9 := by have := ts_ge (by omega) (by omega) hc; omega
        subst hn
        subst hQ
        exact gw_vret hx hb hr hlocks hP hS (by obtain ⟨g, hg, h1, _⟩ := hinv; exact ⟨g, hg, h1⟩) mD_Ce_multiply_24 (Nat.zero_le _) (Nat.zero_le _)
      · skip
        have hn_n : n < 9 := ts_lt (by omega) (by omega) hc
        refine lv_aload_n hx hb mD_Ce_multiply_8 rfl (lv_at hl 1 rfl) ?_
        refine t_get (C := cN_Ce) (T := cF_Ce) (N := 4) (ci := 0) hx hb htw wU_Ce hown hK hP kc (tCe_lt hkc) (tE_cell hkc) rfl 0 (by decide) rfl ww_122 rfl mD_Ce_multiply_9 ?_
        refine lv_iload_n hx hb mD_Ce_multiply_12 rfl (lv_at hl 0 rfl) ?_
        refine lv_dup2_11 hx hb mD_Ce_multiply_13 rfl rfl ?_
        refine t_iald hx hb hK hP ((kc + 1)) 9 (tRow_lt (tCe_row hkc)) (tE_row (tCe_row hkc)) n rfl (by omega) (by decide) mD_Ce_multiply_14 ?_
        refine lv_iload_n hx hb mD_Ce_multiply_15 rfl (lv_at hl 2 rfl) ?_
        refine lv_imul hx hb mD_Ce_multiply_16 ?_
        refine t_iast hx hb hK hI hA hP hS ((kc + 1)) 9 (tRow_lt (tCe_row hkc)) (fun _ => tE_row (tCe_row hkc)) n rfl (by omega) (by decide) mD_Ce_multiply_17 (fun H locs hP hS => ?_)
        obtain ⟨x1, hx1⟩ : ∃ z, z = tU y ((kc + 1)) (upd (y.1 ((kc + 1))) n ((y.1 ((kc + 1)) n) * tm)) := ⟨_, rfl⟩
        rw [← hx1] at hP
        refine lv_iinc (k := 0) (v := nI (n + 1)) (lv' := [(2, .int (nI (n + 1))), (0, .ref (ad kc)), (1, .int tm)]) hx hb mD_Ce_multiply_18 hl rfl (by rw [lit1, nI_1]) (by decide) rfl (fun ls hl => ?_)
        refine lv_goto (tgt := 2) hx hb mD_Ce_multiply_21 rfl ?_
        exact ih (d2 - 1) (by omega) (n + 1) x1 _ _ _ (by omega) (lv_sub hl [0, 1, 2] rfl) hP hS (by obtain ⟨g, hg, h1, h2⟩ := hinv; have ed : y.1 (kc + 1) = g := (by rw [hg, va_up_self]); exact ⟨upd g n (g n * tm), by rw [hx1, tU_f, ed, hg, bx_uu], fun i hi => by by_cases q : i = n; rw [q, pk_us, h2 n (Nat.le_refl _)]; rw [pk_un q]; exact h1 i (by omega), fun i hi => by rw [pk_un (by omega)]; exact h2 i (by omega)⟩)
  exact loop 9 0 x _ _ _ (by omega) hl hP hS ⟨x.1 (kc + 1), va_up_same.symm, fun _ h => absurd h (Nat.not_lt_zero _), fun _ _ => rfl⟩

set_option maxHeartbeats 4000000 in
set_option maxRecDepth 100000 in
theorem k_Ce_becomeLike (l : Launch) (D : va_G) (ct : Nat → ClassId) (ad : Nat → Nat) (hI : gw_inj 424 ad) (x : tS) {kc ko : Nat} (hkc : tCe kc) (hko : tCe ko) (hne : kc ≠ ko) (hdue : tp_bit (x.1 ko 2)) : gMv l mY_Ce_becomeLike mB_Ce_becomeLike 2 none (rF 1 64) D (tT ct) gZ0 424 ad (tD ct ad) [.ref (ad kc), .ref (ad ko)] x (fun x' => ∃ g, x'.1 = va_up (va_up x.1 (kc + 1) g) kc (upd (upd (x.1 kc) 1 (x.1 ko 1)) 2 (x.1 ko 2)) ∧ ∀ i, i < 9 → g i = x.1 (ko + 1) i) := by
  refine gMv_enter (by decide) (Nat.le_of_ble_eq_true rfl) ?_
  intro p e s m below meth c ls hx hb hr htw hown hlocks hml hl hP hK hZ hS
  have hA : ∀ k, k < 424 → gA 424 ad s.heap.size (ad k) := fun _ h => gA_in h
  have hl : lv_has ls 2 [(0, .ref (ad kc)), (1, .ref (ad ko))] := hl
  refine lv_aload_n hx hb mD_Ce_becomeLike_0 rfl (lv_at hl 1 rfl) ?_
  refine t_get (C := cN_Ce) (T := cF_Ce) (N := 4) (ci := 0) hx hb htw wU_Ce hown hK hP ko (tCe_lt hko) (tE_cell hko) rfl 0 (by decide) rfl ww_122 rfl mD_Ce_becomeLike_1 ?_
  refine lv_iconst (v := nI 0) hx hb mD_Ce_becomeLike_4 (by decide) ?_
  refine lv_aload_n hx hb mD_Ce_becomeLike_5 rfl (lv_at hl 0 rfl) ?_
  refine t_get (C := cN_Ce) (T := cF_Ce) (N := 4) (ci := 0) hx hb htw wU_Ce hown hK hP kc (tCe_lt hkc) (tE_cell hkc) rfl 0 (by decide) rfl ww_122 rfl mD_Ce_becomeLike_6 ?_
  refine lv_iconst (v := nI 0) hx hb mD_Ce_becomeLike_9 (by decide) ?_
  refine lv_bipush (v := nI 9) hx hb mD_Ce_becomeLike_10 (by decide) ?_
  refine t_copy9 (kf := ko + 1) (kt := kc + 1) hx hb (hml.trans hl.1.symm) hown htw hK hI hA hP hS (tCe_row hko) (tCe_row hkc) (by decide) (by decide) mD_Ce_becomeLike_12 (fun H locs hP hS => ?_)
  obtain ⟨x1, hx1⟩ : ∃ z, z = tU x (kc + 1) (va_cpy (x.1 (ko + 1)) (x.1 (kc + 1)) 0 0 9) := ⟨_, rfl⟩
  rw [← hx1] at hP
  have e1 : ∀ k, k ≠ kc + 1 → x1.1 k = x.1 k := fun k h => by rw [hx1, tU_n h]
  refine lv_aload_n hx hb mD_Ce_becomeLike_15 rfl (lv_at hl 0 rfl) ?_
  refine lv_aload_n hx hb mD_Ce_becomeLike_16 rfl (lv_at hl 1 rfl) ?_
  refine t_get (C := cN_Ce) (T := cF_Ce) (N := 4) (ci := 0) hx hb htw wU_Ce hown hK hP ko (tCe_lt hko) (tE_cell hko) rfl 1 (by decide) rfl ww_124 rfl mD_Ce_becomeLike_17 ?_
  refine t_put (C := cN_Ce) (T := cF_Ce) (N := 4) (ci := 0) hx hb htw wU_Ce cT_Ce cO_Ce cM_Ce hown hK hI hA hP hS kc (tCe_lt hkc) (tE_cell hkc) rfl 1 (by decide) rfl ww_124 rfl rfl rfl (Nat.le_of_ble_eq_true rfl) (by rw [tE_cell hkc]; rfl) mD_Ce_becomeLike_20 (fun H locs hP hS => ?_)
  obtain ⟨x2, hx2⟩ : ∃ z, z = tU x1 kc (upd (x1.1 kc) 1 (x1.1 ko 1)) := ⟨_, rfl⟩
  rw [← hx2] at hP
  refine lv_aload_n hx hb mD_Ce_becomeLike_23 rfl (lv_at hl 0 rfl) ?_
  refine lv_aload_n hx hb mD_Ce_becomeLike_24 rfl (lv_at hl 1 rfl) ?_
  refine t_get (C := cN_Ce) (T := cF_Ce) (N := 4) (ci := 0) hx hb htw wU_Ce hown hK hP ko (tCe_lt hko) (tE_cell hko) rfl 2 (by decide) rfl ww_127 rfl mD_Ce_becomeLike_25 ?_
  refine t_put (C := cN_Ce) (T := cF_Ce) (N := 4) (ci := 0) hx hb htw wU_Ce cT_Ce cO_Ce cM_Ce hown hK hI hA hP hS kc (tCe_lt hkc) (tE_cell hkc) rfl 2 (by decide) rfl ww_127 rfl (tb_nar (by rw [hx2, tU_n hne.symm, e1 _ (tb_cr hko hkc)]; exact hdue)).1 (tb_nar (by rw [hx2, tU_n hne.symm, e1 _ (tb_cr hko hkc)]; exact hdue)).2 (Nat.le_of_ble_eq_true rfl) (by rw [tE_cell hkc]; rfl) mD_Ce_becomeLike_28 (fun H locs hP hS => ?_)
  obtain ⟨x3, hx3⟩ : ∃ z, z = tU x2 kc (upd (x2.1 kc) 2 (x2.1 ko 2)) := ⟨_, rfl⟩
  rw [← hx3] at hP
  exact gw_vret hx hb hr hlocks hP hS (⟨va_cpy (x.1 (ko + 1)) (x.1 (kc + 1)) 0 0 9, by rw [hx3, tU_f, hx2, tU_f, hx1, tU_f, bx_uu, va_up_self, va_up_ne _ _ (tb_cr hkc hkc), va_up_ne _ _ (tb_cr hko hkc), va_up_ne _ _ hne.symm, va_up_ne _ _ (tb_cr hko hkc)], fun i hi => by unfold va_cpy; rw [if_pos (by omega), show 0 + (i - 0) = i by omega]⟩) mD_Ce_becomeLike_31 (Nat.zero_le _) (Nat.zero_le _)

set_option maxHeartbeats 4000000 in
set_option maxRecDepth 100000 in
theorem k_Ce_becomeOpposite (l : Launch) (D : va_G) (ct : Nat → ClassId) (ad : Nat → Nat) (hI : gw_inj 424 ad) (x : tS) {kc ko : Nat} (hkc : tCe kc) (hko : tCe ko) (hne : kc ≠ ko) (hdue : tp_bit (x.1 ko 2)) : gMv l mY_Ce_becomeOpposite mB_Ce_becomeOpposite 2 none (rF 2 85) D (tT ct) gZ0 424 ad (tD ct ad) [.ref (ad kc), .ref (ad ko)] x (fun x' => ∃ g, x'.1 = va_up (va_up x.1 (kc + 1) g) kc (upd (upd (x.1 kc) 1 (x.1 ko 1)) 2 (if x.1 ko 2 = 0 then 1 else 0)) ∧ ∀ i, i < 9 → g i = x.1 (ko + 1) i * (-1)) := by
  refine gMv_enter (by decide) (Nat.le_of_ble_eq_true rfl) ?_
  intro p e s m below meth c ls hx hb hr htw hown hlocks hml hl hP hK hZ hS
  have hA : ∀ k, k < 424 → gA 424 ad s.heap.size (ad k) := fun _ h => gA_in h
  have hl : lv_has ls 2 [(0, .ref (ad kc)), (1, .ref (ad ko))] := hl
  refine lv_aload_n hx hb mD_Ce_becomeOpposite_0 rfl (lv_at hl 0 rfl) ?_
  refine lv_aload_n hx hb mD_Ce_becomeOpposite_1 rfl (lv_at hl 1 rfl) ?_
  refine gc_Vv (As := [.ref (ad ko)]) (rest := []) hx hb hml hown htw hK hP hS kc (k_Ce_becomeLike l D ct ad hI x (kc := kc) (ko := ko) hkc hko hne hdue) gZ0_ok (fun _ _ _ => trivial) (gA_mono hS.1) (tCe_lt hkc) (tE_cell hkc) rfl ww_420 ww_421 ww_422 ww_29 wC_Ce_becomeLike mP_Ce_becomeLike (by decide) rfl hl.1 rfl (Nat.le_of_ble_eq_true rfl) mD_Ce_becomeOpposite_2 ⟨Nat.le_of_ble_eq_true rfl, Nat.le_of_ble_eq_true rfl⟩ (fun x1 H locs hp1 hP _ _ hS => ?_)
  obtain ⟨g, eg, hg⟩ := hp1
  refine lv_aload_n hx hb mD_Ce_becomeOpposite_5 rfl (lv_at hl 0 rfl) ?_
  refine lv_iconst (v := (-1)) hx hb mD_Ce_becomeOpposite_6 (by decide) ?_
  refine gc_Vv (As := [.int ((-1))]) (rest := []) hx hb hml hown htw hK hP hS kc (k_Ce_multiply l D ct ad hI x1 (kc := kc) hkc (-1)) gZ0_ok (fun _ _ _ => trivial) (gA_mono hS.1) (tCe_lt hkc) (tE_cell hkc) rfl ww_427 ww_428 ww_429 ww_29 wC_Ce_multiply mP_Ce_multiply (by decide) rfl hl.1 rfl (Nat.le_of_ble_eq_true rfl) mD_Ce_becomeOpposite_7 ⟨Nat.le_of_ble_eq_true rfl, Nat.le_of_ble_eq_true rfl⟩ (fun x3 H locs hp3 hP _ _ hS => ?_)
  obtain ⟨g2, eg2, hg2⟩ := hp3
  have e2 : x3.1 = va_up (va_up x.1 (kc + 1) g2) kc (upd (upd (x.1 kc) 1 (x.1 ko 1)) 2 (x.1 ko 2)) := by rw [eg2, eg, tb_up2 (tb_cr hkc hkc).symm]
  have eo : x3.1 ko = x.1 ko := by rw [e2, va_up_ne _ _ hne.symm, va_up_ne _ _ (tb_cr hko hkc)]
  have hg3 : ∀ i, i < 9 → g2 i = x.1 (ko + 1) i * (-1) := fun i hi => by rw [hg2 i hi, eg, va_up_ne _ _ (tb_cr hkc hkc).symm, va_up_self, hg i hi]
  refine lv_aload_n hx hb mD_Ce_becomeOpposite_10 rfl (lv_at hl 0 rfl) ?_
  refine lv_aload_n hx hb mD_Ce_becomeOpposite_11 rfl (lv_at hl 1 rfl) ?_
  refine t_get (C := cN_Ce) (T := cF_Ce) (N := 4) (ci := 0) hx hb htw wU_Ce hown hK hP ko (tCe_lt hko) (tE_cell hko) rfl 2 (by decide) rfl ww_127 rfl mD_Ce_becomeOpposite_12 ?_
  refine lv_if_ne (tgt := 22) hx hb mD_Ce_becomeOpposite_15 rfl (fun hc => ?_) (fun hc => ?_)
  · skip
    rw [eo] at hc
    refine lv_iconst (v := nI 0) hx hb mD_Ce_becomeOpposite_22 (by decide) ?_
    refine t_put (C := cN_Ce) (T := cF_Ce) (N := 4) (ci := 0) hx hb htw wU_Ce cT_Ce cO_Ce cM_Ce hown hK hI hA hP hS kc (tCe_lt hkc) (tE_cell hkc) rfl 2 (by decide) rfl ww_127 rfl rfl rfl (Nat.le_of_ble_eq_true rfl) (by rw [tE_cell hkc]; rfl) mD_Ce_becomeOpposite_23 (fun H locs hP hS => ?_)
    obtain ⟨x5, hx5⟩ : ∃ z, z = tU x3 kc (upd (x3.1 kc) 2 (nI 0)) := ⟨_, rfl⟩
    rw [← hx5] at hP
    exact gw_vret hx hb hr hlocks hP hS (⟨g2, by rw [hx5, tU_f, e2, bx_uu, va_up_self]; rw [tb_uu]; (first | rw [if_pos hc] | rw [if_neg hc]); rfl, hg3⟩) mD_Ce_becomeOpposite_26 (Nat.zero_le _) (Nat.zero_le _)
  · skip
    rw [eo] at hc
    refine lv_iconst (v := nI 1) hx hb mD_Ce_becomeOpposite_18 (by decide) ?_
    refine lv_goto (tgt := 23) hx hb mD_Ce_becomeOpposite_19 rfl ?_
    refine t_put (C := cN_Ce) (T := cF_Ce) (N := 4) (ci := 0) hx hb htw wU_Ce cT_Ce cO_Ce cM_Ce hown hK hI hA hP hS kc (tCe_lt hkc) (tE_cell hkc) rfl 2 (by decide) rfl ww_127 rfl rfl rfl (Nat.le_of_ble_eq_true rfl) (by rw [tE_cell hkc]; rfl) mD_Ce_becomeOpposite_23 (fun H locs hP hS => ?_)
    obtain ⟨x6, hx6⟩ : ∃ z, z = tU x3 kc (upd (x3.1 kc) 2 (nI 1)) := ⟨_, rfl⟩
    rw [← hx6] at hP
    exact gw_vret hx hb hr hlocks hP hS (⟨g2, by rw [hx6, tU_f, e2, bx_uu, va_up_self]; rw [tb_uu]; (first | rw [if_pos hc] | rw [if_neg hc]); rfl, hg3⟩) mD_Ce_becomeOpposite_26 (Nat.zero_le _) (Nat.zero_le _)

/-- the bit a is there -/
def tHas (v : Nat → Nat → Int32) (a : Int32) : Prop := ∃ q, q < 120 ∧ a = nI q ∧ v (110 + 2 * q) 3 ≠ 0
theorem tHas_i {v : Nat → Nat → Int32} {q : Nat} (hq : q < 120) : tHas v (nI q) ↔ v (110 + 2 * q) 3 ≠ 0 := by
  constructor
  · rintro ⟨j, hj, e, h⟩
    rw [(nI_eq (by omega) (by omega)).mp e]
    exact h
  · intro h
    exact ⟨q, hq, rfl, h⟩
theorem tHas_lt {v : Nat → Nat → Int32} {a : Int32} (h : a < 0) : ¬ tHas v a := by
  rintro ⟨j, hj, rfl, -⟩
  exact nI_pos (by omega) h
theorem tHas_ge {v : Nat → Nat → Int32} {a : Int32} (h : nI 120 ≤ a) : ¬ tHas v a := by
  rintro ⟨j, hj, rfl, -⟩
  have := (nI_leI (by omega) (by omega)).mp h
  omega
def tGB (v : Nat → Nat → Int32) : Nat → Int32
  | 0 => 0
  | n + 1 => if v (110 + 2 * n) 3 ≠ 0 ∧ ¬ v (110 + 2 * n) 1 ≤ tGB v n then v (110 + 2 * n) 1 else tGB v n

set_option maxHeartbeats 4000000 in
set_option maxRecDepth 100000 in
theorem k_Le_holds (l : Launch) (D : va_G) (ct : Nat → ClassId) (ad : Nat → Nat) (hI : gw_inj 424 ad) (x : tS) (a : Int32) : gMi l mY_Le_holds mB_Le_holds 2 (some .boolean) (rF 0 0) D (tT ct) gZ0 424 ad (tD ct ad) [.ref (ad 108), .int a] x (fun r x' => x' = x ∧ ((r = nI 1 ∧ tHas x.1 a) ∨ (r = nI 0 ∧ ¬ tHas x.1 a))) := by
  refine gMi_enter (by decide) (Nat.le_of_ble_eq_true rfl) ?_
  intro p e s m below meth c ls hx hb hr htw hown hlocks hml hl hP hK hZ hS
  have hA : ∀ k, k < 424 → gA 424 ad s.heap.size (ad k) := fun _ h => gA_in h
  have hl : lv_has ls 2 [(0, .ref (ad 108)), (1, .int a)] := hl
  refine lv_iload_n hx hb mD_Le_holds_0 rfl (lv_at hl 1 rfl) ?_
  refine lv_if_lt (tgt := 26) hx hb mD_Le_holds_1 rfl (fun h0 => ?_) (fun h0 => ?_)
  · skip
    refine lv_iconst (v := nI 0) hx hb mD_Le_holds_26 (by decide) ?_
    exact gw_zret hx hb hr hlocks hP hS rfl (⟨rfl, by first | exact Or.inr ⟨rfl, tHas_lt h0⟩ | exact Or.inr ⟨rfl, tHas_ge h1⟩ | exact Or.inr ⟨rfl, fun z => (tHas_i hq).mp z h2⟩ | exact Or.inl ⟨rfl, (tHas_i hq).mpr h2⟩⟩) mD_Le_holds_27 (Nat.zero_le _) (Nat.zero_le _)
  · skip
    refine lv_iload_n hx hb mD_Le_holds_4 rfl (lv_at hl 1 rfl) ?_
    refine lv_bipush (v := nI 120) hx hb mD_Le_holds_5 (by decide) ?_
    refine lv_icmp_ge (tgt := 26) hx hb mD_Le_holds_7 rfl (fun h1 => ?_) (fun h1 => ?_)
    · skip
      refine lv_iconst (v := nI 0) hx hb mD_Le_holds_26 (by decide) ?_
      exact gw_zret hx hb hr hlocks hP hS rfl (⟨rfl, by first | exact Or.inr ⟨rfl, tHas_lt h0⟩ | exact Or.inr ⟨rfl, tHas_ge h1⟩ | exact Or.inr ⟨rfl, fun z => (tHas_i hq).mp z h2⟩ | exact Or.inl ⟨rfl, (tHas_i hq).mpr h2⟩⟩) mD_Le_holds_27 (Nat.zero_le _) (Nat.zero_le _)
    · skip
      obtain ⟨q, hq, hqa⟩ := tb_idx (by decide) h0 h1
      subst hqa
      refine lv_aload_n hx hb mD_Le_holds_10 rfl (lv_at hl 0 rfl) ?_
      refine t_get (C := cN_Le) (T := cF_Le) (N := 2) (ci := 2) hx hb htw wU_Le hown hK hP 108 (by decide) rfl rfl 0 (by decide) rfl ww_139 rfl mD_Le_holds_11 ?_
      refine lv_iload_n hx hb mD_Le_holds_14 rfl (lv_at hl 1 rfl) ?_
      refine t_aldq hx hb hK hP 109 120 (by decide) rfl q rfl hq (by decide) rfl mD_Le_holds_15 ?_
      refine t_get (C := cN_Ce) (T := cF_Ce) (N := 4) (ci := 0) hx hb htw wU_Ce hown hK hP ((110 + 2 * q)) (tCe_lt (tCe_led (c := q) (by omega))) (tE_cell (tCe_led (c := q) (by omega))) rfl 3 (by decide) rfl ww_129 rfl mD_Le_holds_16 ?_
      refine lv_if_eq (tgt := 26) hx hb mD_Le_holds_19 rfl (fun h2 => ?_) (fun h2 => ?_)
      · skip
        refine lv_iconst (v := nI 0) hx hb mD_Le_holds_26 (by decide) ?_
        exact gw_zret hx hb hr hlocks hP hS rfl (⟨rfl, by first | exact Or.inr ⟨rfl, tHas_lt h0⟩ | exact Or.inr ⟨rfl, tHas_ge h1⟩ | exact Or.inr ⟨rfl, fun z => (tHas_i hq).mp z h2⟩ | exact Or.inl ⟨rfl, (tHas_i hq).mpr h2⟩⟩) mD_Le_holds_27 (Nat.zero_le _) (Nat.zero_le _)
      · skip
        refine lv_iconst (v := nI 1) hx hb mD_Le_holds_22 (by decide) ?_
        refine lv_goto (tgt := 27) hx hb mD_Le_holds_23 rfl ?_
        exact gw_zret hx hb hr hlocks hP hS rfl (⟨rfl, by first | exact Or.inr ⟨rfl, tHas_lt h0⟩ | exact Or.inr ⟨rfl, tHas_ge h1⟩ | exact Or.inr ⟨rfl, fun z => (tHas_i hq).mp z h2⟩ | exact Or.inl ⟨rfl, (tHas_i hq).mpr h2⟩⟩) mD_Le_holds_27 (Nat.zero_le _) (Nat.zero_le _)

set_option maxHeartbeats 4000000 in
set_option maxRecDepth 100000 in
theorem k_Le_leastFree (l : Launch) (D : va_G) (ct : Nat → ClassId) (ad : Nat → Nat) (hI : gw_inj 424 ad) (x : tS)  : gMi l mY_Le_leastFree mB_Le_leastFree 2 (some .int) (rF 0 0) D (tT ct) gZ0 424 ad (tD ct ad) [.ref (ad 108)] x (fun r x' => x' = x ∧ ((∃ q, q < 120 ∧ r = nI q ∧ x.1 (110 + 2 * q) 3 = 0 ∧ ∀ j, j < q → x.1 (110 + 2 * j) 3 ≠ 0) ∨ (r = -1 ∧ ∀ j, j < 120 → x.1 (110 + 2 * j) 3 ≠ 0))) := by
  refine gMi_enter (by decide) (Nat.le_of_ble_eq_true rfl) ?_
  intro p e s m below meth c ls hx hb hr htw hown hlocks hml hl hP hK hZ hS
  have hA : ∀ k, k < 424 → gA 424 ad s.heap.size (ad k) := fun _ h => gA_in h
  have hl : lv_has ls 2 [(0, .ref (ad 108))] := hl
  refine gw_nmQ (fun Q hQ => ?_)
  refine lv_iconst (v := nI 0) hx hb mD_Le_leastFree_0 (by decide) ?_
  refine lv_istore_n (lv' := [(1, .int (nI 0)), (0, .ref (ad 108))]) hx hb mD_Le_leastFree_1 rfl hl (by decide) rfl (fun ls hl => ?_)
  have loop : ∀ (d2 : Nat) (n : Nat) (H : Heap) (locs : List Loc) (ls : Array Slot), n + d2 = 120 → lv_has ls 2 [(1, .int (nI n)), (0, .ref (ad 108))] → va_P D cL (gw 424 ad (tD ct ad x)) H → va_S (gA 424 ad s.heap.size) s.heap H locs → (∀ j, j < n → x.1 (110 + 2 * j) 3 ≠ 0) → W p l e (rF 0 0) s m [.ref (ad 108)].toArray below meth c H locs 0 0 Q (F0 m 2 ls []) := by
    intro d2
    induction d2 using Nat.strongRecOn with
    | ind d2 ih =>
      intro n H locs ls hd hl hP hS hinv
      refine lv_iload_n hx hb mD_Le_leastFree_2 rfl (lv_at hl 0 rfl) ?_
      refine lv_bipush (v := nI 120) hx hb mD_Le_leastFree_3 (by decide) ?_
      refine lv_icmp_ge (tgt := 28) hx hb mD_Le_leastFree_5 rfl (fun hc => ?_) (fun hc => ?_)
      · skip
        have hn : n = 120 := by have := ts_ge (by omega) (by omega) hc; omega
        subst hn
        refine lv_iconst (v := (-1)) hx hb mD_Le_leastFree_28 (by decide) ?_
        subst hQ
        exact gw_iret hx hb hr hlocks hP hS (⟨rfl, Or.inr ⟨rfl, hinv⟩⟩) mD_Le_leastFree_29 (Nat.zero_le _) (Nat.zero_le _)
      · skip
        have hn_n : n < 120 := ts_lt (by omega) (by omega) hc
        refine lv_aload_n hx hb mD_Le_leastFree_8 rfl (lv_at hl 1 rfl) ?_
        refine t_get (C := cN_Le) (T := cF_Le) (N := 2) (ci := 2) hx hb htw wU_Le hown hK hP 108 (by decide) rfl rfl 0 (by decide) rfl ww_139 rfl mD_Le_leastFree_9 ?_
        refine lv_iload_n hx hb mD_Le_leastFree_12 rfl (lv_at hl 0 rfl) ?_
        refine t_aldq hx hb hK hP 109 120 (by decide) rfl n rfl (by omega) (by decide) rfl mD_Le_leastFree_13 ?_
        refine t_get (C := cN_Ce) (T := cF_Ce) (N := 4) (ci := 0) hx hb htw wU_Ce hown hK hP ((110 + 2 * n)) (tCe_lt (tCe_led (c := n) (by omega))) (tE_cell (tCe_led (c := n) (by omega))) rfl 3 (by decide) rfl ww_129 rfl mD_Le_leastFree_14 ?_
        refine lv_if_ne (tgt := 22) hx hb mD_Le_leastFree_17 rfl (fun h2 => ?_) (fun h2 => ?_)
        · skip
          refine lv_iinc (k := 0) (v := nI (n + 1)) (lv' := [(1, .int (nI (n + 1))), (0, .ref (ad 108))]) hx hb mD_Le_leastFree_22 hl rfl (by rw [lit1, nI_1]) (by decide) rfl (fun ls hl => ?_)
          refine lv_goto (tgt := 2) hx hb mD_Le_leastFree_25 rfl ?_
          exact ih (d2 - 1) (by omega) (n + 1) _ _ _ (by omega) (lv_sub hl [0, 1] rfl) hP hS (fun j hj => by by_cases q : j = n; rw [q]; exact h2; exact hinv j (by omega))
        · skip
          refine lv_iload_n hx hb mD_Le_leastFree_20 rfl (lv_at hl 0 rfl) ?_
          subst hQ
          exact gw_iret hx hb hr hlocks hP hS (⟨rfl, Or.inl ⟨n, hn_n, rfl, h2, hinv⟩⟩) mD_Le_leastFree_21 (Nat.zero_le _) (Nat.zero_le _)
  exact loop 120 0 _ _ _ (by omega) hl hP hS (fun _ h => absurd h (Nat.not_lt_zero _))

set_option maxHeartbeats 4000000 in
set_option maxRecDepth 100000 in
theorem k_Le_take (l : Launch) (D : va_G) (ct : Nat → ClassId) (ad : Nat → Nat) (hI : gw_inj 424 ad) (x : tS) {q : Nat} (hq : q < 120) : gMr l mY_Le_take mB_Le_take 3 (some (.object "TorusGates$Cell")) (rF 0 0) D (tT ct) gZ0 424 ad (tD ct ad) [.ref (ad 108), .int (nI q)] x (fun a x' => a = ad (110 + 2 * q) ∧ x'.1 = va_up (va_up x.1 (110 + 2 * q) (upd (x.1 (110 + 2 * q)) 3 1)) 108 (upd (x.1 108) 1 (x.1 108 1 + 1))) := by
  refine gMr_enter (by decide) (Nat.le_of_ble_eq_true rfl) ?_
  intro p e s m below meth c ls hx hb hr htw hown hlocks hml hl hP hK hZ hS
  have hA : ∀ k, k < 424 → gA 424 ad s.heap.size (ad k) := fun _ h => gA_in h
  have hl : lv_has ls 3 [(0, .ref (ad 108)), (1, .int (nI q))] := hl
  refine lv_aload_n hx hb mD_Le_take_0 rfl (lv_at hl 0 rfl) ?_
  refine t_get (C := cN_Le) (T := cF_Le) (N := 2) (ci := 2) hx hb htw wU_Le hown hK hP 108 (by decide) rfl rfl 0 (by decide) rfl ww_139 rfl mD_Le_take_1 ?_
  refine lv_iload_n hx hb mD_Le_take_4 rfl (lv_at hl 1 rfl) ?_
  refine t_aldq hx hb hK hP 109 120 (by decide) rfl q rfl hq (by decide) rfl mD_Le_take_5 ?_
  refine lv_astore_n (lv' := [(2, .ref (ad ((110 + 2 * q)))), (0, .ref (ad 108)), (1, .int (nI q))]) hx hb mD_Le_take_6 rfl hl (by decide) rfl (fun ls hl => ?_)
  refine lv_aload_n hx hb mD_Le_take_7 rfl (lv_at hl 0 rfl) ?_
  refine lv_iconst (v := nI 1) hx hb mD_Le_take_8 (by decide) ?_
  refine t_put (C := cN_Ce) (T := cF_Ce) (N := 4) (ci := 0) hx hb htw wU_Ce cT_Ce cO_Ce cM_Ce hown hK hI hA hP hS ((110 + 2 * q)) (tCe_lt (tCe_led (c := q) (by omega))) (tE_cell (tCe_led (c := q) (by omega))) rfl 3 (by decide) rfl ww_129 rfl rfl rfl (Nat.le_of_ble_eq_true rfl) (by rw [tE_cell (tCe_led (c := q) (by omega))]; rfl) mD_Le_take_9 (fun H locs hP hS => ?_)
  obtain ⟨x1, hx1⟩ : ∃ z, z = tU x ((110 + 2 * q)) (upd (x.1 ((110 + 2 * q))) 3 (nI 1)) := ⟨_, rfl⟩
  rw [← hx1] at hP
  refine lv_aload_n hx hb mD_Le_take_12 rfl (lv_at hl 1 rfl) ?_
  refine lv_dup hx hb mD_Le_take_13 rfl ?_
  refine t_get (C := cN_Le) (T := cF_Le) (N := 2) (ci := 2) hx hb htw wU_Le hown hK hP 108 (by decide) rfl rfl 1 (by decide) rfl ww_141 rfl mD_Le_take_14 ?_
  refine lv_iconst (v := nI 1) hx hb mD_Le_take_17 (by decide) ?_
  refine lv_iadd hx hb mD_Le_take_18 ?_
  refine t_put (C := cN_Le) (T := cF_Le) (N := 2) (ci := 2) hx hb htw wU_Le cT_Le cO_Le cM_Le hown hK hI hA hP hS 108 (by decide) rfl rfl 1 (by decide) rfl ww_141 rfl rfl rfl (Nat.le_of_ble_eq_true rfl) rfl mD_Le_take_19 (fun H locs hP hS => ?_)
  obtain ⟨x2, hx2⟩ : ∃ z, z = tU x1 108 (upd (x1.1 108) 1 ((x1.1 108 1) + (nI 1))) := ⟨_, rfl⟩
  rw [← hx2] at hP
  refine lv_aload_n hx hb mD_Le_take_22 rfl (lv_at hl 0 rfl) ?_
  exact gw_aret hx hb hr hlocks hP hS (⟨rfl, by rw [hx2, tU_f, hx1, tU_f, va_up_ne _ _ (show (108 : Nat) ≠ 110 + 2 * q by omega)]; rfl⟩) mD_Le_take_23 (Nat.zero_le _) (Nat.zero_le _)

set_option maxHeartbeats 4000000 in
set_option maxRecDepth 100000 in
theorem k_Le_remove (l : Launch) (D : va_G) (ct : Nat → ClassId) (ad : Nat → Nat) (hI : gw_inj 424 ad) (x : tS) {kc : Nat} (hkc : tCe kc) : gMv l mY_Le_remove mB_Le_remove 2 none (rF 0 0) D (tT ct) gZ0 424 ad (tD ct ad) [.ref (ad 108), .ref (ad kc)] x (fun x' => x'.1 = va_up (va_up x.1 kc (upd (x.1 kc) 3 0)) 108 (upd (x.1 108) 1 (x.1 108 1 - 1))) := by
  refine gMv_enter (by decide) (Nat.le_of_ble_eq_true rfl) ?_
  intro p e s m below meth c ls hx hb hr htw hown hlocks hml hl hP hK hZ hS
  have hA : ∀ k, k < 424 → gA 424 ad s.heap.size (ad k) := fun _ h => gA_in h
  have hl : lv_has ls 2 [(0, .ref (ad 108)), (1, .ref (ad kc))] := hl
  refine lv_aload_n hx hb mD_Le_remove_0 rfl (lv_at hl 1 rfl) ?_
  refine lv_iconst (v := nI 0) hx hb mD_Le_remove_1 (by decide) ?_
  refine t_put (C := cN_Ce) (T := cF_Ce) (N := 4) (ci := 0) hx hb htw wU_Ce cT_Ce cO_Ce cM_Ce hown hK hI hA hP hS kc (tCe_lt hkc) (tE_cell hkc) rfl 3 (by decide) rfl ww_129 rfl rfl rfl (Nat.le_of_ble_eq_true rfl) (by rw [tE_cell hkc]; rfl) mD_Le_remove_2 (fun H locs hP hS => ?_)
  obtain ⟨x1, hx1⟩ : ∃ z, z = tU x kc (upd (x.1 kc) 3 (nI 0)) := ⟨_, rfl⟩
  rw [← hx1] at hP
  refine lv_aload_n hx hb mD_Le_remove_5 rfl (lv_at hl 0 rfl) ?_
  refine lv_dup hx hb mD_Le_remove_6 rfl ?_
  refine t_get (C := cN_Le) (T := cF_Le) (N := 2) (ci := 2) hx hb htw wU_Le hown hK hP 108 (by decide) rfl rfl 1 (by decide) rfl ww_141 rfl mD_Le_remove_7 ?_
  refine lv_iconst (v := nI 1) hx hb mD_Le_remove_10 (by decide) ?_
  refine lv_isub hx hb mD_Le_remove_11 ?_
  refine t_put (C := cN_Le) (T := cF_Le) (N := 2) (ci := 2) hx hb htw wU_Le cT_Le cO_Le cM_Le hown hK hI hA hP hS 108 (by decide) rfl rfl 1 (by decide) rfl ww_141 rfl rfl rfl (Nat.le_of_ble_eq_true rfl) rfl mD_Le_remove_12 (fun H locs hP hS => ?_)
  obtain ⟨x2, hx2⟩ : ∃ z, z = tU x1 108 (upd (x1.1 108) 1 ((x1.1 108 1) - (nI 1))) := ⟨_, rfl⟩
  rw [← hx2] at hP
  exact gw_vret hx hb hr hlocks hP hS (by rw [hx2, tU_f, hx1, tU_f, va_up_ne _ _ (tb_ck hkc).2.2.2.2.2.2.1.symm]; rfl) mD_Le_remove_15 (Nat.zero_le _) (Nat.zero_le _)

set_option maxHeartbeats 4000000 in
set_option maxRecDepth 100000 in
theorem k_Le_removeAll (l : Launch) (D : va_G) (ct : Nat → ClassId) (ad : Nat → Nat) (hI : gw_inj 424 ad) (x : tS)  : gMi l mY_Le_removeAll mB_Le_removeAll 3 (some .int) (rF 0 0) D (tT ct) gZ0 424 ad (tD ct ad) [.ref (ad 108)] x (fun r x' => r = x.1 108 1 ∧ (∀ j, j < 120 → x'.1 (110 + 2 * j) = upd (x.1 (110 + 2 * j)) 3 0) ∧ x'.1 108 = upd (x.1 108) 1 0 ∧ ∀ k, k ≠ 108 → (∀ j, j < 120 → k ≠ 110 + 2 * j) → x'.1 k = x.1 k) := by
  refine gMi_enter (by decide) (Nat.le_of_ble_eq_true rfl) ?_
  intro p e s m below meth c ls hx hb hr htw hown hlocks hml hl hP hK hZ hS
  have hA : ∀ k, k < 424 → gA 424 ad s.heap.size (ad k) := fun _ h => gA_in h
  have hl : lv_has ls 3 [(0, .ref (ad 108))] := hl
  refine gw_nmQ (fun Q hQ => ?_)
  refine lv_aload_n hx hb mD_Le_removeAll_0 rfl (lv_at hl 0 rfl) ?_
  refine t_get (C := cN_Le) (T := cF_Le) (N := 2) (ci := 2) hx hb htw wU_Le hown hK hP 108 (by decide) rfl rfl 1 (by decide) rfl ww_141 rfl mD_Le_removeAll_1 ?_
  refine lv_istore_n (lv' := [(1, .int (x.1 108 1)), (0, .ref (ad 108))]) hx hb mD_Le_removeAll_4 rfl hl (by decide) rfl (fun ls hl => ?_)
  refine lv_iconst (v := nI 0) hx hb mD_Le_removeAll_5 (by decide) ?_
  refine lv_istore_n (lv' := [(2, .int (nI 0)), (1, .int (x.1 108 1)), (0, .ref (ad 108))]) hx hb mD_Le_removeAll_6 rfl hl (by decide) rfl (fun ls hl => ?_)
  have loop : ∀ (d7 : Nat) (n : Nat) (y : tS) (H : Heap) (locs : List Loc) (ls : Array Slot), n + d7 = 120 → lv_has ls 3 [(2, .int (nI n)), (1, .int (x.1 108 1)), (0, .ref (ad 108))] → va_P D cL (gw 424 ad (tD ct ad y)) H → va_S (gA 424 ad s.heap.size) s.heap H locs → ((∀ j, j < n → y.1 (110 + 2 * j) = upd (x.1 (110 + 2 * j)) 3 0) ∧ ∀ k, (∀ j, j < n → k ≠ 110 + 2 * j) → y.1 k = x.1 k) → W p l e (rF 0 0) s m [.ref (ad 108)].toArray below meth c H locs 0 0 Q (F0 m 7 ls []) := by
    intro d7
    induction d7 using Nat.strongRecOn with
    | ind d7 ih =>
      intro n y H locs ls hd hl hP hS hinv
      refine lv_iload_n hx hb mD_Le_removeAll_7 rfl (lv_at hl 0 rfl) ?_
      refine lv_bipush (v := nI 120) hx hb mD_Le_removeAll_8 (by decide) ?_
      refine lv_icmp_ge (tgt := 29) hx hb mD_Le_removeAll_10 rfl (fun hc => ?_) (fun hc => ?_)
      · skip
        have hn : n = 120 := by have := ts_ge (by omega) (by omega) hc; omega
        subst hn
        refine lv_aload_n hx hb mD_Le_removeAll_29 rfl (lv_at hl 2 rfl) ?_
        refine lv_iconst (v := nI 0) hx hb mD_Le_removeAll_30 (by decide) ?_
        refine t_put (C := cN_Le) (T := cF_Le) (N := 2) (ci := 2) hx hb htw wU_Le cT_Le cO_Le cM_Le hown hK hI hA hP hS 108 (by decide) rfl rfl 1 (by decide) rfl ww_141 rfl rfl rfl (Nat.le_of_ble_eq_true rfl) rfl mD_Le_removeAll_31 (fun H locs hP hS => ?_)
        obtain ⟨x1, hx1⟩ : ∃ z, z = tU y 108 (upd (y.1 108) 1 (nI 0)) := ⟨_, rfl⟩
        rw [← hx1] at hP
        refine lv_iload_n hx hb mD_Le_removeAll_34 rfl (lv_at hl 1 rfl) ?_
        subst hQ
        exact gw_iret hx hb hr hlocks hP hS (⟨rfl, fun j hj => by rw [hx1, tU_n (by omega)]; exact hinv.1 j hj, by rw [hx1, tU_1, hinv.2 108 (fun j _ => by omega)]; rfl, fun k h1 h2 => by rw [hx1, tU_n h1]; exact hinv.2 k h2⟩) mD_Le_removeAll_35 (Nat.zero_le _) (Nat.zero_le _)
      · skip
        have hn_n : n < 120 := ts_lt (by omega) (by omega) hc
        refine lv_aload_n hx hb mD_Le_removeAll_13 rfl (lv_at hl 2 rfl) ?_
        refine t_get (C := cN_Le) (T := cF_Le) (N := 2) (ci := 2) hx hb htw wU_Le hown hK hP 108 (by decide) rfl rfl 0 (by decide) rfl ww_139 rfl mD_Le_removeAll_14 ?_
        refine lv_iload_n hx hb mD_Le_removeAll_17 rfl (lv_at hl 0 rfl) ?_
        refine t_aldq hx hb hK hP 109 120 (by decide) rfl n rfl (by omega) (by decide) rfl mD_Le_removeAll_18 ?_
        refine lv_iconst (v := nI 0) hx hb mD_Le_removeAll_19 (by decide) ?_
        refine t_put (C := cN_Ce) (T := cF_Ce) (N := 4) (ci := 0) hx hb htw wU_Ce cT_Ce cO_Ce cM_Ce hown hK hI hA hP hS ((110 + 2 * n)) (tCe_lt (tCe_led (c := n) (by omega))) (tE_cell (tCe_led (c := n) (by omega))) rfl 3 (by decide) rfl ww_129 rfl rfl rfl (Nat.le_of_ble_eq_true rfl) (by rw [tE_cell (tCe_led (c := n) (by omega))]; rfl) mD_Le_removeAll_20 (fun H locs hP hS => ?_)
        obtain ⟨x2, hx2⟩ : ∃ z, z = tU y ((110 + 2 * n)) (upd (y.1 ((110 + 2 * n))) 3 (nI 0)) := ⟨_, rfl⟩
        rw [← hx2] at hP
        refine lv_iinc (k := 0) (v := nI (n + 1)) (lv' := [(2, .int (nI (n + 1))), (1, .int (x.1 108 1)), (0, .ref (ad 108))]) hx hb mD_Le_removeAll_23 hl rfl (by rw [lit1, nI_1]) (by decide) rfl (fun ls hl => ?_)
        refine lv_goto (tgt := 7) hx hb mD_Le_removeAll_26 rfl ?_
        exact ih (d7 - 1) (by omega) (n + 1) x2 _ _ _ (by omega) (lv_sub hl [0, 1, 2] rfl) hP hS ⟨fun j hj => by by_cases q : j = n; subst q; rw [hx2, tU_1, hinv.2 _ (fun i hi => by omega)]; rfl; rw [hx2, tU_n (tb_led q)]; exact hinv.1 j (by omega), fun k hk => by rw [hx2, tU_n (hk n (by omega))]; exact hinv.2 k (fun j hj => hk j (by omega))⟩
  exact loop 120 0 x _ _ _ (by omega) hl hP hS ⟨fun _ h => absurd h (Nat.not_lt_zero _), fun _ _ => rfl⟩

set_option maxHeartbeats 4000000 in
set_option maxRecDepth 100000 in
theorem k_Le_greatestBound (l : Launch) (D : va_G) (ct : Nat → ClassId) (ad : Nat → Nat) (hI : gw_inj 424 ad) (x : tS)  : gMi l mY_Le_greatestBound mB_Le_greatestBound 3 (some .int) (rF 0 0) D (tT ct) gZ0 424 ad (tD ct ad) [.ref (ad 108)] x (fun r x' => x' = x ∧ r = tGB x.1 120) := by
  refine gMi_enter (by decide) (Nat.le_of_ble_eq_true rfl) ?_
  intro p e s m below meth c ls hx hb hr htw hown hlocks hml hl hP hK hZ hS
  have hA : ∀ k, k < 424 → gA 424 ad s.heap.size (ad k) := fun _ h => gA_in h
  have hl : lv_has ls 3 [(0, .ref (ad 108))] := hl
  refine gw_nmQ (fun Q hQ => ?_)
  refine lv_iconst (v := nI 0) hx hb mD_Le_greatestBound_0 (by decide) ?_
  refine lv_istore_n (lv' := [(1, .int (nI 0)), (0, .ref (ad 108))]) hx hb mD_Le_greatestBound_1 rfl hl (by decide) rfl (fun ls hl => ?_)
  refine lv_iconst (v := nI 0) hx hb mD_Le_greatestBound_2 (by decide) ?_
  refine lv_istore_n (lv' := [(2, .int (nI 0)), (1, .int (nI 0)), (0, .ref (ad 108))]) hx hb mD_Le_greatestBound_3 rfl hl (by decide) rfl (fun ls hl => ?_)
  have loop : ∀ (d4 : Nat) (n : Nat) (g : Int32) (H : Heap) (locs : List Loc) (ls : Array Slot), n + d4 = 120 → lv_has ls 3 [(2, .int (nI n)), (1, .int g), (0, .ref (ad 108))] → va_P D cL (gw 424 ad (tD ct ad x)) H → va_S (gA 424 ad s.heap.size) s.heap H locs → (g = tGB x.1 n) → W p l e (rF 0 0) s m [.ref (ad 108)].toArray below meth c H locs 0 0 Q (F0 m 4 ls []) := by
    intro d4
    induction d4 using Nat.strongRecOn with
    | ind d4 ih =>
      intro n g H locs ls hd hl hP hS hinv
      refine lv_iload_n hx hb mD_Le_greatestBound_4 rfl (lv_at hl 0 rfl) ?_
      refine lv_bipush (v := nI 120) hx hb mD_Le_greatestBound_5 (by decide) ?_
      refine lv_icmp_ge (tgt := 51) hx hb mD_Le_greatestBound_7 rfl (fun hc => ?_) (fun hc => ?_)
      · skip
        have hn : n = 120 := by have := ts_ge (by omega) (by omega) hc; omega
        subst hn
        refine lv_iload_n hx hb mD_Le_greatestBound_51 rfl (lv_at hl 1 rfl) ?_
        subst hQ
        exact gw_iret hx hb hr hlocks hP hS (⟨rfl, hinv⟩) mD_Le_greatestBound_52 (Nat.zero_le _) (Nat.zero_le _)
      · skip
        have hn_n : n < 120 := ts_lt (by omega) (by omega) hc
        refine lv_aload_n hx hb mD_Le_greatestBound_10 rfl (lv_at hl 2 rfl) ?_
        refine t_get (C := cN_Le) (T := cF_Le) (N := 2) (ci := 2) hx hb htw wU_Le hown hK hP 108 (by decide) rfl rfl 0 (by decide) rfl ww_139 rfl mD_Le_greatestBound_11 ?_
        refine lv_iload_n hx hb mD_Le_greatestBound_14 rfl (lv_at hl 0 rfl) ?_
        refine t_aldq hx hb hK hP 109 120 (by decide) rfl n rfl (by omega) (by decide) rfl mD_Le_greatestBound_15 ?_
        refine t_get (C := cN_Ce) (T := cF_Ce) (N := 4) (ci := 0) hx hb htw wU_Ce hown hK hP ((110 + 2 * n)) (tCe_lt (tCe_led (c := n) (by omega))) (tE_cell (tCe_led (c := n) (by omega))) rfl 3 (by decide) rfl ww_129 rfl mD_Le_greatestBound_16 ?_
        refine lv_if_eq (tgt := 45) hx hb mD_Le_greatestBound_19 rfl (fun h2 => ?_) (fun h2 => ?_)
        · skip
          refine lv_iinc (k := 0) (v := nI (n + 1)) (lv' := [(2, .int (nI (n + 1))), (1, .int g), (0, .ref (ad 108))]) hx hb mD_Le_greatestBound_45 hl rfl (by rw [lit1, nI_1]) (by decide) rfl (fun ls hl => ?_)
          refine lv_goto (tgt := 4) hx hb mD_Le_greatestBound_48 rfl ?_
          exact ih (d4 - 1) (by omega) (n + 1) _ _ _ _ (by omega) (lv_sub hl [0, 1, 2] rfl) hP hS (by unfold tGB; rw [← hinv]; first | simp [h2, h3] | simp [h2])
        · skip
          refine lv_aload_n hx hb mD_Le_greatestBound_22 rfl (lv_at hl 2 rfl) ?_
          refine t_get (C := cN_Le) (T := cF_Le) (N := 2) (ci := 2) hx hb htw wU_Le hown hK hP 108 (by decide) rfl rfl 0 (by decide) rfl ww_139 rfl mD_Le_greatestBound_23 ?_
          refine lv_iload_n hx hb mD_Le_greatestBound_26 rfl (lv_at hl 0 rfl) ?_
          refine t_aldq hx hb hK hP 109 120 (by decide) rfl n rfl (by omega) (by decide) rfl mD_Le_greatestBound_27 ?_
          refine t_get (C := cN_Ce) (T := cF_Ce) (N := 4) (ci := 0) hx hb htw wU_Ce hown hK hP ((110 + 2 * n)) (tCe_lt (tCe_led (c := n) (by omega))) (tE_cell (tCe_led (c := n) (by omega))) rfl 1 (by decide) rfl ww_126 rfl mD_Le_greatestBound_28 ?_
          refine lv_iload_n hx hb mD_Le_greatestBound_31 rfl (lv_at hl 1 rfl) ?_
          refine lv_icmp_le (tgt := 45) hx hb mD_Le_greatestBound_32 rfl (fun h3 => ?_) (fun h3 => ?_)
          · skip
            refine lv_iinc (k := 0) (v := nI (n + 1)) (lv' := [(2, .int (nI (n + 1))), (1, .int g), (0, .ref (ad 108))]) hx hb mD_Le_greatestBound_45 hl rfl (by rw [lit1, nI_1]) (by decide) rfl (fun ls hl => ?_)
            refine lv_goto (tgt := 4) hx hb mD_Le_greatestBound_48 rfl ?_
            exact ih (d4 - 1) (by omega) (n + 1) _ _ _ _ (by omega) (lv_sub hl [0, 1, 2] rfl) hP hS (by unfold tGB; rw [← hinv]; first | simp [h2, h3] | simp [h2])
          · skip
            refine lv_aload_n hx hb mD_Le_greatestBound_35 rfl (lv_at hl 2 rfl) ?_
            refine t_get (C := cN_Le) (T := cF_Le) (N := 2) (ci := 2) hx hb htw wU_Le hown hK hP 108 (by decide) rfl rfl 0 (by decide) rfl ww_139 rfl mD_Le_greatestBound_36 ?_
            refine lv_iload_n hx hb mD_Le_greatestBound_39 rfl (lv_at hl 0 rfl) ?_
            refine t_aldq hx hb hK hP 109 120 (by decide) rfl n rfl (by omega) (by decide) rfl mD_Le_greatestBound_40 ?_
            refine t_get (C := cN_Ce) (T := cF_Ce) (N := 4) (ci := 0) hx hb htw wU_Ce hown hK hP ((110 + 2 * n)) (tCe_lt (tCe_led (c := n) (by omega))) (tE_cell (tCe_led (c := n) (by omega))) rfl 1 (by decide) rfl ww_126 rfl mD_Le_greatestBound_41 ?_
            refine lv_istore_n (lv' := [(1, .int (x.1 ((110 + 2 * n)) 1)), (2, .int (nI n)), (0, .ref (ad 108))]) hx hb mD_Le_greatestBound_44 rfl hl (by decide) rfl (fun ls hl => ?_)
            refine lv_iinc (k := 1) (v := nI (n + 1)) (lv' := [(2, .int (nI (n + 1))), (1, .int (x.1 ((110 + 2 * n)) 1)), (0, .ref (ad 108))]) hx hb mD_Le_greatestBound_45 hl rfl (by rw [lit1, nI_1]) (by decide) rfl (fun ls hl => ?_)
            refine lv_goto (tgt := 4) hx hb mD_Le_greatestBound_48 rfl ?_
            exact ih (d4 - 1) (by omega) (n + 1) _ _ _ _ (by omega) (lv_sub hl [0, 1, 2] rfl) hP hS (by unfold tGB; rw [← hinv]; first | simp [h2, h3] | simp [h2])
  exact loop 120 0 _ _ _ _ (by omega) hl hP hS rfl

theorem tb_hl0 {a : Int32} {sz : Nat} (h0 : a < nI 8) (h : 8 + sz < 2 ^ 31) : nI 0 = nI 0 ∧ ¬ ∃ q, 8 ≤ q ∧ q < 8 + sz ∧ a = nI q := ⟨rfl, fun ⟨q, h8, hq, e⟩ => by subst e; exact nI_nlt h8 (by omega) h0⟩
theorem tb_hl1 {a r : Int32} {sz : Nat} (h0 : ¬ a < nI 8) (hr : (r = nI 1 ∧ ∃ q, q < 8 + sz ∧ a = nI q) ∨ (r = nI 0 ∧ ¬ ∃ q, q < 8 + sz ∧ a = nI q)) (h2 : ¬ r = 0) (h : 8 + sz < 2 ^ 31) : (nI 1 = nI 1 ∧ ∃ q, 8 ≤ q ∧ q < 8 + sz ∧ a = nI q) ∨ (nI 1 = nI 0 ∧ ¬ ∃ q, 8 ≤ q ∧ q < 8 + sz ∧ a = nI q) := by
  rcases hr with ⟨-, q, hq, e⟩ | ⟨e, -⟩
  · exact Or.inl ⟨rfl, q, Nat.not_lt.mp (fun z => h0 (by rw [e]; exact nI_lt z (by omega))), hq, e⟩
  · exact absurd e h2
theorem tb_hl2 {a r : Int32} {sz : Nat} (hr : (r = nI 1 ∧ ∃ q, q < 8 + sz ∧ a = nI q) ∨ (r = nI 0 ∧ ¬ ∃ q, q < 8 + sz ∧ a = nI q)) (h2 : r = 0) : (nI 0 = nI 1 ∧ ∃ q, 8 ≤ q ∧ q < 8 + sz ∧ a = nI q) ∨ (nI 0 = nI 0 ∧ ¬ ∃ q, 8 ≤ q ∧ q < 8 + sz ∧ a = nI q) := by
  rcases hr with ⟨e, -⟩ | ⟨-, hn⟩
  · exact absurd (e.symm.trans h2) (by decide)
  · exact Or.inr ⟨rfl, fun ⟨q, _, hq, e⟩ => hn ⟨q, hq, e⟩⟩

set_option maxHeartbeats 4000000 in
set_option maxRecDepth 100000 in
theorem k_Ci_isAhead (l : Launch) (D : va_G) (ct : Nat → ClassId) (ad : Nat → Nat) (hI : gw_inj 424 ad) (x : tS) (a : Int32) {sz : Nat} (hsz : x.1 350 3 = nI sz) (hs24 : sz ≤ 24) : gMi l mY_Ci_isAhead mB_Ci_isAhead 2 (some .boolean) (rF 0 0) D (tT ct) gZ0 424 ad (tD ct ad) [.ref (ad 350), .int a] x (fun r x' => x' = x ∧ ((r = nI 1 ∧ ∃ q, q < 8 + sz ∧ a = nI q) ∨ (r = nI 0 ∧ ¬ ∃ q, q < 8 + sz ∧ a = nI q))) := by
  refine gMi_enter (by decide) (Nat.le_of_ble_eq_true rfl) ?_
  intro p e s m below meth c ls hx hb hr htw hown hlocks hml hl hP hK hZ hS
  have hA : ∀ k, k < 424 → gA 424 ad s.heap.size (ad k) := fun _ h => gA_in h
  have hl : lv_has ls 2 [(0, .ref (ad 350)), (1, .int a)] := hl
  refine lv_iload_n hx hb mD_Ci_isAhead_0 rfl (lv_at hl 1 rfl) ?_
  refine lv_if_lt (tgt := 19) hx hb mD_Ci_isAhead_1 rfl (fun h0 => ?_) (fun h0 => ?_)
  · skip
    refine lv_iconst (v := nI 0) hx hb mD_Ci_isAhead_19 (by decide) ?_
    exact gw_zret hx hb hr hlocks hP hS rfl (⟨rfl, by first | exact Or.inr ⟨rfl, fun ⟨q, _, e⟩ => by subst e; exact nI_pos (by omega) h0⟩ | exact Or.inr ⟨rfl, fun ⟨q, hq, e⟩ => by subst e; have := (nI_leI (by omega) (by omega)).mp h1; omega⟩ | exact Or.inl ⟨rfl, tb_idx (by omega) h0 h1⟩⟩) mD_Ci_isAhead_20 (Nat.zero_le _) (Nat.zero_le _)
  · skip
    refine lv_iload_n hx hb mD_Ci_isAhead_4 rfl (lv_at hl 1 rfl) ?_
    refine lv_bipush (v := nI 8) hx hb mD_Ci_isAhead_5 (by decide) ?_
    refine lv_aload_n hx hb mD_Ci_isAhead_7 rfl (lv_at hl 0 rfl) ?_
    refine t_get (C := cN_Ci) (T := cF_Ci) (N := 4) (ci := 1) hx hb htw wU_Ci hown hK hP 350 (by decide) rfl rfl 3 (by decide) rfl ww_160 rfl mD_Ci_isAhead_8 ?_
    refine lv_iadd hx hb mD_Ci_isAhead_11 ?_
    refine lv_icmp_ge (tgt := 19) hx hb mD_Ci_isAhead_12 rfl (fun h1 => ?_) (fun h1 => ?_)
    · skip
      rw [hsz, nI_add] at h1
      refine lv_iconst (v := nI 0) hx hb mD_Ci_isAhead_19 (by decide) ?_
      exact gw_zret hx hb hr hlocks hP hS rfl (⟨rfl, by first | exact Or.inr ⟨rfl, fun ⟨q, _, e⟩ => by subst e; exact nI_pos (by omega) h0⟩ | exact Or.inr ⟨rfl, fun ⟨q, hq, e⟩ => by subst e; have := (nI_leI (by omega) (by omega)).mp h1; omega⟩ | exact Or.inl ⟨rfl, tb_idx (by omega) h0 h1⟩⟩) mD_Ci_isAhead_20 (Nat.zero_le _) (Nat.zero_le _)
    · skip
      rw [hsz, nI_add] at h1
      refine lv_iconst (v := nI 1) hx hb mD_Ci_isAhead_15 (by decide) ?_
      refine lv_goto (tgt := 20) hx hb mD_Ci_isAhead_16 rfl ?_
      exact gw_zret hx hb hr hlocks hP hS rfl (⟨rfl, by first | exact Or.inr ⟨rfl, fun ⟨q, _, e⟩ => by subst e; exact nI_pos (by omega) h0⟩ | exact Or.inr ⟨rfl, fun ⟨q, hq, e⟩ => by subst e; have := (nI_leI (by omega) (by omega)).mp h1; omega⟩ | exact Or.inl ⟨rfl, tb_idx (by omega) h0 h1⟩⟩) mD_Ci_isAhead_20 (Nat.zero_le _) (Nat.zero_le _)

set_option maxHeartbeats 4000000 in
set_option maxRecDepth 100000 in
theorem k_Ci_hasLine (l : Launch) (D : va_G) (ct : Nat → ClassId) (ad : Nat → Nat) (hI : gw_inj 424 ad) (x : tS) (a : Int32) {sz : Nat} (hsz : x.1 350 3 = nI sz) (hs24 : sz ≤ 24) : gMi l mY_Ci_hasLine mB_Ci_hasLine 2 (some .boolean) (rF 1 21) D (tT ct) gZ0 424 ad (tD ct ad) [.ref (ad 350), .int a] x (fun r x' => x' = x ∧ ((r = nI 1 ∧ ∃ q, 8 ≤ q ∧ q < 8 + sz ∧ a = nI q) ∨ (r = nI 0 ∧ ¬ ∃ q, 8 ≤ q ∧ q < 8 + sz ∧ a = nI q))) := by
  refine gMi_enter (by decide) (Nat.le_of_ble_eq_true rfl) ?_
  intro p e s m below meth c ls hx hb hr htw hown hlocks hml hl hP hK hZ hS
  have hA : ∀ k, k < 424 → gA 424 ad s.heap.size (ad k) := fun _ h => gA_in h
  have hl : lv_has ls 2 [(0, .ref (ad 350)), (1, .int a)] := hl
  refine lv_iload_n hx hb mD_Ci_hasLine_0 rfl (lv_at hl 1 rfl) ?_
  refine lv_bipush (v := nI 8) hx hb mD_Ci_hasLine_1 (by decide) ?_
  refine lv_icmp_lt (tgt := 18) hx hb mD_Ci_hasLine_3 rfl (fun h0 => ?_) (fun h0 => ?_)
  · skip
    refine lv_iconst (v := nI 0) hx hb mD_Ci_hasLine_18 (by decide) ?_
    exact gw_zret hx hb hr hlocks hP hS rfl (⟨rfl, by first | exact Or.inr (tb_hl0 h0 (by omega)) | exact tb_hl1 h0 hr_ h2 (by omega) | exact tb_hl2 hr_ h2⟩) mD_Ci_hasLine_19 (Nat.zero_le _) (Nat.zero_le _)
  · skip
    refine lv_aload_n hx hb mD_Ci_hasLine_6 rfl (lv_at hl 0 rfl) ?_
    refine lv_iload_n hx hb mD_Ci_hasLine_7 rfl (lv_at hl 1 rfl) ?_
    refine gc_Vi (As := [.int a]) (rest := []) hx hb hml hown htw hK hP hS 350 (k_Ci_isAhead l D ct ad hI x a hsz hs24) gZ0_ok (fun _ _ _ => trivial) (gA_mono hS.1) (by decide) rfl rfl ww_619 ww_599 ww_600 ww_30 wC_Ci_isAhead mP_Ci_isAhead (by decide) rfl hl.1 rfl (Nat.le_of_ble_eq_true rfl) mD_Ci_hasLine_8 ⟨Nat.le_of_ble_eq_true rfl, Nat.le_of_ble_eq_true rfl⟩ (fun r2 x1 H locs hp1 hP _ _ hS => ?_)
    obtain ⟨hq_, hr_⟩ := hp1
    rw [hq_] at hP
    refine lv_if_eq (tgt := 18) hx hb mD_Ci_hasLine_11 rfl (fun h2 => ?_) (fun h2 => ?_)
    · skip
      refine lv_iconst (v := nI 0) hx hb mD_Ci_hasLine_18 (by decide) ?_
      exact gw_zret hx hb hr hlocks hP hS rfl (⟨rfl, by first | exact Or.inr (tb_hl0 h0 (by omega)) | exact tb_hl1 h0 hr_ h2 (by omega) | exact tb_hl2 hr_ h2⟩) mD_Ci_hasLine_19 (Nat.zero_le _) (Nat.zero_le _)
    · skip
      refine lv_iconst (v := nI 1) hx hb mD_Ci_hasLine_14 (by decide) ?_
      refine lv_goto (tgt := 19) hx hb mD_Ci_hasLine_15 rfl ?_
      exact gw_zret hx hb hr hlocks hP hS rfl (⟨rfl, by first | exact Or.inr (tb_hl0 h0 (by omega)) | exact tb_hl1 h0 hr_ h2 (by omega) | exact tb_hl2 hr_ h2⟩) mD_Ci_hasLine_19 (Nat.zero_le _) (Nat.zero_le _)

set_option maxHeartbeats 4000000 in
set_option maxRecDepth 100000 in
theorem k_Ci_add (l : Launch) (D : va_G) (ct : Nat → ClassId) (ad : Nat → Nat) (hI : gw_inj 424 ad) (x : tS) (k a b : Int32) {sz : Nat} (hsz : x.1 350 3 = nI sz) (hs24 : sz < 24) : gMi l mY_Ci_add mB_Ci_add 4 (some .int) (rF 0 0) D (tT ct) gZ0 424 ad (tD ct ad) [.ref (ad 350), .int k, .int a, .int b] x (fun r x' => r = nI (8 + sz) ∧ x'.1 = va_up (va_up (va_up (va_up x.1 351 (upd (x.1 351) sz k)) 352 (upd (x.1 352) sz a)) 353 (upd (x.1 353) sz b)) 350 (upd (x.1 350) 3 (nI (sz + 1)))) := by
  refine gMi_enter (by decide) (Nat.le_of_ble_eq_true rfl) ?_
  intro p e s m below meth c ls hx hb hr htw hown hlocks hml hl hP hK hZ hS
  have hA : ∀ k, k < 424 → gA 424 ad s.heap.size (ad k) := fun _ h => gA_in h
  have hl : lv_has ls 4 [(0, .ref (ad 350)), (1, .int k), (2, .int a), (3, .int b)] := hl
  refine lv_aload_n hx hb mD_Ci_add_0 rfl (lv_at hl 0 rfl) ?_
  refine t_get (C := cN_Ci) (T := cF_Ci) (N := 4) (ci := 1) hx hb htw wU_Ci hown hK hP 350 (by decide) rfl rfl 0 (by decide) rfl ww_154 rfl mD_Ci_add_1 ?_
  refine lv_aload_n hx hb mD_Ci_add_4 rfl (lv_at hl 0 rfl) ?_
  refine t_get (C := cN_Ci) (T := cF_Ci) (N := 4) (ci := 1) hx hb htw wU_Ci hown hK hP 350 (by decide) rfl rfl 3 (by decide) rfl ww_160 rfl mD_Ci_add_5 ?_
  refine lv_iload_n hx hb mD_Ci_add_8 rfl (lv_at hl 1 rfl) ?_
  refine t_iast hx hb hK hI hA hP hS 351 24 (by decide) (fun _ => rfl) sz hsz (by omega) (by decide) mD_Ci_add_9 (fun H locs hP hS => ?_)
  obtain ⟨x1, hx1⟩ : ∃ z, z = tU x 351 (upd (x.1 351) sz k) := ⟨_, rfl⟩
  rw [← hx1] at hP
  refine lv_aload_n hx hb mD_Ci_add_10 rfl (lv_at hl 0 rfl) ?_
  refine t_get (C := cN_Ci) (T := cF_Ci) (N := 4) (ci := 1) hx hb htw wU_Ci hown hK hP 350 (by decide) rfl rfl 1 (by decide) rfl ww_156 rfl mD_Ci_add_11 ?_
  refine lv_aload_n hx hb mD_Ci_add_14 rfl (lv_at hl 0 rfl) ?_
  refine t_get (C := cN_Ci) (T := cF_Ci) (N := 4) (ci := 1) hx hb htw wU_Ci hown hK hP 350 (by decide) rfl rfl 3 (by decide) rfl ww_160 rfl mD_Ci_add_15 ?_
  refine lv_iload_n hx hb mD_Ci_add_18 rfl (lv_at hl 2 rfl) ?_
  refine t_iast hx hb hK hI hA hP hS 352 24 (by decide) (fun _ => rfl) sz (by rw [hx1, tU_n (by decide)]; exact hsz) (by omega) (by decide) mD_Ci_add_19 (fun H locs hP hS => ?_)
  obtain ⟨x2, hx2⟩ : ∃ z, z = tU x1 352 (upd (x1.1 352) sz a) := ⟨_, rfl⟩
  rw [← hx2] at hP
  refine lv_aload_n hx hb mD_Ci_add_20 rfl (lv_at hl 0 rfl) ?_
  refine t_get (C := cN_Ci) (T := cF_Ci) (N := 4) (ci := 1) hx hb htw wU_Ci hown hK hP 350 (by decide) rfl rfl 2 (by decide) rfl ww_158 rfl mD_Ci_add_21 ?_
  refine lv_aload_n hx hb mD_Ci_add_24 rfl (lv_at hl 0 rfl) ?_
  refine t_get (C := cN_Ci) (T := cF_Ci) (N := 4) (ci := 1) hx hb htw wU_Ci hown hK hP 350 (by decide) rfl rfl 3 (by decide) rfl ww_160 rfl mD_Ci_add_25 ?_
  refine lv_iload_n hx hb mD_Ci_add_28 rfl (lv_at hl 3 rfl) ?_
  refine t_iast hx hb hK hI hA hP hS 353 24 (by decide) (fun _ => rfl) sz (by rw [hx2, tU_n (by decide), hx1, tU_n (by decide)]; exact hsz) (by omega) (by decide) mD_Ci_add_29 (fun H locs hP hS => ?_)
  obtain ⟨x3, hx3⟩ : ∃ z, z = tU x2 353 (upd (x2.1 353) sz b) := ⟨_, rfl⟩
  rw [← hx3] at hP
  refine lv_aload_n hx hb mD_Ci_add_30 rfl (lv_at hl 0 rfl) ?_
  refine lv_dup hx hb mD_Ci_add_31 rfl ?_
  refine t_get (C := cN_Ci) (T := cF_Ci) (N := 4) (ci := 1) hx hb htw wU_Ci hown hK hP 350 (by decide) rfl rfl 3 (by decide) rfl ww_160 rfl mD_Ci_add_32 ?_
  refine lv_iconst (v := nI 1) hx hb mD_Ci_add_35 (by decide) ?_
  refine lv_iadd hx hb mD_Ci_add_36 ?_
  refine t_put (C := cN_Ci) (T := cF_Ci) (N := 4) (ci := 1) hx hb htw wU_Ci cT_Ci cO_Ci cM_Ci hown hK hI hA hP hS 350 (by decide) rfl rfl 3 (by decide) rfl ww_160 rfl rfl rfl (Nat.le_of_ble_eq_true rfl) rfl mD_Ci_add_37 (fun H locs hP hS => ?_)
  obtain ⟨x4, hx4⟩ : ∃ z, z = tU x3 350 (upd (x3.1 350) 3 ((x3.1 350 3) + (nI 1))) := ⟨_, rfl⟩
  rw [← hx4] at hP
  refine lv_bipush (v := nI 8) hx hb mD_Ci_add_40 (by decide) ?_
  refine lv_aload_n hx hb mD_Ci_add_42 rfl (lv_at hl 0 rfl) ?_
  refine t_get (C := cN_Ci) (T := cF_Ci) (N := 4) (ci := 1) hx hb htw wU_Ci hown hK hP 350 (by decide) rfl rfl 3 (by decide) rfl ww_160 rfl mD_Ci_add_43 ?_
  refine lv_iadd hx hb mD_Ci_add_46 ?_
  refine lv_iconst (v := nI 1) hx hb mD_Ci_add_47 (by decide) ?_
  refine lv_isub hx hb mD_Ci_add_48 ?_
  exact gw_iret hx hb hr hlocks hP hS (have e3 : x3.1 350 = x.1 350 := (by rw [hx3, tU_n (by decide), hx2, tU_n (by decide), hx1, tU_n (by decide)]); ⟨by rw [hx4, tU_1, pk_us, e3, hsz, nI_add, nI_add, pk_sub (by omega), show 8 + (sz + 1) - 1 = 8 + sz by omega], by rw [hx4, tU_f, e3, hsz, nI_add, hx3, tU_f, hx2, tU_f, hx1, tU_f]; rfl⟩) mD_Ci_add_49 (Nat.zero_le _) (Nat.zero_le _)

set_option maxHeartbeats 4000000 in
set_option maxRecDepth 100000 in
theorem k_Ci_removeAll (l : Launch) (D : va_G) (ct : Nat → ClassId) (ad : Nat → Nat) (hI : gw_inj 424 ad) (x : tS)  : gMi l mY_Ci_removeAll mB_Ci_removeAll 2 (some .int) (rF 0 0) D (tT ct) gZ0 424 ad (tD ct ad) [.ref (ad 350)] x (fun r x' => r = x.1 350 3 ∧ x'.1 = va_up x.1 350 (upd (x.1 350) 3 0)) := by
  refine gMi_enter (by decide) (Nat.le_of_ble_eq_true rfl) ?_
  intro p e s m below meth c ls hx hb hr htw hown hlocks hml hl hP hK hZ hS
  have hA : ∀ k, k < 424 → gA 424 ad s.heap.size (ad k) := fun _ h => gA_in h
  have hl : lv_has ls 2 [(0, .ref (ad 350))] := hl
  refine lv_aload_n hx hb mD_Ci_removeAll_0 rfl (lv_at hl 0 rfl) ?_
  refine t_get (C := cN_Ci) (T := cF_Ci) (N := 4) (ci := 1) hx hb htw wU_Ci hown hK hP 350 (by decide) rfl rfl 3 (by decide) rfl ww_160 rfl mD_Ci_removeAll_1 ?_
  refine lv_istore_n (lv' := [(1, .int (x.1 350 3)), (0, .ref (ad 350))]) hx hb mD_Ci_removeAll_4 rfl hl (by decide) rfl (fun ls hl => ?_)
  refine lv_aload_n hx hb mD_Ci_removeAll_5 rfl (lv_at hl 1 rfl) ?_
  refine lv_iconst (v := nI 0) hx hb mD_Ci_removeAll_6 (by decide) ?_
  refine t_put (C := cN_Ci) (T := cF_Ci) (N := 4) (ci := 1) hx hb htw wU_Ci cT_Ci cO_Ci cM_Ci hown hK hI hA hP hS 350 (by decide) rfl rfl 3 (by decide) rfl ww_160 rfl rfl rfl (Nat.le_of_ble_eq_true rfl) rfl mD_Ci_removeAll_7 (fun H locs hP hS => ?_)
  obtain ⟨x1, hx1⟩ : ∃ z, z = tU x 350 (upd (x.1 350) 3 (nI 0)) := ⟨_, rfl⟩
  rw [← hx1] at hP
  refine lv_iload_n hx hb mD_Ci_removeAll_10 rfl (lv_at hl 0 rfl) ?_
  exact gw_iret hx hb hr hlocks hP hS (⟨rfl, by rw [hx1, tU_f]; rfl⟩) mD_Ci_removeAll_11 (Nat.zero_le _) (Nat.zero_le _)
