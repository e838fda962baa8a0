/-! the law's loop. Laid by wip/whole/part_loop.py. -/
theorem l_gt {L j : Nat} (hL : L ≤ 2048) (hj : j ≤ 600) (h : ¬ nI L - nI 4 < nI (4 * j)) : 4 * j + 3 < L := by
  rw [Int32.lt_iff_toInt_lt, pk_sub_toInt (by omega) (by omega), nI_toInt (by omega)] at h
  omega

set_option maxHeartbeats 4000000 in
theorem l_case {p : Program} {l : Launch} {e : Env} {s : State} {m : MethodId} {below : List Frame} {meth : Method} {c : Code} {b L : Nat} {xs : Nat → Int32} {D : va_G} {ct : Nat → ClassId} {ad am zt : Nat → Nat} (C : lCx p l s m c b L xs D ct ad am zt) {Q : State → Prop} {j : Nat} (hj : 4 * j + 3 < L) {z : lS} {y : mS} {α : tA} {t : Int32} (hR : tR α z.1.1) (hM : mR α t y) {H : Heap} {locs : List Loc} {ls : Array Slot} (hl : lv_has ls 7 [(4, .int (nI (4 * j))), (0, .ref b), (1, .ref (ad 0)), (2, .ref (am 0)), (3, .ref (ad 424))]) (hP : va_P D cL (gw 425 ad (lD ct ad z)) H) (hPm : va_P D cL (gw 8 am (mD ct am y)) H) (hS : va_S (tB s) s.heap H locs) (again : ∀ (z : lS) (y : mS) (α : tA) (t : Int32) (H : Heap) (locs : List Loc) (ls : Array Slot), tR α z.1.1 → mR α t y → lv_has ls 7 [(4, .int (nI (4 * j))), (0, .ref b), (1, .ref (ad 0)), (2, .ref (am 0)), (3, .ref (ad 424))] → va_P D cL (gw 425 ad (lD ct ad z)) H → va_P D cL (gw 8 am (mD ct am y)) H → va_S (tB s) s.heap H locs → W p l e room_1 s m #[.ref b] below meth c H locs (433 + (j + 1)) (5635 + 6 * (j + 1)) Q (F0 m 1009 ls [])) (r : Nat) (hr : r < 16) : W p l e room_1 s m #[.ref b] below meth c H locs (433 + j) (5635 + 6 * j) Q (F0 m 39 ls [.int (nI r)]) := by
  obtain ⟨hx, hb, -⟩ := id C
  have hq : r = 0 ∨ r = 1 ∨ r = 2 ∨ r = 3 ∨ r = 4 ∨ r = 5 ∨ r = 6 ∨ r = 7 ∨ r = 8 ∨ r = 9 ∨ r = 10 ∨ r = 11 ∨ r = 12 ∨ r = 13 ∨ r = 14 ∨ r = 15 := by omega
  rcases hq with rfl | rfl | rfl | rfl | rfl | rfl | rfl | rfl | rfl | rfl | rfl | rfl | rfl | rfl | rfl | rfl
  · exact lv_tableIn (tgt := 112) hx hb mD_La_law_39 (by decide) (by decide) rfl rfl (lc_key C hj hR hM hl hP hPm hS again)
  · exact lv_tableIn (tgt := 137) hx hb mD_La_law_39 (by decide) (by decide) rfl rfl (lc_bit C hj hR hM hl hP hPm hS again)
  · exact lv_tableIn (tgt := 209) hx hb mD_La_law_39 (by decide) (by decide) rfl rfl (lc_drop C hj hR hM hl hP hPm hS again)
  · exact lv_tableIn (tgt := 265) hx hb mD_La_law_39 (by decide) (by decide) rfl rfl (lc_not C hj hR hM hl hP hPm hS again)
  · exact lv_tableIn (tgt := 321) hx hb mD_La_law_39 (by decide) (by decide) rfl rfl (lc_blur C hj hR hM hl hP hPm hS again)
  · exact lv_tableIn (tgt := 389) hx hb mD_La_law_39 (by decide) (by decide) rfl rfl (lc_pile C hj hR hM hl hP hPm hS again)
  · exact lv_tableIn (tgt := 457) hx hb mD_La_law_39 (by decide) (by decide) rfl rfl (lc_gate C hj hR hM hl hP hPm hS again)
  · exact lv_tableIn (tgt := 537) hx hb mD_La_law_39 (by decide) (by decide) rfl rfl (lc_choose C hj hR hM hl hP hPm hS again)
  · exact lv_tableIn (tgt := 617) hx hb mD_La_law_39 (by decide) (by decide) rfl rfl (lc_open C hj hR hM hl hP hPm hS again)
  · exact lv_tableIn (tgt := 673) hx hb mD_La_law_39 (by decide) (by decide) rfl rfl (lc_bound C hj hR hM hl hP hPm hS again)
  · exact lv_tableIn (tgt := 729) hx hb mD_La_law_39 (by decide) (by decide) rfl rfl (lc_within C hj hR hM hl hP hPm hS again)
  · exact lv_tableIn (tgt := 792) hx hb mD_La_law_39 (by decide) (by decide) rfl rfl (lc_line C hj hR hM hl hP hPm hS again)
  · exact lv_tableIn (tgt := 872) hx hb mD_La_law_39 (by decide) (by decide) rfl rfl (lc_play C hj hR hM hl hP hPm hS again)
  · exact lv_tableIn (tgt := 940) hx hb mD_La_law_39 (by decide) (by decide) rfl rfl (lc_clear C hj hR hM hl hP hPm hS again)
  · exact lv_tableIn (tgt := 953) hx hb mD_La_law_39 (by decide) (by decide) rfl rfl (lc_count C hj hR hM hl hP hPm hS again)
  · exact lv_tableOut (tgt := 1009) hx hb mD_La_law_39 (Or.inr (by decide)) rfl (W.widen (by omega) (by omega) (again z y α t _ _ _ hR hM hl hP hPm hS))

set_option maxHeartbeats 4000000 in
theorem l_loop {p : Program} {l : Launch} {e : Env} {s : State} {m : MethodId} {below : List Frame} {meth : Method} {c : Code} {b L : Nat} {xs : Nat → Int32} {D : va_G} {ct : Nat → ClassId} {ad am zt : Nat → Nat} (C : lCx p l s m c b L xs D ct ad am zt) {Q : State → Prop} (out : ∀ (H : Heap) (locs : List Loc) (ls : Array Slot), va_S (tB s) s.heap H locs → W p l e room_1 s m #[.ref b] below meth c H locs 601024 7293034 Q (F0 m 1016 ls [.int (nI 1)])) : ∀ (d j : Nat) (z : lS) (y : mS) (α : tA) (t : Int32) (H : Heap) (locs : List Loc) (ls : Array Slot), j + d = 513 → tR α z.1.1 → mR α t y → lv_has ls 7 [(4, .int (nI (4 * j))), (0, .ref b), (1, .ref (ad 0)), (2, .ref (am 0)), (3, .ref (ad 424))] → va_P D cL (gw 425 ad (lD ct ad z)) H → va_P D cL (gw 8 am (mD ct am y)) H → va_S (tB s) s.heap H locs → W p l e room_1 s m #[.ref b] below meth c H locs (433 + j) (5635 + 6 * j) Q (F0 m 23 ls []) := by
  obtain ⟨hx, hb, hml, hown, htw, hX, hbl, hL, -⟩ := id C
  intro d
  induction d using Nat.strongRecOn with
  | ind d ih =>
    intro j z y α t H locs ls hd hR hM hl hP hPm hS
    refine lv_iload hx hb mD_La_law_23 (lv_at hl 0 rfl) ?_
    refine lv_aload_n hx hb mD_La_law_25 rfl (lv_at hl 1 rfl) ?_
    refine va_slen hx hb hX hbl (Nat.not_le.mpr hbl) hS mD_La_law_26 ?_
    refine lv_iconst (v := nI 4) hx hb mD_La_law_27 (by decide) ?_
    refine lv_isub hx hb mD_La_law_28 ?_
    refine lv_icmp_gt (tgt := 1015) hx hb mD_La_law_29 rfl (fun _ => ?_) (fun hc => ?_)
    · refine lv_iconst (v := nI 1) hx hb mD_La_law_1015 (by decide) ?_
      exact W.widen (by omega) (by omega) (out _ _ _ hS)
    · have hj : 4 * j + 3 < L := l_gt hL (by omega) hc
      refine lv_aload_n hx hb mD_La_law_32 rfl (lv_at hl 1 rfl) ?_
      refine lv_iload hx hb mD_La_law_33 (lv_at hl 0 rfl) ?_
      refine l_sld hx hb hX hbl hL hS (4 * j) (by omega) mD_La_law_35 ?_
      refine lv_bipush (v := nI 15) hx hb mD_La_law_36 (by decide) ?_
      refine lv_iand hx hb mD_La_law_38 ?_
      obtain ⟨r, hr, er⟩ := pk_andE (xs (4 * j)) (m := nI 15) 4 (by decide)
      rw [er]
      refine l_case C hj hR hM hl hP hPm hS (fun z y α t H locs ls hR hM hl hP hPm hS => ?_) r hr
      refine lv_iinc (k := 0) (v := nI (4 * (j + 1))) (lv' := [(4, .int (nI (4 * (j + 1)))), (0, .ref b), (1, .ref (ad 0)), (2, .ref (am 0)), (3, .ref (ad 424))]) hx hb mD_La_law_1009 hl rfl (nI_add (4 * j) 4) (by decide) rfl (fun ls hl => ?_)
      refine lv_goto (tgt := 23) hx hb mD_La_law_1012 rfl ?_
      exact ih (d - 1) (by omega) (j + 1) z y α t H locs ls (by omega) hR hM hl hP hPm hS
