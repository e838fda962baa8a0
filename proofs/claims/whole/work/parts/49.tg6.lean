/-! TorusGates' public methods, fourth part: play. Laid by wip/whole/part_tg6.py. -/
def aIn (n k : Nat) : Bool := decide ((nI n >>> (nI k &&& 31)) &&& nI 1 = nI 1)
/-- what the inputs and lines hold after i lines -/
def aPl (α : tA) (n : Nat) : Nat → Nat → Bool
  | 0 => fun j => aIn n j
  | i + 1 => va_up (aPl α n i) (8 + i) (tp_truth (aL α i).1 (aPl α n i (aL α i).2.1) (aPl α n i (aL α i).2.2))
def aPb (j : Nat) : Nat := if j < 8 then 16 else 3186688
theorem aPb_le (j : Nat) : aPb j ≤ 3186688 := by unfold aPb; split <;> omega
theorem aPb_far (g i j : Nat) : ¬ tp_far g (aPb i) (aPb j) := by
  have h1 := aPb_le i
  have h2 := aPb_le j
  unfold tp_far
  split <;> omega
theorem tR_scr {α : tA} {v v' : Nat → Nat → Int32} (h : tR α v) (hs : ∀ k, k < 355 → v' k = v k) : tR α v' := by
  obtain ⟨k1, k2, k3, ⟨k4, k5, k6⟩, k7, k8⟩ := h
  refine ⟨tKey_eq k1 (fun k hk => hs k (by omega)), fun j hj => ?_, ?_, ⟨k4, ?_, fun i hi => ?_⟩, ?_, ?_⟩
  · rw [hs (110 + 2 * j) (by omega)]
    exact ⟨(k2 j hj).1, fun z => tCok_eq ((k2 j hj).2 z) (hs 3 (by decide)) (hs _ (by omega)) (hs _ (by omega))⟩
  · rw [hs 108 (by decide)]; exact k3
  · rw [hs 350 (by decide)]; exact k5
  · exact tLn_eq (k6 i hi) (hs _ (by decide)) (hs _ (by decide)) (hs _ (by decide))
  · rw [hs 0 (by decide)]; exact k7
  · rw [hs 0 (by decide)]; exact k8
theorem tp_up {α : tA} {n i j : Nat} (h : j < 8 + i) : aPl α n (i + 1) j = aPl α n i j := va_up_ne _ _ (by omega)
theorem ta_n (g : Int32) (i : Nat) : g + nI i + 1 = g + nI (i + 1) := by rw [Int32.add_assoc, nI_1]
/-- a cell is made like a played one -/
theorem tR_pnew {α : tA} {v v1 v' : Nat → Nat → Int32} {q b ko : Nat} {z : Bool} {g : Nat → Int32} (h : tR α v) (hf : aFree α q) (e1 : v1 = va_up (va_up v (110 + 2 * q) (upd (v (110 + 2 * q)) 3 1)) 108 (upd (v 108) 1 (v 108 1 + 1)))
    (e2 : v' = va_up (va_up v1 (110 + 2 * q + 1) g) (110 + 2 * q) (upd (upd (v1 (110 + 2 * q)) 1 (v1 ko 1)) 2 (v1 ko 2))) (hg : ∀ i, i < 9 → g i = v1 (ko + 1) i) (hko : 355 ≤ ko) (hc : tCok v ko b z) : tR (aMade α q z b) v' := by
  have hq := hf.1
  have hn : (110 + 2 * q) + 1 ≠ 110 + 2 * q := Nat.succ_ne_self _
  have eo : v1 ko = v ko := by rw [e1, va_up_ne _ _ (by omega), va_up_ne _ _ (by omega)]
  have eo1 : v1 (ko + 1) = v (ko + 1) := by rw [e1, va_up_ne _ _ (by omega), va_up_ne _ _ (by omega)]
  have e3 : v1 3 = v 3 := by rw [e1, va_up_ne _ _ (by omega), va_up_ne _ _ (by omega)]
  refine tR_new (g := aG α) h hf e1 (fun k a1 a2 a3 a4 a5 a6 _ => ?_) ?_ ⟨hc.1, ?_, ?_, ?_⟩ ?_ ?_
  · rw [e2, va_up_ne _ _ a5, va_up_ne _ _ a6]
  · rw [e2, va_up_self, pk_un (by decide), pk_un (by decide)]
  · rw [e2, va_up_self, pk_un (by decide), pk_us, eo]; exact hc.2.1
  · rw [e2, va_up_self, pk_us, eo]; exact hc.2.2.1
  · rw [e2, va_up_ne _ _ hn, va_up_self, va_up_ne _ _ (by omega), va_up_ne _ _ (by omega), e3]
    exact tp_near_congr hc.2.2.2 (fun i hi => by rw [hg i hi, eo1])
  · rw [e2, va_up_ne _ _ (by omega), va_up_ne _ _ (by omega), e1, va_up_ne _ _ (by omega), va_up_ne _ _ (by omega)]; exact h.2.2.2.2.1
  · rw [e2, va_up_ne _ _ (by omega), va_up_ne _ _ (by omega)]
theorem tc_new {v v' : Nat → Nat → Int32} {kc : Nat} {g : Nat → Int32} {z : Bool} (hkc : tCe kc) (e : v' = va_up (va_up v (kc + 1) g) kc (upd (upd (v kc) 1 (nI 16)) 2 (tBi z))) (hg : tp_near (v 3) g z 16) : tCok v' kc 16 z := by
  have h := tc_ne hkc
  have hn : kc + 1 ≠ kc := Nat.succ_ne_self _
  refine ⟨by decide, ?_, ?_, ?_⟩
  · rw [e, va_up_self, pk_un (by decide), pk_us]
  · rw [e, va_up_self, pk_us]
  · rw [e, va_up_ne _ _ hn, va_up_self, va_up_ne _ _ (by omega), va_up_ne _ _ (by omega)]; exact hg

set_option maxHeartbeats 8000000 in
set_option maxRecDepth 100000 in
theorem k_TG_play (l : Launch) (D : va_G) (ct : Nat → ClassId) (ad : Nat → Nat) (hI : gw_inj 424 ad) (x : tS) {s0 : State} {zt : Nat → Nat} (h0 : tO s0 zt) (α : tA) (hR : tR α x.1) {i0 n q : Nat} (hi0 : i0 < aZ α) (hn : n ≤ 255) (hf : aFree α q) : gMi l mY_TG_play mB_TG_play 5 (some .int) (rF 6 151) D (tT ct) (tZ s0) 424 ad (tD ct ad) [.ref (ad 0), .int (nI (8 + i0)), .int (nI n)] x (fun r x' => r = nI q ∧ tR (aGates (aMade α q (aPl α n (i0 + 1) (8 + i0)) 3186688) (aG α + nI (i0 + 1))) x'.1) := by
  refine gMi_enter (by decide) (Nat.le_of_ble_eq_true rfl) ?_
  intro p e s m below meth c ls hx hb hr htw hown hlocks hml hl hP hK hZ hS
  have hA : ∀ k, k < 424 → gA 424 ad s.heap.size (ad k) := fun _ h => gA_in h
  have hl : lv_has ls 5 [(0, .ref (ad 0)), (1, .int (nI (8 + i0))), (2, .int (nI n))] := hl
  refine gw_nmQ (fun Q hQ => ?_)
  refine lv_aload_n hx hb mD_TG_play_0 rfl (lv_at hl 0 rfl) ?_
  refine t_get (C := cN_TG) (T := cF_TG) (N := 12) (ci := 7) hx hb htw wU_TG hown hK hP 0 (by decide) rfl rfl 5 (by decide) rfl ww_227 rfl mD_TG_play_1 ?_
  refine lv_iload_n hx hb mD_TG_play_4 rfl (lv_at hl 1 rfl) ?_
  refine gc_Vi (As := [.int (nI (8 + i0))]) (rest := []) hx hb hml hown htw hK hP hS 350 (k_Ci_hasLine l D ct ad hI x (nI (8 + i0)) hR.2.2.2.1.2.1 hR.2.2.2.1.1) gZ0_ok (fun _ _ _ => trivial) (gA_mono hS.1) (by decide) rfl rfl ww_615 ww_616 ww_617 ww_30 wC_Ci_hasLine mP_Ci_hasLine (by decide) rfl hl.1 rfl (Nat.le_of_ble_eq_true rfl) mD_TG_play_5 ⟨Nat.le_of_ble_eq_true rfl, Nat.le_of_ble_eq_true rfl⟩ (fun r2 x1 H locs hp1 hP _ _ hS => ?_)
  obtain ⟨hq_, hr_⟩ := hp1
  rw [hq_] at hP
  have h24 := hR.2.2.2.1.1
  refine lv_if_ne (tgt := 21) hx hb mD_TG_play_8 rfl (fun hc => ?_) (fun hc => ?_)
  · skip
    refine lv_aload_n hx hb mD_TG_play_21 rfl (lv_at hl 0 rfl) ?_
    refine lv_iload_n hx hb mD_TG_play_22 rfl (lv_at hl 2 rfl) ?_
    refine lv_sipush (v := nI 255) hx hb mD_TG_play_23 (by decide) ?_
    refine gc_Vv (As := [.int (nI n), .int (nI 255)]) (rest := []) hx hb hml hown htw hK hP hS 0 (k_TG_checkRange l D ct ad hI x (q := n) (N := 255) hn (by decide)) gZ0_ok (fun _ _ _ => trivial) (gA_mono hS.1) (by decide) rfl rfl ww_439 ww_441 ww_6 ww_23 wC_TG_checkRange mP_TG_checkRange (by decide) rfl hl.1 rfl (Nat.le_of_ble_eq_true rfl) mD_TG_play_26 ⟨Nat.le_of_ble_eq_true rfl, Nat.le_of_ble_eq_true rfl⟩ (fun x3 H locs hp3 hP _ _ hS => ?_)
    have hq_ := hp3
    rw [hq_] at hP
    refine lv_aload_n hx hb mD_TG_play_29 rfl (lv_at hl 0 rfl) ?_
    refine gc_Vi (As := []) (rest := []) hx hb hml hown htw hK hP hS 0 (k_TG_freeNumber l D ct ad hI x (q := q) hf.1 (tR_fr hR hf).1 (tR_fr hR hf).2) gZ0_ok (fun _ _ _ => trivial) (gA_mono hS.1) (by decide) rfl rfl ww_283 ww_285 ww_2 ww_23 wC_TG_freeNumber mP_TG_freeNumber (by decide) rfl hl.1 rfl (Nat.le_of_ble_eq_true rfl) mD_TG_play_30 ⟨Nat.le_of_ble_eq_true rfl, Nat.le_of_ble_eq_true rfl⟩ (fun r6 x5 H locs hp5 hP _ _ hS => ?_)
    obtain ⟨hq_, rfl⟩ := hp5
    rw [hq_] at hP
    refine lv_istore_n (lv' := [(3, .int (nI q)), (0, .ref (ad 0)), (1, .int (nI (8 + i0))), (2, .int (nI n))]) hx hb mD_TG_play_33 rfl hl (by decide) rfl (fun ls hl => ?_)
    refine lv_iconst (v := nI 0) hx hb mD_TG_play_34 (by decide) ?_
    refine lv_istore (lv' := [(4, .int (nI 0)), (3, .int (nI q)), (0, .ref (ad 0)), (1, .int (nI (8 + i0))), (2, .int (nI n))]) hx hb mD_TG_play_35 hl (by decide) rfl (fun ls hl => ?_)
    have loop : ∀ (d37 : Nat) (k : Nat) (y : tS) (H : Heap) (locs : List Loc) (ls : Array Slot), k + d37 = 8 → lv_has ls 5 [(4, .int (nI k)), (3, .int (nI q)), (0, .ref (ad 0)), (1, .int (nI (8 + i0))), (2, .int (nI n))] → va_P D cL (gw 424 ad (tD ct ad y)) H → va_S (gA 424 ad s.heap.size) s.heap H locs → ((∀ j, j < 355 → y.1 j = x.1 j) ∧ ∀ j, j < k → tCok y.1 (355 + 2 * j) 16 (aIn n j)) → W p l e (rF 6 151) s m [.ref (ad 0), .int (nI (8 + i0)), .int (nI n)].toArray below meth c H locs 0 0 Q (F0 m 37 ls []) := by
      intro d37
      induction d37 using Nat.strongRecOn with
      | ind d37 ih =>
        intro k y H locs ls hd hl hP hS hinv
        refine lv_iload hx hb mD_TG_play_37 (lv_at hl 0 rfl) ?_
        refine lv_bipush (v := nI 8) hx hb mD_TG_play_39 (by decide) ?_
        refine lv_icmp_ge (tgt := 76) hx hb mD_TG_play_41 rfl (fun hc => ?_) (fun hc => ?_)
        · skip
          have hn : k = 8 := by have := ts_ge (by omega) (by omega) hc; omega
          subst hn
          refine lv_iconst (v := nI 0) hx hb mD_TG_play_76 (by decide) ?_
          refine lv_istore (lv' := [(4, .int (nI 0)), (3, .int (nI q)), (0, .ref (ad 0)), (1, .int (nI (8 + i0))), (2, .int (nI n))]) hx hb mD_TG_play_77 hl (by decide) rfl (fun ls hl => ?_)
          have loop2 : ∀ (d79 : Nat) (i : Nat) (y : tS) (H : Heap) (locs : List Loc) (ls : Array Slot), i + d79 = i0 + 1 → lv_has ls 5 [(4, .int (nI i)), (3, .int (nI q)), (0, .ref (ad 0)), (1, .int (nI (8 + i0))), (2, .int (nI n))] → va_P D cL (gw 424 ad (tD ct ad y)) H → va_S (gA 424 ad s.heap.size) s.heap H locs → (tR (aGates α (aG α + nI i)) y.1 ∧ ∀ j, j < 8 + i → tCok y.1 (355 + 2 * j) (aPb j) (aPl α n i j)) → W p l e (rF 6 151) s m [.ref (ad 0), .int (nI (8 + i0)), .int (nI n)].toArray below meth c H locs 0 0 Q (F0 m 79 ls []) := by
            intro d79
            induction d79 using Nat.strongRecOn with
            | ind d79 ih2 =>
              intro i y H locs ls hd hl hP hS hinv2
              refine lv_iload hx hb mD_TG_play_79 (lv_at hl 0 rfl) ?_
              refine lv_iload_n hx hb mD_TG_play_81 rfl (lv_at hl 3 rfl) ?_
              refine lv_bipush (v := nI 8) hx hb mD_TG_play_82 (by decide) ?_
              refine lv_isub hx hb mD_TG_play_84 ?_
              refine lv_icmp_gt (tgt := 148) hx hb mD_TG_play_85 rfl (fun hc => ?_) (fun hc => ?_)
              · skip
                rw [pk_sub (by omega), show 8 + i0 - 8 = i0 by omega] at hc
                have hin : i = i0 + 1 := by have h1 := Int32.lt_iff_toInt_lt.mp hc; rw [nI_toInt (by omega), nI_toInt (by omega)] at h1; omega
                rw [hin] at hinv2
                refine lv_aload_n hx hb mD_TG_play_148 rfl (lv_at hl 2 rfl) ?_
                refine t_get (C := cN_TG) (T := cF_TG) (N := 12) (ci := 7) hx hb htw wU_TG hown hK hP 0 (by decide) rfl rfl 4 (by decide) rfl ww_226 rfl mD_TG_play_149 ?_
                refine lv_iload_n hx hb mD_TG_play_152 rfl (lv_at hl 1 rfl) ?_
                refine gc_Vr (As := [.int (nI q)]) (rest := []) hx hb hml hown htw hK hP hS 108 (k_Le_take l D ct ad hI y (q := q) hf.1) gZ0_ok (fun _ _ _ => trivial) (gA_mono hS.1) (by decide) rfl rfl ww_359 ww_360 ww_361 ww_28 wC_Le_take mP_Le_take (by decide) rfl hl.1 rfl (Nat.le_of_ble_eq_true rfl) mD_TG_play_153 ⟨Nat.le_of_ble_eq_true rfl, Nat.le_of_ble_eq_true rfl⟩ (fun r8 x7 H locs hp7 hP _ _ hS => ?_)
                obtain ⟨ra, e1⟩ := hp7
                subst ra
                have hq := hf.1
                have hc1 := hinv2.2 (8 + i0) (by omega)
                have f1 : x7.1 (355 + 2 * (8 + i0)) = y.1 (355 + 2 * (8 + i0)) := by rw [e1, va_up_ne _ _ (by omega), va_up_ne _ _ (by omega)]
                refine lv_aload_n hx hb mD_TG_play_156 rfl (lv_at hl 2 rfl) ?_
                refine t_get (C := cN_TG) (T := cF_TG) (N := 12) (ci := 7) hx hb htw wU_TG hown hK hP 0 (by decide) rfl rfl 6 (by decide) rfl ww_228 rfl mD_TG_play_157 ?_
                refine lv_iload_n hx hb mD_TG_play_160 rfl (lv_at hl 3 rfl) ?_
                refine t_aldq hx hb hK hP 354 32 (by decide) rfl ((8 + i0)) rfl (by omega) (by decide) rfl mD_TG_play_161 ?_
                refine gc_Vv (As := [.ref (ad ((355 + 2 * ((8 + i0)))))]) (rest := []) hx hb hml hown htw hK hP hS ((110 + 2 * q)) (k_Ce_becomeLike l D ct ad hI x7 (kc := 110 + 2 * q) (ko := 355 + 2 * (8 + i0)) (tCe_led hq) (tCe_pl (by omega)) (by omega) (by rw [f1, hc1.2.2.1]; exact tBi_bit _)) gZ0_ok (fun _ _ _ => trivial) (gA_mono hS.1) (tCe_lt (tCe_led (c := q) hf.1)) (tE_cell (tCe_led (c := q) hf.1)) rfl ww_621 ww_421 ww_422 ww_29 wC_Ce_becomeLike mP_Ce_becomeLike (by decide) rfl hl.1 rfl (Nat.le_of_ble_eq_true rfl) mD_TG_play_162 ⟨Nat.le_of_ble_eq_true rfl, Nat.le_of_ble_eq_true rfl⟩ (fun x9 H locs hp9 hP _ _ hS => ?_)
                obtain ⟨g, e2, hg⟩ := hp9
                refine lv_iload_n hx hb mD_TG_play_165 rfl (lv_at hl 1 rfl) ?_
                subst hQ
                exact gw_iret hx hb hr hlocks hP hS (⟨rfl, (by have h3 := tR_pnew hinv2.1 hf e1 e2 hg (by omega) hc1; rw [show aPb (8 + i0) = 3186688 from if_neg (by omega)] at h3; exact h3)⟩) mD_TG_play_166 (Nat.zero_le _) (Nat.zero_le _)
              · skip
                rw [pk_sub (by omega), show 8 + i0 - 8 = i0 by omega] at hc
                have hin : i ≤ i0 := by refine Nat.le_of_not_lt (fun z => hc ?_); exact nI_lt z (by omega)
                have hln : tLn y.1 i (aL α i) := hinv2.1.2.2.2.1.2.2 i (show i < aZ α by omega)
                have hl1 := hln.2.1.2
                have hl2 := hln.2.2.2
                refine lv_aload_n hx hb mD_TG_play_88 rfl (lv_at hl 2 rfl) ?_
                refine lv_aload_n hx hb mD_TG_play_89 rfl (lv_at hl 2 rfl) ?_
                refine t_get (C := cN_TG) (T := cF_TG) (N := 12) (ci := 7) hx hb htw wU_TG hown hK hP 0 (by decide) rfl rfl 5 (by decide) rfl ww_227 rfl mD_TG_play_90 ?_
                refine t_get (C := cN_Ci) (T := cF_Ci) (N := 4) (ci := 1) hx hb htw wU_Ci hown hK hP 350 (by decide) rfl rfl 0 (by decide) rfl ww_155 rfl mD_TG_play_93 ?_
                refine lv_iload hx hb mD_TG_play_96 (lv_at hl 0 rfl) ?_
                refine t_iald hx hb hK hP 351 24 (by decide) rfl i rfl (by omega) (by decide) mD_TG_play_98 ?_
                refine lv_aload_n hx hb mD_TG_play_99 rfl (lv_at hl 2 rfl) ?_
                refine t_get (C := cN_TG) (T := cF_TG) (N := 12) (ci := 7) hx hb htw wU_TG hown hK hP 0 (by decide) rfl rfl 6 (by decide) rfl ww_228 rfl mD_TG_play_100 ?_
                refine lv_aload_n hx hb mD_TG_play_103 rfl (lv_at hl 2 rfl) ?_
                refine t_get (C := cN_TG) (T := cF_TG) (N := 12) (ci := 7) hx hb htw wU_TG hown hK hP 0 (by decide) rfl rfl 5 (by decide) rfl ww_227 rfl mD_TG_play_104 ?_
                refine t_get (C := cN_Ci) (T := cF_Ci) (N := 4) (ci := 1) hx hb htw wU_Ci hown hK hP 350 (by decide) rfl rfl 1 (by decide) rfl ww_157 rfl mD_TG_play_107 ?_
                refine lv_iload hx hb mD_TG_play_110 (lv_at hl 0 rfl) ?_
                refine t_iald hx hb hK hP 352 24 (by decide) rfl i rfl (by omega) (by decide) mD_TG_play_112 ?_
                refine t_aldq hx hb hK hP 354 32 (by decide) rfl ((aL α i).2.1) hln.2.1.1 (by omega) (by decide) rfl mD_TG_play_113 ?_
                refine lv_aload_n hx hb mD_TG_play_114 rfl (lv_at hl 2 rfl) ?_
                refine t_get (C := cN_TG) (T := cF_TG) (N := 12) (ci := 7) hx hb htw wU_TG hown hK hP 0 (by decide) rfl rfl 6 (by decide) rfl ww_228 rfl mD_TG_play_115 ?_
                refine lv_aload_n hx hb mD_TG_play_118 rfl (lv_at hl 2 rfl) ?_
                refine t_get (C := cN_TG) (T := cF_TG) (N := 12) (ci := 7) hx hb htw wU_TG hown hK hP 0 (by decide) rfl rfl 5 (by decide) rfl ww_227 rfl mD_TG_play_119 ?_
                refine t_get (C := cN_Ci) (T := cF_Ci) (N := 4) (ci := 1) hx hb htw wU_Ci hown hK hP 350 (by decide) rfl rfl 2 (by decide) rfl ww_159 rfl mD_TG_play_122 ?_
                refine lv_iload hx hb mD_TG_play_125 (lv_at hl 0 rfl) ?_
                refine t_iald hx hb hK hP 353 24 (by decide) rfl i rfl (by omega) (by decide) mD_TG_play_127 ?_
                refine t_aldq hx hb hK hP 354 32 (by decide) rfl ((aL α i).2.2) hln.2.2.1 (by omega) (by decide) rfl mD_TG_play_128 ?_
                refine lv_aload_n hx hb mD_TG_play_129 rfl (lv_at hl 2 rfl) ?_
                refine t_get (C := cN_TG) (T := cF_TG) (N := 12) (ci := 7) hx hb htw wU_TG hown hK hP 0 (by decide) rfl rfl 6 (by decide) rfl ww_228 rfl mD_TG_play_130 ?_
                refine lv_bipush (v := nI 8) hx hb mD_TG_play_133 (by decide) ?_
                refine lv_iload hx hb mD_TG_play_135 (lv_at hl 0 rfl) ?_
                refine lv_iadd hx hb mD_TG_play_137 ?_
                refine t_aldq hx hb hK hP 354 32 (by decide) rfl ((8 + i)) (nI_add 8 i) (by omega) (by decide) rfl mD_TG_play_138 ?_
                rw [hln.1.1]
                refine gc_Vv (As := [.int (nI (aL α i).1), .ref (ad ((355 + 2 * ((aL α i).2.1)))), .ref (ad ((355 + 2 * ((aL α i).2.2)))), .ref (ad ((355 + 2 * ((8 + i)))))]) (rest := []) hx hb hml hown htw hK hP hS 0 (k_TG_runGate l D ct ad hI y h0 (gt := (aL α i).1) (k1 := 355 + 2 * (aL α i).2.1) (k2 := 355 + 2 * (aL α i).2.2) (kd := 355 + 2 * (8 + i)) (z1 := aPl α n i (aL α i).2.1) (z2 := aPl α n i (aL α i).2.2) hln.1.2 (tCe_pl (by omega)) (tCe_pl (by omega)) (tCe_pl (by omega)) (by omega) (by omega) (hinv2.2 _ hln.2.1.2).2.2.1 (hinv2.2 _ hln.2.2.2).2.2.1 hinv2.1.1) (tZ_ok s0) (tZ_at hZ hS) (gA_mono hS.1) (by decide) rfl rfl ww_501 ww_503 ww_10 ww_23 wC_TG_runGate mP_TG_runGate (by decide) rfl hl.1 rfl (Nat.le_of_ble_eq_true rfl) mD_TG_play_139 ⟨Nat.le_of_ble_eq_true rfl, Nat.le_of_ble_eq_true rfl⟩ (fun x11 H locs hp11 hP _ _ hS => ?_)
                obtain ⟨fr, ed, e0, hg⟩ := hp11
                refine lv_iinc (k := 0) (v := nI (i + 1)) (lv' := [(4, .int (nI (i + 1))), (3, .int (nI q)), (0, .ref (ad 0)), (1, .int (nI (8 + i0))), (2, .int (nI n))]) hx hb mD_TG_play_142 hl rfl (by rw [lit1, nI_1]) (by decide) rfl (fun ls hl => ?_)
                refine lv_goto (tgt := 79) hx hb mD_TG_play_145 rfl ?_
                exact ih2 (d79 - 1) (by omega) (i + 1) x11 _ _ _ (by omega) (lv_sub hl [0, 1, 2, 3, 4] rfl) hP hS ⟨(by rw [← ta_n]; exact tR_gate hinv2.1 (fun k a1 a2 a3 a4 a5 => fr k a1 a2 a3 a4 (by omega) (by omega)) e0), fun j hj => by by_cases qj : j = 8 + i; subst qj; exact ⟨by have := aPb_le (8 + i); omega, by rw [ed, pk_un (by decide), pk_us, show aPb (8 + i) = 3186688 from if_neg (by omega)]; rfl, by rw [ed, pk_us]; exact congrArg tBi (va_up_self _ _ _).symm, by rw [show aPl α n (i + 1) (8 + i) = tp_truth (aL α i).1 (aPl α n i (aL α i).2.1) (aPl α n i (aL α i).2.2) from va_up_self _ _ _, fr 3 (by omega) (by omega) (by omega) (by omega) (by omega) (by omega), show aPb (8 + i) = 3186688 from if_neg (by omega)]; exact hg (aPb (aL α i).2.1) (aPb (aL α i).2.2) (hinv2.2 _ hln.2.1.2).2.2.2 (hinv2.2 _ hln.2.2.2).2.2.2 (aPb_far _ _ _)⟩; rw [tp_up (by omega)]; exact tCok_eq (hinv2.2 j (by omega)) (fr _ (by omega) (by omega) (by omega) (by omega) (by omega) (by omega)) (fr _ (by omega) (by omega) (by omega) (by omega) (by omega) (by omega)) (fr _ (by omega) (by omega) (by omega) (by omega) (by omega) (by omega))⟩
          exact loop2 (i0 + 1) 0 y _ _ _ (by omega) hl hP hS ⟨(by rw [show aG α + nI 0 = aG α from Int32.add_zero _]; exact tR_scr hR hinv.1), fun j hj => by have hj8 : j < 8 := hj; unfold aPb; rw [if_pos hj8]; exact hinv.2 j hj8⟩
        · skip
          have hn_k : k < 8 := ts_lt (by omega) (by omega) hc
          refine lv_aload_n hx hb mD_TG_play_44 rfl (lv_at hl 2 rfl) ?_
          refine lv_aload_n hx hb mD_TG_play_45 rfl (lv_at hl 2 rfl) ?_
          refine t_get (C := cN_TG) (T := cF_TG) (N := 12) (ci := 7) hx hb htw wU_TG hown hK hP 0 (by decide) rfl rfl 6 (by decide) rfl ww_228 rfl mD_TG_play_46 ?_
          refine lv_iload hx hb mD_TG_play_49 (lv_at hl 0 rfl) ?_
          refine t_aldq hx hb hK hP 354 32 (by decide) rfl k rfl (by omega) (by decide) rfl mD_TG_play_51 ?_
          refine lv_iload_n hx hb mD_TG_play_52 rfl (lv_at hl 4 rfl) ?_
          refine lv_iload hx hb mD_TG_play_53 (lv_at hl 0 rfl) ?_
          refine lv_ishr hx hb mD_TG_play_55 ?_
          refine lv_iconst (v := nI 1) hx hb mD_TG_play_56 (by decide) ?_
          refine lv_iand hx hb mD_TG_play_57 ?_
          refine lv_iconst (v := nI 1) hx hb mD_TG_play_58 (by decide) ?_
          refine lv_icmp_ne (tgt := 66) hx hb mD_TG_play_59 rfl (fun h9 => ?_) (fun h9 => ?_)
          · skip
            refine lv_iconst (v := nI 0) hx hb mD_TG_play_66 (by decide) ?_
            have hz_ : aIn n k = false := by unfold aIn; exact decide_eq_false h9
            rw [show nI 0 = tBi false from rfl]
            refine gc_Vv (As := [.ref (ad ((355 + 2 * k))), .int (tBi false)]) (rest := []) hx hb hml hown htw hK hP hS 0 (k_TG_fillNew l D ct ad hI y (kc := 355 + 2 * k) (tCe_pl (by omega)) false) gZ0_ok (fun _ _ _ => trivial) (gA_mono hS.1) (by decide) rfl rfl ww_363 ww_365 ww_4 ww_23 wC_TG_fillNew mP_TG_fillNew (by decide) rfl hl.1 rfl (Nat.le_of_ble_eq_true rfl) mD_TG_play_67 ⟨Nat.le_of_ble_eq_true rfl, Nat.le_of_ble_eq_true rfl⟩ (fun x13 H locs hp13 hP _ _ hS => ?_)
            obtain ⟨g, e2, hg⟩ := hp13
            refine lv_iinc (k := 0) (v := nI (k + 1)) (lv' := [(4, .int (nI (k + 1))), (3, .int (nI q)), (0, .ref (ad 0)), (1, .int (nI (8 + i0))), (2, .int (nI n))]) hx hb mD_TG_play_70 hl rfl (by rw [lit1, nI_1]) (by decide) rfl (fun ls hl => ?_)
            refine lv_goto (tgt := 37) hx hb mD_TG_play_73 rfl ?_
            exact ih (d37 - 1) (by omega) (k + 1) x13 _ _ _ (by omega) (lv_sub hl [0, 1, 2, 3, 4] rfl) hP hS ⟨fun j hj => by rw [e2, va_up_ne _ _ (by omega), va_up_ne _ _ (by omega)]; exact hinv.1 j hj, fun j hj => by by_cases qj : j = k; subst qj; rw [hz_]; exact tc_new (tCe_pl (by omega)) e2 hg; exact tCok_eq (hinv.2 j (by omega)) (by rw [e2, va_up_ne _ _ (by omega), va_up_ne _ _ (by omega)]) (by rw [e2, va_up_ne _ _ (by omega), va_up_ne _ _ (by omega)]) (by rw [e2, va_up_ne _ _ (by omega), va_up_ne _ _ (by omega)])⟩
          · skip
            refine lv_iconst (v := nI 1) hx hb mD_TG_play_62 (by decide) ?_
            refine lv_goto (tgt := 67) hx hb mD_TG_play_63 rfl ?_
            have hz_ : aIn n k = true := by unfold aIn; exact decide_eq_true h9
            rw [show nI 1 = tBi true from rfl]
            refine gc_Vv (As := [.ref (ad ((355 + 2 * k))), .int (tBi true)]) (rest := []) hx hb hml hown htw hK hP hS 0 (k_TG_fillNew l D ct ad hI y (kc := 355 + 2 * k) (tCe_pl (by omega)) true) gZ0_ok (fun _ _ _ => trivial) (gA_mono hS.1) (by decide) rfl rfl ww_363 ww_365 ww_4 ww_23 wC_TG_fillNew mP_TG_fillNew (by decide) rfl hl.1 rfl (Nat.le_of_ble_eq_true rfl) mD_TG_play_67 ⟨Nat.le_of_ble_eq_true rfl, Nat.le_of_ble_eq_true rfl⟩ (fun x15 H locs hp15 hP _ _ hS => ?_)
            obtain ⟨g, e2, hg⟩ := hp15
            refine lv_iinc (k := 0) (v := nI (k + 1)) (lv' := [(4, .int (nI (k + 1))), (3, .int (nI q)), (0, .ref (ad 0)), (1, .int (nI (8 + i0))), (2, .int (nI n))]) hx hb mD_TG_play_70 hl rfl (by rw [lit1, nI_1]) (by decide) rfl (fun ls hl => ?_)
            refine lv_goto (tgt := 37) hx hb mD_TG_play_73 rfl ?_
            exact ih (d37 - 1) (by omega) (k + 1) x15 _ _ _ (by omega) (lv_sub hl [0, 1, 2, 3, 4] rfl) hP hS ⟨fun j hj => by rw [e2, va_up_ne _ _ (by omega), va_up_ne _ _ (by omega)]; exact hinv.1 j hj, fun j hj => by by_cases qj : j = k; subst qj; rw [hz_]; exact tc_new (tCe_pl (by omega)) e2 hg; exact tCok_eq (hinv.2 j (by omega)) (by rw [e2, va_up_ne _ _ (by omega), va_up_ne _ _ (by omega)]) (by rw [e2, va_up_ne _ _ (by omega), va_up_ne _ _ (by omega)]) (by rw [e2, va_up_ne _ _ (by omega), va_up_ne _ _ (by omega)])⟩
    exact loop 8 0 x _ _ _ (by omega) hl hP hS ⟨fun _ _ => rfl, fun _ h => absurd h (Nat.not_lt_zero _)⟩
  · skip
    exfalso; rcases hr_ with ⟨e, _⟩ | ⟨_, h⟩; exact absurd (e.symm.trans hc) (by decide); exact h ⟨8 + i0, by omega, by omega, rfl⟩

set_option maxHeartbeats 4000000 in
set_option maxRecDepth 100000 in
theorem x_TG_play1 (l : Launch) (D : va_G) (ct : Nat → ClassId) (ad : Nat → Nat) (hI : gw_inj 424 ad) (x : tS) (hls : l.stackTraces = false) {s0 : State} {zt : Nat → Nat} (h0 : tO s0 zt) (α : tA) (hR : tR α x.1) (a b : Int32) (hh : ¬ ∃ q, 8 ≤ q ∧ q < 8 + aZ α ∧ a = nI q) : gX l mY_TG_play mB_TG_play 5 (some .int) (rX 7 151) D (tT ct) (tZ s0) 424 ad (tD ct ad) [.ref (ad 0), .int a, .int b] x tX_N (fun x' => tR α x'.1) := by
  refine gX_enter (by decide) (Nat.le_of_ble_eq_true rfl) ?_
  intro p e s m below meth c ls hx hb hr htw hown hlocks hml hl hP hK hZ hS hno
  have hA : ∀ k, k < 424 → gA 424 ad s.heap.size (ad k) := fun _ h => gA_in h
  have hl : lv_has ls 5 [(0, .ref (ad 0)), (1, .int a), (2, .int b)] := hl
  have hP0 := hP
  refine lv_aload_n hx hb mD_TG_play_0 rfl (lv_at hl 0 rfl) ?_
  refine t_get (C := cN_TG) (T := cF_TG) (N := 12) (ci := 7) hx hb htw wU_TG hown hK hP 0 (by decide) rfl rfl 5 (by decide) rfl ww_227 rfl mD_TG_play_1 ?_
  refine lv_iload_n hx hb mD_TG_play_4 rfl (lv_at hl 1 rfl) ?_
  refine gc_Vi (As := [.int a]) (rest := []) hx hb hml hown htw hK hP hS 350 (k_Ci_hasLine l D ct ad hI x a hR.2.2.2.1.2.1 hR.2.2.2.1.1) gZ0_ok (fun _ _ _ => trivial) (gA_mono hS.1) (by decide) rfl rfl ww_615 ww_616 ww_617 ww_30 wC_Ci_hasLine mP_Ci_hasLine (by decide) rfl hl.1 rfl (Nat.le_of_ble_eq_true rfl) mD_TG_play_5 ⟨Nat.le_of_ble_eq_true rfl, Nat.le_of_ble_eq_true rfl⟩ (fun r2 x1 H locs hp1 hP _ _ hS => ?_)
  obtain ⟨hq_, hr_⟩ := hp1
  rw [hq_] at hP
  have h24 := hR.2.2.2.1.1
  refine lv_if_ne (tgt := 21) hx hb mD_TG_play_8 rfl (fun hc => ?_) (fun hc => ?_)
  · skip
    exfalso; rcases hr_ with ⟨_, h⟩ | ⟨e, _⟩; exact hh h; exact hc e
  · skip
    obtain ⟨sa, hsa⟩ := tO_str h0 hZ 9 rfl
    exact tx_thN hx hb (hl.1.trans hml.symm) hown hls hno hlocks h0 hZ hsa hP0 hP hS (hR) (by decide) (by decide) (by decide) (by decide) (by decide) (by decide) mD_TG_play_11 mD_TG_play_14 mD_TG_play_15 mD_TG_play_17 mD_TG_play_20

set_option maxHeartbeats 4000000 in
set_option maxRecDepth 100000 in
theorem x_TG_play2 (l : Launch) (D : va_G) (ct : Nat → ClassId) (ad : Nat → Nat) (hI : gw_inj 424 ad) (x : tS) (hls : l.stackTraces = false) {s0 : State} {zt : Nat → Nat} (h0 : tO s0 zt) (α : tA) (hR : tR α x.1) {i0 : Nat} (hi0 : i0 < aZ α) (b : Int32) (hn : ¬ ∃ q, q ≤ 255 ∧ b = nI q) : gX l mY_TG_play mB_TG_play 5 (some .int) (rX 7 151) D (tT ct) (tZ s0) 424 ad (tD ct ad) [.ref (ad 0), .int (nI (8 + i0)), .int b] x tX_A (fun x' => tR α x'.1) := by
  refine gX_enter (by decide) (Nat.le_of_ble_eq_true rfl) ?_
  intro p e s m below meth c ls hx hb hr htw hown hlocks hml hl hP hK hZ hS hno
  have hA : ∀ k, k < 424 → gA 424 ad s.heap.size (ad k) := fun _ h => gA_in h
  have hl : lv_has ls 5 [(0, .ref (ad 0)), (1, .int (nI (8 + i0))), (2, .int b)] := hl
  have hP0 := hP
  refine lv_aload_n hx hb mD_TG_play_0 rfl (lv_at hl 0 rfl) ?_
  refine t_get (C := cN_TG) (T := cF_TG) (N := 12) (ci := 7) hx hb htw wU_TG hown hK hP 0 (by decide) rfl rfl 5 (by decide) rfl ww_227 rfl mD_TG_play_1 ?_
  refine lv_iload_n hx hb mD_TG_play_4 rfl (lv_at hl 1 rfl) ?_
  refine gc_Vi (As := [.int (nI (8 + i0))]) (rest := []) hx hb hml hown htw hK hP hS 350 (k_Ci_hasLine l D ct ad hI x (nI (8 + i0)) hR.2.2.2.1.2.1 hR.2.2.2.1.1) gZ0_ok (fun _ _ _ => trivial) (gA_mono hS.1) (by decide) rfl rfl ww_615 ww_616 ww_617 ww_30 wC_Ci_hasLine mP_Ci_hasLine (by decide) rfl hl.1 rfl (Nat.le_of_ble_eq_true rfl) mD_TG_play_5 ⟨Nat.le_of_ble_eq_true rfl, Nat.le_of_ble_eq_true rfl⟩ (fun r2 x1 H locs hp1 hP _ _ hS => ?_)
  obtain ⟨hq_, hr_⟩ := hp1
  rw [hq_] at hP
  have h24 := hR.2.2.2.1.1
  refine lv_if_ne (tgt := 21) hx hb mD_TG_play_8 rfl (fun hc => ?_) (fun hc => ?_)
  · skip
    refine lv_aload_n hx hb mD_TG_play_21 rfl (lv_at hl 0 rfl) ?_
    refine lv_iload_n hx hb mD_TG_play_22 rfl (lv_at hl 2 rfl) ?_
    refine lv_sipush (v := nI 255) hx hb mD_TG_play_23 (by decide) ?_
    refine tx_call (As := [.int b, .int (nI 255)]) (rest := []) hx hb hml hown htw hK hP hS 0 (x_TG_checkRange l D ct ad hI x hls h0 b (N := 255) (by decide) hn) (tZ_ok s0) (tZ_at hZ hS) (gA_mono hS.1) (by decide) rfl rfl ww_439 ww_441 ww_6 ww_23 wC_TG_checkRange mP_TG_checkRange (by decide) rfl hl.1 rfl (Nat.le_of_ble_eq_true rfl) mD_TG_play_26 ⟨Nat.le_of_ble_eq_true rfl, Nat.le_of_ble_eq_true rfl⟩ (fun q ce x3 H locs hp hP _ _ hS hce hcv hcl => ?_)
    exact tx_out hno hlocks hP hS (hp ▸ hR) hce hcv hcl (by decide) (by decide)
  · skip
    exfalso; rcases hr_ with ⟨e, _⟩ | ⟨_, h⟩; exact absurd (e.symm.trans hc) (by decide); exact h ⟨8 + i0, by omega, by omega, rfl⟩

set_option maxHeartbeats 4000000 in
set_option maxRecDepth 100000 in
theorem x_TG_play3 (l : Launch) (D : va_G) (ct : Nat → ClassId) (ad : Nat → Nat) (hI : gw_inj 424 ad) (x : tS) (hls : l.stackTraces = false) {s0 : State} {zt : Nat → Nat} (h0 : tO s0 zt) (α : tA) (hR : tR α x.1) {i0 n : Nat} (hi0 : i0 < aZ α) (hn : n ≤ 255) (hf : aFull α) : gX l mY_TG_play mB_TG_play 5 (some .int) (rX 7 151) D (tT ct) (tZ s0) 424 ad (tD ct ad) [.ref (ad 0), .int (nI (8 + i0)), .int (nI n)] x tX_S (fun x' => tR α x'.1) := by
  refine gX_enter (by decide) (Nat.le_of_ble_eq_true rfl) ?_
  intro p e s m below meth c ls hx hb hr htw hown hlocks hml hl hP hK hZ hS hno
  have hA : ∀ k, k < 424 → gA 424 ad s.heap.size (ad k) := fun _ h => gA_in h
  have hl : lv_has ls 5 [(0, .ref (ad 0)), (1, .int (nI (8 + i0))), (2, .int (nI n))] := hl
  have hP0 := hP
  refine lv_aload_n hx hb mD_TG_play_0 rfl (lv_at hl 0 rfl) ?_
  refine t_get (C := cN_TG) (T := cF_TG) (N := 12) (ci := 7) hx hb htw wU_TG hown hK hP 0 (by decide) rfl rfl 5 (by decide) rfl ww_227 rfl mD_TG_play_1 ?_
  refine lv_iload_n hx hb mD_TG_play_4 rfl (lv_at hl 1 rfl) ?_
  refine gc_Vi (As := [.int (nI (8 + i0))]) (rest := []) hx hb hml hown htw hK hP hS 350 (k_Ci_hasLine l D ct ad hI x (nI (8 + i0)) hR.2.2.2.1.2.1 hR.2.2.2.1.1) gZ0_ok (fun _ _ _ => trivial) (gA_mono hS.1) (by decide) rfl rfl ww_615 ww_616 ww_617 ww_30 wC_Ci_hasLine mP_Ci_hasLine (by decide) rfl hl.1 rfl (Nat.le_of_ble_eq_true rfl) mD_TG_play_5 ⟨Nat.le_of_ble_eq_true rfl, Nat.le_of_ble_eq_true rfl⟩ (fun r2 x1 H locs hp1 hP _ _ hS => ?_)
  obtain ⟨hq_, hr_⟩ := hp1
  rw [hq_] at hP
  have h24 := hR.2.2.2.1.1
  refine lv_if_ne (tgt := 21) hx hb mD_TG_play_8 rfl (fun hc => ?_) (fun hc => ?_)
  · skip
    refine lv_aload_n hx hb mD_TG_play_21 rfl (lv_at hl 0 rfl) ?_
    refine lv_iload_n hx hb mD_TG_play_22 rfl (lv_at hl 2 rfl) ?_
    refine lv_sipush (v := nI 255) hx hb mD_TG_play_23 (by decide) ?_
    refine gc_Vv (As := [.int (nI n), .int (nI 255)]) (rest := []) hx hb hml hown htw hK hP hS 0 (k_TG_checkRange l D ct ad hI x (q := n) (N := 255) hn (by decide)) gZ0_ok (fun _ _ _ => trivial) (gA_mono hS.1) (by decide) rfl rfl ww_439 ww_441 ww_6 ww_23 wC_TG_checkRange mP_TG_checkRange (by decide) rfl hl.1 rfl (Nat.le_of_ble_eq_true rfl) mD_TG_play_26 ⟨Nat.le_of_ble_eq_true rfl, Nat.le_of_ble_eq_true rfl⟩ (fun x3 H locs hp3 hP _ _ hS => ?_)
    have hq_ := hp3
    rw [hq_] at hP
    refine lv_aload_n hx hb mD_TG_play_29 rfl (lv_at hl 0 rfl) ?_
    refine tx_call (As := []) (rest := []) hx hb hml hown htw hK hP hS 0 (x_TG_freeNumber l D ct ad hI x hls h0 (tR_fl hR hf)) (tZ_ok s0) (tZ_at hZ hS) (gA_mono hS.1) (by decide) rfl rfl ww_283 ww_285 ww_2 ww_23 wC_TG_freeNumber mP_TG_freeNumber (by decide) rfl hl.1 rfl (Nat.le_of_ble_eq_true rfl) mD_TG_play_30 ⟨Nat.le_of_ble_eq_true rfl, Nat.le_of_ble_eq_true rfl⟩ (fun q ce x5 H locs hp hP _ _ hS hce hcv hcl => ?_)
    exact tx_out hno hlocks hP hS (hp ▸ hR) hce hcv hcl (by decide) (by decide)
  · skip
    exfalso; rcases hr_ with ⟨e, _⟩ | ⟨_, h⟩; exact absurd (e.symm.trans hc) (by decide); exact h ⟨8 + i0, by omega, by omega, rfl⟩
