/-! the reference: play, count. Laid by wip/whole/part_mo3.py. -/

theorem tk_line {a : Int32} {N : Nat} (hN : N < 2 ^ 30) (h0 : ¬ a < nI 8) (h1 : ¬ nI N ≤ a) : ∃ q, 8 ≤ q ∧ q < N ∧ a = nI q := by
  have h8 : (nI 8).toInt = 8 := nI_toInt (by decide)
  have h2 : ¬ a < 0 := fun z => h0 (Int32.lt_iff_toInt_lt.mpr (by
    have h3 := Int32.lt_iff_toInt_lt.mp z
    have h4 : (0 : Int32).toInt = 0 := by decide
    omega))
  obtain ⟨q, h3, h4⟩ := tb_idx (by omega) h2 h1
  refine ⟨q, Nat.le_of_not_lt (fun z => h0 ?_), h3, h4⟩
  rw [h4]
  exact nI_lt z (by decide)
theorem aGB_step {α : tA} {k : Nat} {v : Int32} (hb : aGB α k < 1073741824) (ht : aT α k = true) (hbk : aB α k < 1073741824) (hv : v = nI (aB α k)) : (v ≤ nI (aGB α k) → nI (aGB α k) = nI (aGB α (k + 1))) ∧ (¬ v ≤ nI (aGB α k) → v = nI (aGB α (k + 1))) := by
  subst hv
  rw [nI_leI (by omega) (by omega)]
  constructor
  · intro h
    show _ = nI (if aT α k = true ∧ aGB α k < aB α k then aB α k else aGB α k)
    rw [if_neg (fun z => by omega)]
  · intro h
    show _ = nI (if aT α k = true ∧ aGB α k < aB α k then aB α k else aGB α k)
    rw [if_pos ⟨ht, by omega⟩]
theorem aGB_off {α : tA} {k : Nat} (ht : aT α k = false) : nI (aGB α k) = nI (aGB α (k + 1)) := by
  show _ = nI (if aT α k = true ∧ aGB α k < aB α k then aB α k else aGB α k)
  rw [if_neg (fun z => by rw [ht] at z; cases z.1)]

set_option maxHeartbeats 8000000 in
set_option maxRecDepth 100000 in
theorem k_Mo_play (l : Launch) (D : va_G) (ct : Nat → ClassId) (ad : Nat → Nat) (hI : gw_inj 8 ad) (x : mS) (α : tA) (t0 : Int32) (hR : mR α t0 x) {i0 n q : Nat} (hi0 : i0 < aZ α) (hn : n ≤ 255) (hf : aFree α q) : gMi l mY_Mo_play mB_Mo_play 4 (some .int) (rF 1 23) D (tT ct) gZ0 8 ad (mD ct ad) [.ref (ad 0), .int (nI (8 + i0)), .int (nI n)] x (fun r x' => r = nI q ∧ mR (aGates (aMade α q (aPl α n (i0 + 1) (8 + i0)) 3186688) (aG α + nI (i0 + 1))) 0 x') := by
  refine gMi_enter (by decide) (Nat.le_of_ble_eq_true rfl) ?_
  intro p e s m below meth c ls hx hb hr htw hown hlocks hml hl hP hK hZ hS
  have hA : ∀ k, k < 8 → gA 8 ad s.heap.size (ad k) := fun _ h => gA_in h
  have hl : lv_has ls 4 [(0, .ref (ad 0)), (1, .int (nI (8 + i0))), (2, .int (nI n))] := hl
  refine gw_nmQ (fun Q hQ => ?_)
  refine lv_aload_n hx hb mD_Mo_play_0 rfl (lv_at hl 0 rfl) ?_
  have h24 := hR.2.2.2.1.1
  refine lv_iload_n hx hb mD_Mo_play_1 rfl (lv_at hl 1 rfl) ?_
  refine lv_bipush (v := nI 8) hx hb mD_Mo_play_2 (by decide) ?_
  refine lv_icmp_lt (tgt := 22) hx hb mD_Mo_play_4 rfl (fun hc => ?_) (fun hc => ?_)
  · skip
    exfalso; exact nI_nlt (by omega) (by omega) hc
  · skip
    refine lv_iload_n hx hb mD_Mo_play_7 rfl (lv_at hl 1 rfl) ?_
    refine lv_bipush (v := nI 8) hx hb mD_Mo_play_8 (by decide) ?_
    refine lv_aload_n hx hb mD_Mo_play_10 rfl (lv_at hl 0 rfl) ?_
    refine m_get (C := cN_Mo) (T := cF_Mo) (N := 11) (ci := 8) hx hb htw wU_Mo hown hK hP 0 (by decide) rfl rfl 6 (by decide) rfl ww_646 rfl mD_Mo_play_11 ?_
    refine lv_iadd hx hb mD_Mo_play_14 ?_
    refine lv_icmp_ge (tgt := 22) hx hb mD_Mo_play_15 rfl (fun hc => ?_) (fun hc => ?_)
    · skip
      exfalso; rw [hR.2.2.2.1.2, nI_add] at hc; have := (nI_leI (by omega) (by omega)).mp hc; omega
    · skip
      refine lv_iconst (v := nI 1) hx hb mD_Mo_play_18 (by decide) ?_
      refine lv_goto (tgt := 23) hx hb mD_Mo_play_19 rfl ?_
      refine lv_iload_n hx hb mD_Mo_play_23 rfl (lv_at hl 2 rfl) ?_
      refine lv_if_lt (tgt := 38) hx hb mD_Mo_play_24 rfl (fun hc => ?_) (fun hc => ?_)
      · skip
        exfalso; exact nI_pos (by omega) hc
      · skip
        refine lv_iload_n hx hb mD_Mo_play_27 rfl (lv_at hl 2 rfl) ?_
        refine lv_sipush (v := nI 255) hx hb mD_Mo_play_28 (by decide) ?_
        refine lv_icmp_gt (tgt := 38) hx hb mD_Mo_play_31 rfl (fun hc => ?_) (fun hc => ?_)
        · skip
          exfalso; exact nI_nlt (by omega) (by omega) hc
        · skip
          refine lv_iconst (v := nI 1) hx hb mD_Mo_play_34 (by decide) ?_
          refine lv_goto (tgt := 39) hx hb mD_Mo_play_35 rfl ?_
          refine lv_aload_n hx hb mD_Mo_play_39 rfl (lv_at hl 0 rfl) ?_
          refine gc_Vi (As := []) (rest := [.int (nI 1), .int (nI 1), .ref (ad 0)]) hx hb hml hown htw hK hP hS 0 (k_Mo_many l D ct ad hI x (f := aT α) (fun q hq => (hR.1 q hq).1)) gZ0_ok (fun _ _ _ => trivial) (gA_mono hS.1) (by decide) rfl rfl ww_683 ww_685 ww_15 ww_33 wC_Mo_many mP_Mo_many (by decide) rfl hl.1 rfl (Nat.le_of_ble_eq_true rfl) mD_Mo_play_40 ⟨Nat.le_of_ble_eq_true rfl, Nat.le_of_ble_eq_true rfl⟩ (fun r2 x1 H locs hp1 hP _ _ hS => ?_)
          obtain ⟨hq_, rfl⟩ := hp1
          rw [hq_] at hP
          refine lv_bipush (v := nI 120) hx hb mD_Mo_play_43 (by decide) ?_
          refine lv_icmp_ge (tgt := 52) hx hb mD_Mo_play_45 rfl (fun hc => ?_) (fun hc => ?_)
          · skip
            exfalso; exact tm_free hf hc
          · skip
            refine lv_iconst (v := nI 1) hx hb mD_Mo_play_48 (by decide) ?_
            refine lv_goto (tgt := 53) hx hb mD_Mo_play_49 rfl ?_
            refine gc_Vi (As := [.int (nI 1), .int (nI 1), .int (nI 1)]) (rest := []) hx hb hml hown htw hK hP hS 0 (k_Mo_goes l D ct ad hI x (b1 := true) (b2 := true) (b3 := true) rfl rfl rfl) gZ0_ok (fun _ _ _ => trivial) (gA_mono hS.1) (by decide) rfl rfl ww_691 ww_693 ww_16 ww_33 wC_Mo_goes mP_Mo_goes (by decide) rfl hl.1 rfl (Nat.le_of_ble_eq_true rfl) mD_Mo_play_53 ⟨Nat.le_of_ble_eq_true rfl, Nat.le_of_ble_eq_true rfl⟩ (fun r4 x3 H locs hp3 hP _ _ hS => ?_)
            obtain ⟨hy, rfl⟩ := hp3
            have R1 : mR (α) (mCode true true true) x3 := by rw [hy]; exact mR_code hR
            refine lv_if_ne (tgt := 61) hx hb mD_Mo_play_56 rfl (fun hc => ?_) (fun hc => ?_)
            · skip
              refine lv_iconst (v := nI 0) hx hb mD_Mo_play_61 (by decide) ?_
              refine lv_istore_n (lv' := [(3, .int (nI 0)), (0, .ref (ad 0)), (1, .int (nI (8 + i0))), (2, .int (nI n))]) hx hb mD_Mo_play_62 rfl hl (by decide) rfl (fun ls hl => ?_)
              have loop : ∀ (d63 : Nat) (k : Nat) (y : mS) (H : Heap) (locs : List Loc) (ls : Array Slot), k + d63 = 8 → lv_has ls 4 [(3, .int (nI k)), (0, .ref (ad 0)), (1, .int (nI (8 + i0))), (2, .int (nI n))] → va_P D cL (gw 8 ad (mD ct ad y)) H → va_S (gA 8 ad s.heap.size) s.heap H locs → (mR α 0 y ∧ ∀ j, j < k → y 7 j = tBi (aIn n j)) → W p l e (rF 1 23) s m [.ref (ad 0), .int (nI (8 + i0)), .int (nI n)].toArray below meth c H locs 0 0 Q (F0 m 63 ls []) := by
                intro d63
                induction d63 using Nat.strongRecOn with
                | ind d63 ih =>
                  intro k y H locs ls hd hl hP hS hinv
                  refine lv_iload_n hx hb mD_Mo_play_63 rfl (lv_at hl 0 rfl) ?_
                  refine lv_bipush (v := nI 8) hx hb mD_Mo_play_64 (by decide) ?_
                  refine lv_icmp_ge (tgt := 95) hx hb mD_Mo_play_66 rfl (fun hc => ?_) (fun hc => ?_)
                  · skip
                    have hn : k = 8 := by have := ts_ge (by omega) (by omega) hc; omega
                    subst hn
                    refine lv_iconst (v := nI 0) hx hb mD_Mo_play_95 (by decide) ?_
                    refine lv_istore_n (lv' := [(3, .int (nI 0)), (0, .ref (ad 0)), (1, .int (nI (8 + i0))), (2, .int (nI n))]) hx hb mD_Mo_play_96 rfl hl (by decide) rfl (fun ls hl => ?_)
                    have loop2 : ∀ (d97 : Nat) (i : Nat) (y : mS) (H : Heap) (locs : List Loc) (ls : Array Slot), i + d97 = i0 + 1 → lv_has ls 4 [(3, .int (nI i)), (0, .ref (ad 0)), (1, .int (nI (8 + i0))), (2, .int (nI n))] → va_P D cL (gw 8 ad (mD ct ad y)) H → va_S (gA 8 ad s.heap.size) s.heap H locs → (mR (aGates α (aG α + nI i)) 0 y ∧ ∀ j, j < 8 + i → y 7 j = tBi (aPl α n i j)) → W p l e (rF 1 23) s m [.ref (ad 0), .int (nI (8 + i0)), .int (nI n)].toArray below meth c H locs 0 0 Q (F0 m 97 ls []) := by
                      intro d97
                      induction d97 using Nat.strongRecOn with
                      | ind d97 ih2 =>
                        intro i y H locs ls hd hl hP hS hinv2
                        refine lv_iload_n hx hb mD_Mo_play_97 rfl (lv_at hl 0 rfl) ?_
                        refine lv_iload_n hx hb mD_Mo_play_98 rfl (lv_at hl 2 rfl) ?_
                        refine lv_bipush (v := nI 8) hx hb mD_Mo_play_99 (by decide) ?_
                        refine lv_isub hx hb mD_Mo_play_101 ?_
                        refine lv_icmp_gt (tgt := 161) hx hb mD_Mo_play_102 rfl (fun hc => ?_) (fun hc => ?_)
                        · skip
                          rw [pk_sub (by omega), show 8 + i0 - 8 = i0 by omega] at hc
                          have hin : i = i0 + 1 := by have h1 := Int32.lt_iff_toInt_lt.mp hc; rw [nI_toInt (by omega), nI_toInt (by omega)] at h1; omega
                          rw [hin] at hinv2
                          refine lv_aload_n hx hb mD_Mo_play_161 rfl (lv_at hl 1 rfl) ?_
                          refine lv_aload_n hx hb mD_Mo_play_162 rfl (lv_at hl 1 rfl) ?_
                          refine m_get (C := cN_Mo) (T := cF_Mo) (N := 11) (ci := 8) hx hb htw wU_Mo hown hK hP 0 (by decide) rfl rfl 10 (by decide) rfl ww_650 rfl mD_Mo_play_163 ?_
                          refine lv_iload_n hx hb mD_Mo_play_166 rfl (lv_at hl 2 rfl) ?_
                          refine m_zald hx hb hK hP 7 32 (by decide) rfl ((8 + i0)) rfl (by omega) (by decide) mD_Mo_play_167 ?_
                          refine lv_ldc hx hb hown (htw _ ww_743) mD_Mo_play_168 ?_
                          refine gc_Vi (As := [.int (y 7 ((8 + i0))), .int ((3186688 : Int32))]) (rest := []) hx hb hml hown htw hK hP hS 0 (k_Mo_made l D ct ad hI y (z := aPl α n (i0 + 1) (8 + i0)) (hinv2.2 (8 + i0) (by omega)) (b := 3186688) (q := q) rfl hf.1 (mR_fr hinv2.1 hf).1 (mR_fr hinv2.1 hf).2) gZ0_ok (fun _ _ _ => trivial) (gA_mono hS.1) (by decide) rfl rfl ww_695 ww_697 ww_17 ww_33 wC_Mo_made mP_Mo_made (by decide) rfl hl.1 rfl (Nat.le_of_ble_eq_true rfl) mD_Mo_play_170 ⟨Nat.le_of_ble_eq_true rfl, Nat.le_of_ble_eq_true rfl⟩ (fun r6 x5 H locs hp5 hP _ _ hS => ?_)
                          obtain ⟨rfl, ey⟩ := hp5
                          subst hQ
                          exact gw_iret hx hb hr hlocks hP hS (⟨rfl, mR_made hinv2.1 (by decide) ey⟩) mD_Mo_play_173 (Nat.zero_le _) (Nat.zero_le _)
                        · skip
                          rw [pk_sub (by omega), show 8 + i0 - 8 = i0 by omega] at hc
                          have hin : i ≤ i0 := by refine Nat.le_of_not_lt (fun z => hc ?_); exact nI_lt z (by omega)
                          have hln : mLn y i (aL α i) := hinv2.1.2.2.2.2.1 i (show i < aZ α by omega)
                          have hl1 := hln.2.1.2
                          have hl2 := hln.2.2.2
                          refine lv_aload_n hx hb mD_Mo_play_105 rfl (lv_at hl 1 rfl) ?_
                          refine m_get (C := cN_Mo) (T := cF_Mo) (N := 11) (ci := 8) hx hb htw wU_Mo hown hK hP 0 (by decide) rfl rfl 10 (by decide) rfl ww_650 rfl mD_Mo_play_106 ?_
                          refine lv_bipush (v := nI 8) hx hb mD_Mo_play_109 (by decide) ?_
                          refine lv_iload_n hx hb mD_Mo_play_111 rfl (lv_at hl 0 rfl) ?_
                          refine lv_iadd hx hb mD_Mo_play_112 ?_
                          refine lv_aload_n hx hb mD_Mo_play_113 rfl (lv_at hl 1 rfl) ?_
                          refine m_get (C := cN_Mo) (T := cF_Mo) (N := 11) (ci := 8) hx hb htw wU_Mo hown hK hP 0 (by decide) rfl rfl 7 (by decide) rfl ww_647 rfl mD_Mo_play_114 ?_
                          refine lv_iload_n hx hb mD_Mo_play_117 rfl (lv_at hl 0 rfl) ?_
                          refine m_iald hx hb hK hP 4 24 (by decide) rfl i rfl (by omega) (by decide) mD_Mo_play_118 ?_
                          refine lv_aload_n hx hb mD_Mo_play_119 rfl (lv_at hl 1 rfl) ?_
                          refine m_get (C := cN_Mo) (T := cF_Mo) (N := 11) (ci := 8) hx hb htw wU_Mo hown hK hP 0 (by decide) rfl rfl 10 (by decide) rfl ww_650 rfl mD_Mo_play_120 ?_
                          refine lv_aload_n hx hb mD_Mo_play_123 rfl (lv_at hl 1 rfl) ?_
                          refine m_get (C := cN_Mo) (T := cF_Mo) (N := 11) (ci := 8) hx hb htw wU_Mo hown hK hP 0 (by decide) rfl rfl 8 (by decide) rfl ww_648 rfl mD_Mo_play_124 ?_
                          refine lv_iload_n hx hb mD_Mo_play_127 rfl (lv_at hl 0 rfl) ?_
                          refine m_iald hx hb hK hP 5 24 (by decide) rfl i rfl (by omega) (by decide) mD_Mo_play_128 ?_
                          refine m_zald hx hb hK hP 7 32 (by decide) rfl ((aL α i).2.1) hln.2.1.1 (by omega) (by decide) mD_Mo_play_129 ?_
                          refine lv_aload_n hx hb mD_Mo_play_130 rfl (lv_at hl 1 rfl) ?_
                          refine m_get (C := cN_Mo) (T := cF_Mo) (N := 11) (ci := 8) hx hb htw wU_Mo hown hK hP 0 (by decide) rfl rfl 10 (by decide) rfl ww_650 rfl mD_Mo_play_131 ?_
                          refine lv_aload_n hx hb mD_Mo_play_134 rfl (lv_at hl 1 rfl) ?_
                          refine m_get (C := cN_Mo) (T := cF_Mo) (N := 11) (ci := 8) hx hb htw wU_Mo hown hK hP 0 (by decide) rfl rfl 9 (by decide) rfl ww_649 rfl mD_Mo_play_135 ?_
                          refine lv_iload_n hx hb mD_Mo_play_138 rfl (lv_at hl 0 rfl) ?_
                          refine m_iald hx hb hK hP 6 24 (by decide) rfl i rfl (by omega) (by decide) mD_Mo_play_139 ?_
                          refine m_zald hx hb hK hP 7 32 (by decide) rfl ((aL α i).2.2) hln.2.2.1 (by omega) (by decide) mD_Mo_play_140 ?_
                          rw [hln.1.1]
                          refine gc_Si (As := [.int (nI (aL α i).1), .int (y 7 ((aL α i).2.1)), .int (y 7 ((aL α i).2.2))]) (rest := [.int ((nI 8) + (nI i)), .ref (ad 7)]) hx hb hml hown htw hK hP hS (k_Mo_value l D ct ad hI y (gt := (aL α i).1) hln.1.2 (z1 := aPl α n i (aL α i).2.1) (z2 := aPl α n i (aL α i).2.2) (hinv2.2 _ hln.2.1.2) (hinv2.2 _ hln.2.2.2)) gZ0_ok (fun _ _ _ => trivial) (gA_mono hS.1) ww_740 ww_741 ww_33 wC_Mo_value mP_Mo_value (by decide) rfl hl.1 rfl (Nat.le_of_ble_eq_true rfl) mD_Mo_play_141 ⟨Nat.le_of_ble_eq_true rfl, Nat.le_of_ble_eq_true rfl⟩ (fun r8 x7 H locs hp7 hP _ _ hS => ?_)
                          obtain ⟨hq_, rfl⟩ := hp7
                          rw [hq_] at hP
                          refine m_zast hx hb hK hI hA hP hS 7 32 (by decide) (fun _ => rfl) ((8 + i)) (nI_add 8 i) (by omega) (by decide) (tBi_bit _) mD_Mo_play_144 (fun H locs hP hS => ?_)
                          obtain ⟨x9, hx9⟩ : ∃ z_, z_ = va_up y 7 (upd (y 7) ((8 + i)) (tBi (tp_truth (aL α i).1 (aPl α n i (aL α i).2.1) (aPl α n i (aL α i).2.2)))) := ⟨_, rfl⟩
                          rw [← hx9] at hP
                          refine lv_aload_n hx hb mD_Mo_play_145 rfl (lv_at hl 1 rfl) ?_
                          refine lv_dup hx hb mD_Mo_play_146 rfl ?_
                          refine m_get (C := cN_Mo) (T := cF_Mo) (N := 11) (ci := 8) hx hb htw wU_Mo hown hK hP 0 (by decide) rfl rfl 4 (by decide) rfl ww_644 rfl mD_Mo_play_147 ?_
                          refine lv_iconst (v := nI 1) hx hb mD_Mo_play_150 (by decide) ?_
                          refine lv_iadd hx hb mD_Mo_play_151 ?_
                          refine m_put (C := cN_Mo) (T := cF_Mo) (N := 11) (ci := 8) hx hb htw wU_Mo cT_Mo cO_Mo cM_Mo hown hK hI hA hP hS 0 (by decide) rfl rfl 4 (by decide) rfl ww_644 rfl rfl rfl (Nat.le_of_ble_eq_true rfl) rfl mD_Mo_play_152 (fun H locs hP hS => ?_)
                          obtain ⟨x10, hx10⟩ : ∃ z_, z_ = va_up x9 0 (upd (x9 0) 4 ((x9 0 4) + (nI 1))) := ⟨_, rfl⟩
                          rw [← hx10] at hP
                          refine lv_iinc (k := 0) (v := nI (i + 1)) (lv' := [(3, .int (nI (i + 1))), (0, .ref (ad 0)), (1, .int (nI (8 + i0))), (2, .int (nI n))]) hx hb mD_Mo_play_155 hl rfl (by rw [lit1, nI_1]) (by decide) rfl (fun ls hl => ?_)
                          refine lv_goto (tgt := 97) hx hb mD_Mo_play_158 rfl ?_
                          exact ih2 (d97 - 1) (by omega) (i + 1) x10 _ _ _ (by omega) (lv_sub hl [0, 1, 2, 3] rfl) hP hS ⟨(by rw [hx10, hx9, va_up_ne _ _ (by decide), hinv2.1.2.1, show aG (aGates α (aG α + nI i)) = aG α + nI i from rfl, show aG α + nI i + nI 1 = aG α + nI (i + 1) from ta_n _ _]; have h3 := mR_gates (g := aG α + nI (i + 1)) (mR_pl (f := upd (y 7) (8 + i) (tBi (tp_truth (aL α i).1 (aPl α n i (aL α i).2.1) (aPl α n i (aL α i).2.2)))) hinv2.1); rw [va_up_ne _ _ (by decide)] at h3; exact h3), fun j hj => by rw [hx10, va_up_ne _ _ (by decide), hx9, va_up_self]; by_cases qj : j = 8 + i; rw [qj, pk_us]; exact congrArg tBi (va_up_self _ _ _).symm; rw [pk_un qj, tp_up (by omega)]; exact hinv2.2 j (by omega)⟩
                    exact loop2 (i0 + 1) 0 y _ _ _ (by omega) hl hP hS ⟨(by rw [show aG α + nI 0 = aG α from Int32.add_zero _]; exact hinv.1), fun j hj => hinv.2 j hj⟩
                  · skip
                    have hn_k : k < 8 := ts_lt (by omega) (by omega) hc
                    refine lv_aload_n hx hb mD_Mo_play_69 rfl (lv_at hl 1 rfl) ?_
                    refine m_get (C := cN_Mo) (T := cF_Mo) (N := 11) (ci := 8) hx hb htw wU_Mo hown hK hP 0 (by decide) rfl rfl 10 (by decide) rfl ww_650 rfl mD_Mo_play_70 ?_
                    refine lv_iload_n hx hb mD_Mo_play_73 rfl (lv_at hl 0 rfl) ?_
                    refine lv_iload_n hx hb mD_Mo_play_74 rfl (lv_at hl 3 rfl) ?_
                    refine lv_iload_n hx hb mD_Mo_play_75 rfl (lv_at hl 0 rfl) ?_
                    refine lv_ishr hx hb mD_Mo_play_76 ?_
                    refine lv_iconst (v := nI 1) hx hb mD_Mo_play_77 (by decide) ?_
                    refine lv_iand hx hb mD_Mo_play_78 ?_
                    refine lv_iconst (v := nI 1) hx hb mD_Mo_play_79 (by decide) ?_
                    refine lv_icmp_ne (tgt := 87) hx hb mD_Mo_play_80 rfl (fun h9 => ?_) (fun h9 => ?_)
                    · skip
                      refine lv_iconst (v := nI 0) hx hb mD_Mo_play_87 (by decide) ?_
                      have hz_ : aIn n k = false := by unfold aIn; exact decide_eq_false h9
                      refine m_zast hx hb hK hI hA hP hS 7 32 (by decide) (fun _ => rfl) k rfl (by omega) (by decide) (by first | exact Or.inl rfl | exact Or.inr rfl) mD_Mo_play_88 (fun H locs hP hS => ?_)
                      obtain ⟨x11, hx11⟩ : ∃ z_, z_ = va_up y 7 (upd (y 7) k (nI 0)) := ⟨_, rfl⟩
                      rw [← hx11] at hP
                      refine lv_iinc (k := 0) (v := nI (k + 1)) (lv' := [(3, .int (nI (k + 1))), (0, .ref (ad 0)), (1, .int (nI (8 + i0))), (2, .int (nI n))]) hx hb mD_Mo_play_89 hl rfl (by rw [lit1, nI_1]) (by decide) rfl (fun ls hl => ?_)
                      refine lv_goto (tgt := 63) hx hb mD_Mo_play_92 rfl ?_
                      exact ih (d63 - 1) (by omega) (k + 1) x11 _ _ _ (by omega) (lv_sub hl [0, 1, 2, 3] rfl) hP hS ⟨by rw [hx11]; exact mR_pl hinv.1, fun j hj => by rw [hx11, va_up_self]; by_cases q : j = k; rw [q, pk_us, hz_]; rfl; rw [pk_un q]; exact hinv.2 j (by omega)⟩
                    · skip
                      refine lv_iconst (v := nI 1) hx hb mD_Mo_play_83 (by decide) ?_
                      refine lv_goto (tgt := 88) hx hb mD_Mo_play_84 rfl ?_
                      have hz_ : aIn n k = true := by unfold aIn; exact decide_eq_true h9
                      refine m_zast hx hb hK hI hA hP hS 7 32 (by decide) (fun _ => rfl) k rfl (by omega) (by decide) (by first | exact Or.inl rfl | exact Or.inr rfl) mD_Mo_play_88 (fun H locs hP hS => ?_)
                      obtain ⟨x12, hx12⟩ : ∃ z_, z_ = va_up y 7 (upd (y 7) k (nI 1)) := ⟨_, rfl⟩
                      rw [← hx12] at hP
                      refine lv_iinc (k := 0) (v := nI (k + 1)) (lv' := [(3, .int (nI (k + 1))), (0, .ref (ad 0)), (1, .int (nI (8 + i0))), (2, .int (nI n))]) hx hb mD_Mo_play_89 hl rfl (by rw [lit1, nI_1]) (by decide) rfl (fun ls hl => ?_)
                      refine lv_goto (tgt := 63) hx hb mD_Mo_play_92 rfl ?_
                      exact ih (d63 - 1) (by omega) (k + 1) x12 _ _ _ (by omega) (lv_sub hl [0, 1, 2, 3] rfl) hP hS ⟨by rw [hx12]; exact mR_pl hinv.1, fun j hj => by rw [hx12, va_up_self]; by_cases q : j = k; rw [q, pk_us, hz_]; rfl; rw [pk_un q]; exact hinv.2 j (by omega)⟩
              exact loop 8 0 x3 _ _ _ (by omega) hl hP hS ⟨R1, fun _ h => absurd h (Nat.not_lt_zero _)⟩
            · skip
              exfalso; exact absurd hc (by decide)

set_option maxHeartbeats 4000000 in
set_option maxRecDepth 100000 in
theorem n1_Mo_play (l : Launch) (D : va_G) (ct : Nat → ClassId) (ad : Nat → Nat) (hI : gw_inj 8 ad) (x : mS) (α : tA) (t0 : Int32) (hR : mR α t0 x) (a b : Int32) (hh : ¬ ∃ q, 8 ≤ q ∧ q < 8 + aZ α ∧ a = nI q) : gMi l mY_Mo_play mB_Mo_play 4 (some .int) (rF 1 23) D (tT ct) gZ0 8 ad (mD ct ad) [.ref (ad 0), .int a, .int b] x (fun _ x' => mR α 1 x') := by
  refine gMi_enter (by decide) (Nat.le_of_ble_eq_true rfl) ?_
  intro p e s m below meth c ls hx hb hr htw hown hlocks hml hl hP hK hZ hS
  have hA : ∀ k, k < 8 → gA 8 ad s.heap.size (ad k) := fun _ h => gA_in h
  have hl : lv_has ls 4 [(0, .ref (ad 0)), (1, .int a), (2, .int b)] := hl
  refine lv_aload_n hx hb mD_Mo_play_0 rfl (lv_at hl 0 rfl) ?_
  have h24 := hR.2.2.2.1.1
  refine lv_iload_n hx hb mD_Mo_play_1 rfl (lv_at hl 1 rfl) ?_
  refine lv_bipush (v := nI 8) hx hb mD_Mo_play_2 (by decide) ?_
  refine lv_icmp_lt (tgt := 22) hx hb mD_Mo_play_4 rfl (fun a0 => ?_) (fun a0 => ?_)
  · skip
    refine lv_iconst (v := nI 0) hx hb mD_Mo_play_22 (by decide) ?_
    refine lv_iload_n hx hb mD_Mo_play_23 rfl (lv_at hl 2 rfl) ?_
    refine lv_if_lt (tgt := 38) hx hb mD_Mo_play_24 rfl (fun hc => ?_) (fun hc => ?_)
    · skip
      refine lv_iconst (v := nI 0) hx hb mD_Mo_play_38 (by decide) ?_
      refine lv_aload_n hx hb mD_Mo_play_39 rfl (lv_at hl 0 rfl) ?_
      refine gc_Vi (As := []) (rest := [.int (nI 0), .int (nI 0), .ref (ad 0)]) hx hb hml hown htw hK hP hS 0 (k_Mo_many l D ct ad hI x (f := aT α) (fun q hq => (hR.1 q hq).1)) gZ0_ok (fun _ _ _ => trivial) (gA_mono hS.1) (by decide) rfl rfl ww_683 ww_685 ww_15 ww_33 wC_Mo_many mP_Mo_many (by decide) rfl hl.1 rfl (Nat.le_of_ble_eq_true rfl) mD_Mo_play_40 ⟨Nat.le_of_ble_eq_true rfl, Nat.le_of_ble_eq_true rfl⟩ (fun r2 x1 H locs hp1 hP _ _ hS => ?_)
      obtain ⟨hq_, rfl⟩ := hp1
      rw [hq_] at hP
      refine lv_bipush (v := nI 120) hx hb mD_Mo_play_43 (by decide) ?_
      refine lv_icmp_ge (tgt := 52) hx hb mD_Mo_play_45 rfl (fun hc => ?_) (fun hc => ?_)
      · skip
        refine lv_iconst (v := nI 0) hx hb mD_Mo_play_52 (by decide) ?_
        refine gc_Vi (As := [.int (nI 0), .int (nI 0), .int (nI 0)]) (rest := []) hx hb hml hown htw hK hP hS 0 (k_Mo_goes l D ct ad hI x (b1 := false) (b2 := false) (b3 := false) rfl rfl rfl) gZ0_ok (fun _ _ _ => trivial) (gA_mono hS.1) (by decide) rfl rfl ww_691 ww_693 ww_16 ww_33 wC_Mo_goes mP_Mo_goes (by decide) rfl hl.1 rfl (Nat.le_of_ble_eq_true rfl) mD_Mo_play_53 ⟨Nat.le_of_ble_eq_true rfl, Nat.le_of_ble_eq_true rfl⟩ (fun r4 x3 H locs hp3 hP _ _ hS => ?_)
        obtain ⟨hy, rfl⟩ := hp3
        have R1 : mR (α) (mCode false false false) x3 := by rw [hy]; exact mR_code hR
        refine lv_if_ne (tgt := 61) hx hb mD_Mo_play_56 rfl (fun hc => ?_) (fun hc => ?_)
        · skip
          exfalso; exact hc rfl
        · skip
          refine lv_iconst (v := nI 0) hx hb mD_Mo_play_59 (by decide) ?_
          exact gw_iret hx hb hr hlocks hP hS (R1) mD_Mo_play_60 (Nat.zero_le _) (Nat.zero_le _)
      · skip
        refine lv_iconst (v := nI 1) hx hb mD_Mo_play_48 (by decide) ?_
        refine lv_goto (tgt := 53) hx hb mD_Mo_play_49 rfl ?_
        refine gc_Vi (As := [.int (nI 0), .int (nI 0), .int (nI 1)]) (rest := []) hx hb hml hown htw hK hP hS 0 (k_Mo_goes l D ct ad hI x (b1 := false) (b2 := false) (b3 := true) rfl rfl rfl) gZ0_ok (fun _ _ _ => trivial) (gA_mono hS.1) (by decide) rfl rfl ww_691 ww_693 ww_16 ww_33 wC_Mo_goes mP_Mo_goes (by decide) rfl hl.1 rfl (Nat.le_of_ble_eq_true rfl) mD_Mo_play_53 ⟨Nat.le_of_ble_eq_true rfl, Nat.le_of_ble_eq_true rfl⟩ (fun r6 x5 H locs hp5 hP _ _ hS => ?_)
        obtain ⟨hy, rfl⟩ := hp5
        have R1 : mR (α) (mCode false false true) x5 := by rw [hy]; exact mR_code hR
        refine lv_if_ne (tgt := 61) hx hb mD_Mo_play_56 rfl (fun hc => ?_) (fun hc => ?_)
        · skip
          exfalso; exact hc rfl
        · skip
          refine lv_iconst (v := nI 0) hx hb mD_Mo_play_59 (by decide) ?_
          exact gw_iret hx hb hr hlocks hP hS (R1) mD_Mo_play_60 (Nat.zero_le _) (Nat.zero_le _)
    · skip
      refine lv_iload_n hx hb mD_Mo_play_27 rfl (lv_at hl 2 rfl) ?_
      refine lv_sipush (v := nI 255) hx hb mD_Mo_play_28 (by decide) ?_
      refine lv_icmp_gt (tgt := 38) hx hb mD_Mo_play_31 rfl (fun hc => ?_) (fun hc => ?_)
      · skip
        refine lv_iconst (v := nI 0) hx hb mD_Mo_play_38 (by decide) ?_
        refine lv_aload_n hx hb mD_Mo_play_39 rfl (lv_at hl 0 rfl) ?_
        refine gc_Vi (As := []) (rest := [.int (nI 0), .int (nI 0), .ref (ad 0)]) hx hb hml hown htw hK hP hS 0 (k_Mo_many l D ct ad hI x (f := aT α) (fun q hq => (hR.1 q hq).1)) gZ0_ok (fun _ _ _ => trivial) (gA_mono hS.1) (by decide) rfl rfl ww_683 ww_685 ww_15 ww_33 wC_Mo_many mP_Mo_many (by decide) rfl hl.1 rfl (Nat.le_of_ble_eq_true rfl) mD_Mo_play_40 ⟨Nat.le_of_ble_eq_true rfl, Nat.le_of_ble_eq_true rfl⟩ (fun r8 x7 H locs hp7 hP _ _ hS => ?_)
        obtain ⟨hq_, rfl⟩ := hp7
        rw [hq_] at hP
        refine lv_bipush (v := nI 120) hx hb mD_Mo_play_43 (by decide) ?_
        refine lv_icmp_ge (tgt := 52) hx hb mD_Mo_play_45 rfl (fun hc => ?_) (fun hc => ?_)
        · skip
          refine lv_iconst (v := nI 0) hx hb mD_Mo_play_52 (by decide) ?_
          refine gc_Vi (As := [.int (nI 0), .int (nI 0), .int (nI 0)]) (rest := []) hx hb hml hown htw hK hP hS 0 (k_Mo_goes l D ct ad hI x (b1 := false) (b2 := false) (b3 := false) rfl rfl rfl) gZ0_ok (fun _ _ _ => trivial) (gA_mono hS.1) (by decide) rfl rfl ww_691 ww_693 ww_16 ww_33 wC_Mo_goes mP_Mo_goes (by decide) rfl hl.1 rfl (Nat.le_of_ble_eq_true rfl) mD_Mo_play_53 ⟨Nat.le_of_ble_eq_true rfl, Nat.le_of_ble_eq_true rfl⟩ (fun r10 x9 H locs hp9 hP _ _ hS => ?_)
          obtain ⟨hy, rfl⟩ := hp9
          have R1 : mR (α) (mCode false false false) x9 := by rw [hy]; exact mR_code hR
          refine lv_if_ne (tgt := 61) hx hb mD_Mo_play_56 rfl (fun hc => ?_) (fun hc => ?_)
          · skip
            exfalso; exact hc rfl
          · skip
            refine lv_iconst (v := nI 0) hx hb mD_Mo_play_59 (by decide) ?_
            exact gw_iret hx hb hr hlocks hP hS (R1) mD_Mo_play_60 (Nat.zero_le _) (Nat.zero_le _)
        · skip
          refine lv_iconst (v := nI 1) hx hb mD_Mo_play_48 (by decide) ?_
          refine lv_goto (tgt := 53) hx hb mD_Mo_play_49 rfl ?_
          refine gc_Vi (As := [.int (nI 0), .int (nI 0), .int (nI 1)]) (rest := []) hx hb hml hown htw hK hP hS 0 (k_Mo_goes l D ct ad hI x (b1 := false) (b2 := false) (b3 := true) rfl rfl rfl) gZ0_ok (fun _ _ _ => trivial) (gA_mono hS.1) (by decide) rfl rfl ww_691 ww_693 ww_16 ww_33 wC_Mo_goes mP_Mo_goes (by decide) rfl hl.1 rfl (Nat.le_of_ble_eq_true rfl) mD_Mo_play_53 ⟨Nat.le_of_ble_eq_true rfl, Nat.le_of_ble_eq_true rfl⟩ (fun r12 x11 H locs hp11 hP _ _ hS => ?_)
          obtain ⟨hy, rfl⟩ := hp11
          have R1 : mR (α) (mCode false false true) x11 := by rw [hy]; exact mR_code hR
          refine lv_if_ne (tgt := 61) hx hb mD_Mo_play_56 rfl (fun hc => ?_) (fun hc => ?_)
          · skip
            exfalso; exact hc rfl
          · skip
            refine lv_iconst (v := nI 0) hx hb mD_Mo_play_59 (by decide) ?_
            exact gw_iret hx hb hr hlocks hP hS (R1) mD_Mo_play_60 (Nat.zero_le _) (Nat.zero_le _)
      · skip
        refine lv_iconst (v := nI 1) hx hb mD_Mo_play_34 (by decide) ?_
        refine lv_goto (tgt := 39) hx hb mD_Mo_play_35 rfl ?_
        refine lv_aload_n hx hb mD_Mo_play_39 rfl (lv_at hl 0 rfl) ?_
        refine gc_Vi (As := []) (rest := [.int (nI 1), .int (nI 0), .ref (ad 0)]) hx hb hml hown htw hK hP hS 0 (k_Mo_many l D ct ad hI x (f := aT α) (fun q hq => (hR.1 q hq).1)) gZ0_ok (fun _ _ _ => trivial) (gA_mono hS.1) (by decide) rfl rfl ww_683 ww_685 ww_15 ww_33 wC_Mo_many mP_Mo_many (by decide) rfl hl.1 rfl (Nat.le_of_ble_eq_true rfl) mD_Mo_play_40 ⟨Nat.le_of_ble_eq_true rfl, Nat.le_of_ble_eq_true rfl⟩ (fun r14 x13 H locs hp13 hP _ _ hS => ?_)
        obtain ⟨hq_, rfl⟩ := hp13
        rw [hq_] at hP
        refine lv_bipush (v := nI 120) hx hb mD_Mo_play_43 (by decide) ?_
        refine lv_icmp_ge (tgt := 52) hx hb mD_Mo_play_45 rfl (fun hc => ?_) (fun hc => ?_)
        · skip
          refine lv_iconst (v := nI 0) hx hb mD_Mo_play_52 (by decide) ?_
          refine gc_Vi (As := [.int (nI 0), .int (nI 1), .int (nI 0)]) (rest := []) hx hb hml hown htw hK hP hS 0 (k_Mo_goes l D ct ad hI x (b1 := false) (b2 := true) (b3 := false) rfl rfl rfl) gZ0_ok (fun _ _ _ => trivial) (gA_mono hS.1) (by decide) rfl rfl ww_691 ww_693 ww_16 ww_33 wC_Mo_goes mP_Mo_goes (by decide) rfl hl.1 rfl (Nat.le_of_ble_eq_true rfl) mD_Mo_play_53 ⟨Nat.le_of_ble_eq_true rfl, Nat.le_of_ble_eq_true rfl⟩ (fun r16 x15 H locs hp15 hP _ _ hS => ?_)
          obtain ⟨hy, rfl⟩ := hp15
          have R1 : mR (α) (mCode false true false) x15 := by rw [hy]; exact mR_code hR
          refine lv_if_ne (tgt := 61) hx hb mD_Mo_play_56 rfl (fun hc => ?_) (fun hc => ?_)
          · skip
            exfalso; exact hc rfl
          · skip
            refine lv_iconst (v := nI 0) hx hb mD_Mo_play_59 (by decide) ?_
            exact gw_iret hx hb hr hlocks hP hS (R1) mD_Mo_play_60 (Nat.zero_le _) (Nat.zero_le _)
        · skip
          refine lv_iconst (v := nI 1) hx hb mD_Mo_play_48 (by decide) ?_
          refine lv_goto (tgt := 53) hx hb mD_Mo_play_49 rfl ?_
          refine gc_Vi (As := [.int (nI 0), .int (nI 1), .int (nI 1)]) (rest := []) hx hb hml hown htw hK hP hS 0 (k_Mo_goes l D ct ad hI x (b1 := false) (b2 := true) (b3 := true) rfl rfl rfl) gZ0_ok (fun _ _ _ => trivial) (gA_mono hS.1) (by decide) rfl rfl ww_691 ww_693 ww_16 ww_33 wC_Mo_goes mP_Mo_goes (by decide) rfl hl.1 rfl (Nat.le_of_ble_eq_true rfl) mD_Mo_play_53 ⟨Nat.le_of_ble_eq_true rfl, Nat.le_of_ble_eq_true rfl⟩ (fun r18 x17 H locs hp17 hP _ _ hS => ?_)
          obtain ⟨hy, rfl⟩ := hp17
          have R1 : mR (α) (mCode false true true) x17 := by rw [hy]; exact mR_code hR
          refine lv_if_ne (tgt := 61) hx hb mD_Mo_play_56 rfl (fun hc => ?_) (fun hc => ?_)
          · skip
            exfalso; exact hc rfl
          · skip
            refine lv_iconst (v := nI 0) hx hb mD_Mo_play_59 (by decide) ?_
            exact gw_iret hx hb hr hlocks hP hS (R1) mD_Mo_play_60 (Nat.zero_le _) (Nat.zero_le _)
  · skip
    refine lv_iload_n hx hb mD_Mo_play_7 rfl (lv_at hl 1 rfl) ?_
    refine lv_bipush (v := nI 8) hx hb mD_Mo_play_8 (by decide) ?_
    refine lv_aload_n hx hb mD_Mo_play_10 rfl (lv_at hl 0 rfl) ?_
    refine m_get (C := cN_Mo) (T := cF_Mo) (N := 11) (ci := 8) hx hb htw wU_Mo hown hK hP 0 (by decide) rfl rfl 6 (by decide) rfl ww_646 rfl mD_Mo_play_11 ?_
    refine lv_iadd hx hb mD_Mo_play_14 ?_
    refine lv_icmp_ge (tgt := 22) hx hb mD_Mo_play_15 rfl (fun a1 => ?_) (fun a1 => ?_)
    · skip
      refine lv_iconst (v := nI 0) hx hb mD_Mo_play_22 (by decide) ?_
      refine lv_iload_n hx hb mD_Mo_play_23 rfl (lv_at hl 2 rfl) ?_
      refine lv_if_lt (tgt := 38) hx hb mD_Mo_play_24 rfl (fun hc => ?_) (fun hc => ?_)
      · skip
        refine lv_iconst (v := nI 0) hx hb mD_Mo_play_38 (by decide) ?_
        refine lv_aload_n hx hb mD_Mo_play_39 rfl (lv_at hl 0 rfl) ?_
        refine gc_Vi (As := []) (rest := [.int (nI 0), .int (nI 0), .ref (ad 0)]) hx hb hml hown htw hK hP hS 0 (k_Mo_many l D ct ad hI x (f := aT α) (fun q hq => (hR.1 q hq).1)) gZ0_ok (fun _ _ _ => trivial) (gA_mono hS.1) (by decide) rfl rfl ww_683 ww_685 ww_15 ww_33 wC_Mo_many mP_Mo_many (by decide) rfl hl.1 rfl (Nat.le_of_ble_eq_true rfl) mD_Mo_play_40 ⟨Nat.le_of_ble_eq_true rfl, Nat.le_of_ble_eq_true rfl⟩ (fun r20 x19 H locs hp19 hP _ _ hS => ?_)
        obtain ⟨hq_, rfl⟩ := hp19
        rw [hq_] at hP
        refine lv_bipush (v := nI 120) hx hb mD_Mo_play_43 (by decide) ?_
        refine lv_icmp_ge (tgt := 52) hx hb mD_Mo_play_45 rfl (fun hc => ?_) (fun hc => ?_)
        · skip
          refine lv_iconst (v := nI 0) hx hb mD_Mo_play_52 (by decide) ?_
          refine gc_Vi (As := [.int (nI 0), .int (nI 0), .int (nI 0)]) (rest := []) hx hb hml hown htw hK hP hS 0 (k_Mo_goes l D ct ad hI x (b1 := false) (b2 := false) (b3 := false) rfl rfl rfl) gZ0_ok (fun _ _ _ => trivial) (gA_mono hS.1) (by decide) rfl rfl ww_691 ww_693 ww_16 ww_33 wC_Mo_goes mP_Mo_goes (by decide) rfl hl.1 rfl (Nat.le_of_ble_eq_true rfl) mD_Mo_play_53 ⟨Nat.le_of_ble_eq_true rfl, Nat.le_of_ble_eq_true rfl⟩ (fun r22 x21 H locs hp21 hP _ _ hS => ?_)
          obtain ⟨hy, rfl⟩ := hp21
          have R1 : mR (α) (mCode false false false) x21 := by rw [hy]; exact mR_code hR
          refine lv_if_ne (tgt := 61) hx hb mD_Mo_play_56 rfl (fun hc => ?_) (fun hc => ?_)
          · skip
            exfalso; exact hc rfl
          · skip
            refine lv_iconst (v := nI 0) hx hb mD_Mo_play_59 (by decide) ?_
            exact gw_iret hx hb hr hlocks hP hS (R1) mD_Mo_play_60 (Nat.zero_le _) (Nat.zero_le _)
        · skip
          refine lv_iconst (v := nI 1) hx hb mD_Mo_play_48 (by decide) ?_
          refine lv_goto (tgt := 53) hx hb mD_Mo_play_49 rfl ?_
          refine gc_Vi (As := [.int (nI 0), .int (nI 0), .int (nI 1)]) (rest := []) hx hb hml hown htw hK hP hS 0 (k_Mo_goes l D ct ad hI x (b1 := false) (b2 := false) (b3 := true) rfl rfl rfl) gZ0_ok (fun _ _ _ => trivial) (gA_mono hS.1) (by decide) rfl rfl ww_691 ww_693 ww_16 ww_33 wC_Mo_goes mP_Mo_goes (by decide) rfl hl.1 rfl (Nat.le_of_ble_eq_true rfl) mD_Mo_play_53 ⟨Nat.le_of_ble_eq_true rfl, Nat.le_of_ble_eq_true rfl⟩ (fun r24 x23 H locs hp23 hP _ _ hS => ?_)
          obtain ⟨hy, rfl⟩ := hp23
          have R1 : mR (α) (mCode false false true) x23 := by rw [hy]; exact mR_code hR
          refine lv_if_ne (tgt := 61) hx hb mD_Mo_play_56 rfl (fun hc => ?_) (fun hc => ?_)
          · skip
            exfalso; exact hc rfl
          · skip
            refine lv_iconst (v := nI 0) hx hb mD_Mo_play_59 (by decide) ?_
            exact gw_iret hx hb hr hlocks hP hS (R1) mD_Mo_play_60 (Nat.zero_le _) (Nat.zero_le _)
      · skip
        refine lv_iload_n hx hb mD_Mo_play_27 rfl (lv_at hl 2 rfl) ?_
        refine lv_sipush (v := nI 255) hx hb mD_Mo_play_28 (by decide) ?_
        refine lv_icmp_gt (tgt := 38) hx hb mD_Mo_play_31 rfl (fun hc => ?_) (fun hc => ?_)
        · skip
          refine lv_iconst (v := nI 0) hx hb mD_Mo_play_38 (by decide) ?_
          refine lv_aload_n hx hb mD_Mo_play_39 rfl (lv_at hl 0 rfl) ?_
          refine gc_Vi (As := []) (rest := [.int (nI 0), .int (nI 0), .ref (ad 0)]) hx hb hml hown htw hK hP hS 0 (k_Mo_many l D ct ad hI x (f := aT α) (fun q hq => (hR.1 q hq).1)) gZ0_ok (fun _ _ _ => trivial) (gA_mono hS.1) (by decide) rfl rfl ww_683 ww_685 ww_15 ww_33 wC_Mo_many mP_Mo_many (by decide) rfl hl.1 rfl (Nat.le_of_ble_eq_true rfl) mD_Mo_play_40 ⟨Nat.le_of_ble_eq_true rfl, Nat.le_of_ble_eq_true rfl⟩ (fun r26 x25 H locs hp25 hP _ _ hS => ?_)
          obtain ⟨hq_, rfl⟩ := hp25
          rw [hq_] at hP
          refine lv_bipush (v := nI 120) hx hb mD_Mo_play_43 (by decide) ?_
          refine lv_icmp_ge (tgt := 52) hx hb mD_Mo_play_45 rfl (fun hc => ?_) (fun hc => ?_)
          · skip
            refine lv_iconst (v := nI 0) hx hb mD_Mo_play_52 (by decide) ?_
            refine gc_Vi (As := [.int (nI 0), .int (nI 0), .int (nI 0)]) (rest := []) hx hb hml hown htw hK hP hS 0 (k_Mo_goes l D ct ad hI x (b1 := false) (b2 := false) (b3 := false) rfl rfl rfl) gZ0_ok (fun _ _ _ => trivial) (gA_mono hS.1) (by decide) rfl rfl ww_691 ww_693 ww_16 ww_33 wC_Mo_goes mP_Mo_goes (by decide) rfl hl.1 rfl (Nat.le_of_ble_eq_true rfl) mD_Mo_play_53 ⟨Nat.le_of_ble_eq_true rfl, Nat.le_of_ble_eq_true rfl⟩ (fun r28 x27 H locs hp27 hP _ _ hS => ?_)
            obtain ⟨hy, rfl⟩ := hp27
            have R1 : mR (α) (mCode false false false) x27 := by rw [hy]; exact mR_code hR
            refine lv_if_ne (tgt := 61) hx hb mD_Mo_play_56 rfl (fun hc => ?_) (fun hc => ?_)
            · skip
              exfalso; exact hc rfl
            · skip
              refine lv_iconst (v := nI 0) hx hb mD_Mo_play_59 (by decide) ?_
              exact gw_iret hx hb hr hlocks hP hS (R1) mD_Mo_play_60 (Nat.zero_le _) (Nat.zero_le _)
          · skip
            refine lv_iconst (v := nI 1) hx hb mD_Mo_play_48 (by decide) ?_
            refine lv_goto (tgt := 53) hx hb mD_Mo_play_49 rfl ?_
            refine gc_Vi (As := [.int (nI 0), .int (nI 0), .int (nI 1)]) (rest := []) hx hb hml hown htw hK hP hS 0 (k_Mo_goes l D ct ad hI x (b1 := false) (b2 := false) (b3 := true) rfl rfl rfl) gZ0_ok (fun _ _ _ => trivial) (gA_mono hS.1) (by decide) rfl rfl ww_691 ww_693 ww_16 ww_33 wC_Mo_goes mP_Mo_goes (by decide) rfl hl.1 rfl (Nat.le_of_ble_eq_true rfl) mD_Mo_play_53 ⟨Nat.le_of_ble_eq_true rfl, Nat.le_of_ble_eq_true rfl⟩ (fun r30 x29 H locs hp29 hP _ _ hS => ?_)
            obtain ⟨hy, rfl⟩ := hp29
            have R1 : mR (α) (mCode false false true) x29 := by rw [hy]; exact mR_code hR
            refine lv_if_ne (tgt := 61) hx hb mD_Mo_play_56 rfl (fun hc => ?_) (fun hc => ?_)
            · skip
              exfalso; exact hc rfl
            · skip
              refine lv_iconst (v := nI 0) hx hb mD_Mo_play_59 (by decide) ?_
              exact gw_iret hx hb hr hlocks hP hS (R1) mD_Mo_play_60 (Nat.zero_le _) (Nat.zero_le _)
        · skip
          refine lv_iconst (v := nI 1) hx hb mD_Mo_play_34 (by decide) ?_
          refine lv_goto (tgt := 39) hx hb mD_Mo_play_35 rfl ?_
          refine lv_aload_n hx hb mD_Mo_play_39 rfl (lv_at hl 0 rfl) ?_
          refine gc_Vi (As := []) (rest := [.int (nI 1), .int (nI 0), .ref (ad 0)]) hx hb hml hown htw hK hP hS 0 (k_Mo_many l D ct ad hI x (f := aT α) (fun q hq => (hR.1 q hq).1)) gZ0_ok (fun _ _ _ => trivial) (gA_mono hS.1) (by decide) rfl rfl ww_683 ww_685 ww_15 ww_33 wC_Mo_many mP_Mo_many (by decide) rfl hl.1 rfl (Nat.le_of_ble_eq_true rfl) mD_Mo_play_40 ⟨Nat.le_of_ble_eq_true rfl, Nat.le_of_ble_eq_true rfl⟩ (fun r32 x31 H locs hp31 hP _ _ hS => ?_)
          obtain ⟨hq_, rfl⟩ := hp31
          rw [hq_] at hP
          refine lv_bipush (v := nI 120) hx hb mD_Mo_play_43 (by decide) ?_
          refine lv_icmp_ge (tgt := 52) hx hb mD_Mo_play_45 rfl (fun hc => ?_) (fun hc => ?_)
          · skip
            refine lv_iconst (v := nI 0) hx hb mD_Mo_play_52 (by decide) ?_
            refine gc_Vi (As := [.int (nI 0), .int (nI 1), .int (nI 0)]) (rest := []) hx hb hml hown htw hK hP hS 0 (k_Mo_goes l D ct ad hI x (b1 := false) (b2 := true) (b3 := false) rfl rfl rfl) gZ0_ok (fun _ _ _ => trivial) (gA_mono hS.1) (by decide) rfl rfl ww_691 ww_693 ww_16 ww_33 wC_Mo_goes mP_Mo_goes (by decide) rfl hl.1 rfl (Nat.le_of_ble_eq_true rfl) mD_Mo_play_53 ⟨Nat.le_of_ble_eq_true rfl, Nat.le_of_ble_eq_true rfl⟩ (fun r34 x33 H locs hp33 hP _ _ hS => ?_)
            obtain ⟨hy, rfl⟩ := hp33
            have R1 : mR (α) (mCode false true false) x33 := by rw [hy]; exact mR_code hR
            refine lv_if_ne (tgt := 61) hx hb mD_Mo_play_56 rfl (fun hc => ?_) (fun hc => ?_)
            · skip
              exfalso; exact hc rfl
            · skip
              refine lv_iconst (v := nI 0) hx hb mD_Mo_play_59 (by decide) ?_
              exact gw_iret hx hb hr hlocks hP hS (R1) mD_Mo_play_60 (Nat.zero_le _) (Nat.zero_le _)
          · skip
            refine lv_iconst (v := nI 1) hx hb mD_Mo_play_48 (by decide) ?_
            refine lv_goto (tgt := 53) hx hb mD_Mo_play_49 rfl ?_
            refine gc_Vi (As := [.int (nI 0), .int (nI 1), .int (nI 1)]) (rest := []) hx hb hml hown htw hK hP hS 0 (k_Mo_goes l D ct ad hI x (b1 := false) (b2 := true) (b3 := true) rfl rfl rfl) gZ0_ok (fun _ _ _ => trivial) (gA_mono hS.1) (by decide) rfl rfl ww_691 ww_693 ww_16 ww_33 wC_Mo_goes mP_Mo_goes (by decide) rfl hl.1 rfl (Nat.le_of_ble_eq_true rfl) mD_Mo_play_53 ⟨Nat.le_of_ble_eq_true rfl, Nat.le_of_ble_eq_true rfl⟩ (fun r36 x35 H locs hp35 hP _ _ hS => ?_)
            obtain ⟨hy, rfl⟩ := hp35
            have R1 : mR (α) (mCode false true true) x35 := by rw [hy]; exact mR_code hR
            refine lv_if_ne (tgt := 61) hx hb mD_Mo_play_56 rfl (fun hc => ?_) (fun hc => ?_)
            · skip
              exfalso; exact hc rfl
            · skip
              refine lv_iconst (v := nI 0) hx hb mD_Mo_play_59 (by decide) ?_
              exact gw_iret hx hb hr hlocks hP hS (R1) mD_Mo_play_60 (Nat.zero_le _) (Nat.zero_le _)
    · skip
      exfalso; rw [hR.2.2.2.1.2, nI_add] at a1; exact hh (tk_line (by omega) a0 a1)

set_option maxHeartbeats 4000000 in
set_option maxRecDepth 100000 in
theorem n2_Mo_play (l : Launch) (D : va_G) (ct : Nat → ClassId) (ad : Nat → Nat) (hI : gw_inj 8 ad) (x : mS) (α : tA) (t0 : Int32) (hR : mR α t0 x) {i0 : Nat} (hi0 : i0 < aZ α) (b : Int32) (hn : ¬ ∃ q, q ≤ 255 ∧ b = nI q) : gMi l mY_Mo_play mB_Mo_play 4 (some .int) (rF 1 23) D (tT ct) gZ0 8 ad (mD ct ad) [.ref (ad 0), .int (nI (8 + i0)), .int b] x (fun _ x' => mR α 2 x') := by
  refine gMi_enter (by decide) (Nat.le_of_ble_eq_true rfl) ?_
  intro p e s m below meth c ls hx hb hr htw hown hlocks hml hl hP hK hZ hS
  have hA : ∀ k, k < 8 → gA 8 ad s.heap.size (ad k) := fun _ h => gA_in h
  have hl : lv_has ls 4 [(0, .ref (ad 0)), (1, .int (nI (8 + i0))), (2, .int b)] := hl
  refine lv_aload_n hx hb mD_Mo_play_0 rfl (lv_at hl 0 rfl) ?_
  have h24 := hR.2.2.2.1.1
  refine lv_iload_n hx hb mD_Mo_play_1 rfl (lv_at hl 1 rfl) ?_
  refine lv_bipush (v := nI 8) hx hb mD_Mo_play_2 (by decide) ?_
  refine lv_icmp_lt (tgt := 22) hx hb mD_Mo_play_4 rfl (fun hc => ?_) (fun hc => ?_)
  · skip
    exfalso; exact nI_nlt (by omega) (by omega) hc
  · skip
    refine lv_iload_n hx hb mD_Mo_play_7 rfl (lv_at hl 1 rfl) ?_
    refine lv_bipush (v := nI 8) hx hb mD_Mo_play_8 (by decide) ?_
    refine lv_aload_n hx hb mD_Mo_play_10 rfl (lv_at hl 0 rfl) ?_
    refine m_get (C := cN_Mo) (T := cF_Mo) (N := 11) (ci := 8) hx hb htw wU_Mo hown hK hP 0 (by decide) rfl rfl 6 (by decide) rfl ww_646 rfl mD_Mo_play_11 ?_
    refine lv_iadd hx hb mD_Mo_play_14 ?_
    refine lv_icmp_ge (tgt := 22) hx hb mD_Mo_play_15 rfl (fun hc => ?_) (fun hc => ?_)
    · skip
      exfalso; rw [hR.2.2.2.1.2, nI_add] at hc; have := (nI_leI (by omega) (by omega)).mp hc; omega
    · skip
      refine lv_iconst (v := nI 1) hx hb mD_Mo_play_18 (by decide) ?_
      refine lv_goto (tgt := 23) hx hb mD_Mo_play_19 rfl ?_
      refine lv_iload_n hx hb mD_Mo_play_23 rfl (lv_at hl 2 rfl) ?_
      refine lv_if_lt (tgt := 38) hx hb mD_Mo_play_24 rfl (fun a0 => ?_) (fun a0 => ?_)
      · skip
        refine lv_iconst (v := nI 0) hx hb mD_Mo_play_38 (by decide) ?_
        refine lv_aload_n hx hb mD_Mo_play_39 rfl (lv_at hl 0 rfl) ?_
        refine gc_Vi (As := []) (rest := [.int (nI 0), .int (nI 1), .ref (ad 0)]) hx hb hml hown htw hK hP hS 0 (k_Mo_many l D ct ad hI x (f := aT α) (fun q hq => (hR.1 q hq).1)) gZ0_ok (fun _ _ _ => trivial) (gA_mono hS.1) (by decide) rfl rfl ww_683 ww_685 ww_15 ww_33 wC_Mo_many mP_Mo_many (by decide) rfl hl.1 rfl (Nat.le_of_ble_eq_true rfl) mD_Mo_play_40 ⟨Nat.le_of_ble_eq_true rfl, Nat.le_of_ble_eq_true rfl⟩ (fun r2 x1 H locs hp1 hP _ _ hS => ?_)
        obtain ⟨hq_, rfl⟩ := hp1
        rw [hq_] at hP
        refine lv_bipush (v := nI 120) hx hb mD_Mo_play_43 (by decide) ?_
        refine lv_icmp_ge (tgt := 52) hx hb mD_Mo_play_45 rfl (fun hc => ?_) (fun hc => ?_)
        · skip
          refine lv_iconst (v := nI 0) hx hb mD_Mo_play_52 (by decide) ?_
          refine gc_Vi (As := [.int (nI 1), .int (nI 0), .int (nI 0)]) (rest := []) hx hb hml hown htw hK hP hS 0 (k_Mo_goes l D ct ad hI x (b1 := true) (b2 := false) (b3 := false) rfl rfl rfl) gZ0_ok (fun _ _ _ => trivial) (gA_mono hS.1) (by decide) rfl rfl ww_691 ww_693 ww_16 ww_33 wC_Mo_goes mP_Mo_goes (by decide) rfl hl.1 rfl (Nat.le_of_ble_eq_true rfl) mD_Mo_play_53 ⟨Nat.le_of_ble_eq_true rfl, Nat.le_of_ble_eq_true rfl⟩ (fun r4 x3 H locs hp3 hP _ _ hS => ?_)
          obtain ⟨hy, rfl⟩ := hp3
          have R1 : mR (α) (mCode true false false) x3 := by rw [hy]; exact mR_code hR
          refine lv_if_ne (tgt := 61) hx hb mD_Mo_play_56 rfl (fun hc => ?_) (fun hc => ?_)
          · skip
            exfalso; exact hc rfl
          · skip
            refine lv_iconst (v := nI 0) hx hb mD_Mo_play_59 (by decide) ?_
            exact gw_iret hx hb hr hlocks hP hS (R1) mD_Mo_play_60 (Nat.zero_le _) (Nat.zero_le _)
        · skip
          refine lv_iconst (v := nI 1) hx hb mD_Mo_play_48 (by decide) ?_
          refine lv_goto (tgt := 53) hx hb mD_Mo_play_49 rfl ?_
          refine gc_Vi (As := [.int (nI 1), .int (nI 0), .int (nI 1)]) (rest := []) hx hb hml hown htw hK hP hS 0 (k_Mo_goes l D ct ad hI x (b1 := true) (b2 := false) (b3 := true) rfl rfl rfl) gZ0_ok (fun _ _ _ => trivial) (gA_mono hS.1) (by decide) rfl rfl ww_691 ww_693 ww_16 ww_33 wC_Mo_goes mP_Mo_goes (by decide) rfl hl.1 rfl (Nat.le_of_ble_eq_true rfl) mD_Mo_play_53 ⟨Nat.le_of_ble_eq_true rfl, Nat.le_of_ble_eq_true rfl⟩ (fun r6 x5 H locs hp5 hP _ _ hS => ?_)
          obtain ⟨hy, rfl⟩ := hp5
          have R1 : mR (α) (mCode true false true) x5 := by rw [hy]; exact mR_code hR
          refine lv_if_ne (tgt := 61) hx hb mD_Mo_play_56 rfl (fun hc => ?_) (fun hc => ?_)
          · skip
            exfalso; exact hc rfl
          · skip
            refine lv_iconst (v := nI 0) hx hb mD_Mo_play_59 (by decide) ?_
            exact gw_iret hx hb hr hlocks hP hS (R1) mD_Mo_play_60 (Nat.zero_le _) (Nat.zero_le _)
      · skip
        refine lv_iload_n hx hb mD_Mo_play_27 rfl (lv_at hl 2 rfl) ?_
        refine lv_sipush (v := nI 255) hx hb mD_Mo_play_28 (by decide) ?_
        refine lv_icmp_gt (tgt := 38) hx hb mD_Mo_play_31 rfl (fun a1 => ?_) (fun a1 => ?_)
        · skip
          refine lv_iconst (v := nI 0) hx hb mD_Mo_play_38 (by decide) ?_
          refine lv_aload_n hx hb mD_Mo_play_39 rfl (lv_at hl 0 rfl) ?_
          refine gc_Vi (As := []) (rest := [.int (nI 0), .int (nI 1), .ref (ad 0)]) hx hb hml hown htw hK hP hS 0 (k_Mo_many l D ct ad hI x (f := aT α) (fun q hq => (hR.1 q hq).1)) gZ0_ok (fun _ _ _ => trivial) (gA_mono hS.1) (by decide) rfl rfl ww_683 ww_685 ww_15 ww_33 wC_Mo_many mP_Mo_many (by decide) rfl hl.1 rfl (Nat.le_of_ble_eq_true rfl) mD_Mo_play_40 ⟨Nat.le_of_ble_eq_true rfl, Nat.le_of_ble_eq_true rfl⟩ (fun r8 x7 H locs hp7 hP _ _ hS => ?_)
          obtain ⟨hq_, rfl⟩ := hp7
          rw [hq_] at hP
          refine lv_bipush (v := nI 120) hx hb mD_Mo_play_43 (by decide) ?_
          refine lv_icmp_ge (tgt := 52) hx hb mD_Mo_play_45 rfl (fun hc => ?_) (fun hc => ?_)
          · skip
            refine lv_iconst (v := nI 0) hx hb mD_Mo_play_52 (by decide) ?_
            refine gc_Vi (As := [.int (nI 1), .int (nI 0), .int (nI 0)]) (rest := []) hx hb hml hown htw hK hP hS 0 (k_Mo_goes l D ct ad hI x (b1 := true) (b2 := false) (b3 := false) rfl rfl rfl) gZ0_ok (fun _ _ _ => trivial) (gA_mono hS.1) (by decide) rfl rfl ww_691 ww_693 ww_16 ww_33 wC_Mo_goes mP_Mo_goes (by decide) rfl hl.1 rfl (Nat.le_of_ble_eq_true rfl) mD_Mo_play_53 ⟨Nat.le_of_ble_eq_true rfl, Nat.le_of_ble_eq_true rfl⟩ (fun r10 x9 H locs hp9 hP _ _ hS => ?_)
            obtain ⟨hy, rfl⟩ := hp9
            have R1 : mR (α) (mCode true false false) x9 := by rw [hy]; exact mR_code hR
            refine lv_if_ne (tgt := 61) hx hb mD_Mo_play_56 rfl (fun hc => ?_) (fun hc => ?_)
            · skip
              exfalso; exact hc rfl
            · skip
              refine lv_iconst (v := nI 0) hx hb mD_Mo_play_59 (by decide) ?_
              exact gw_iret hx hb hr hlocks hP hS (R1) mD_Mo_play_60 (Nat.zero_le _) (Nat.zero_le _)
          · skip
            refine lv_iconst (v := nI 1) hx hb mD_Mo_play_48 (by decide) ?_
            refine lv_goto (tgt := 53) hx hb mD_Mo_play_49 rfl ?_
            refine gc_Vi (As := [.int (nI 1), .int (nI 0), .int (nI 1)]) (rest := []) hx hb hml hown htw hK hP hS 0 (k_Mo_goes l D ct ad hI x (b1 := true) (b2 := false) (b3 := true) rfl rfl rfl) gZ0_ok (fun _ _ _ => trivial) (gA_mono hS.1) (by decide) rfl rfl ww_691 ww_693 ww_16 ww_33 wC_Mo_goes mP_Mo_goes (by decide) rfl hl.1 rfl (Nat.le_of_ble_eq_true rfl) mD_Mo_play_53 ⟨Nat.le_of_ble_eq_true rfl, Nat.le_of_ble_eq_true rfl⟩ (fun r12 x11 H locs hp11 hP _ _ hS => ?_)
            obtain ⟨hy, rfl⟩ := hp11
            have R1 : mR (α) (mCode true false true) x11 := by rw [hy]; exact mR_code hR
            refine lv_if_ne (tgt := 61) hx hb mD_Mo_play_56 rfl (fun hc => ?_) (fun hc => ?_)
            · skip
              exfalso; exact hc rfl
            · skip
              refine lv_iconst (v := nI 0) hx hb mD_Mo_play_59 (by decide) ?_
              exact gw_iret hx hb hr hlocks hP hS (R1) mD_Mo_play_60 (Nat.zero_le _) (Nat.zero_le _)
        · skip
          exfalso; exact hn (tk_rng (by decide) a0 (Int32.not_lt.mp a1))

set_option maxHeartbeats 4000000 in
set_option maxRecDepth 100000 in
theorem n3_Mo_play (l : Launch) (D : va_G) (ct : Nat → ClassId) (ad : Nat → Nat) (hI : gw_inj 8 ad) (x : mS) (α : tA) (t0 : Int32) (hR : mR α t0 x) {i0 n : Nat} (hi0 : i0 < aZ α) (hn : n ≤ 255) (hf : aFull α) : gMi l mY_Mo_play mB_Mo_play 4 (some .int) (rF 1 23) D (tT ct) gZ0 8 ad (mD ct ad) [.ref (ad 0), .int (nI (8 + i0)), .int (nI n)] x (fun _ x' => mR α 3 x') := by
  refine gMi_enter (by decide) (Nat.le_of_ble_eq_true rfl) ?_
  intro p e s m below meth c ls hx hb hr htw hown hlocks hml hl hP hK hZ hS
  have hA : ∀ k, k < 8 → gA 8 ad s.heap.size (ad k) := fun _ h => gA_in h
  have hl : lv_has ls 4 [(0, .ref (ad 0)), (1, .int (nI (8 + i0))), (2, .int (nI n))] := hl
  refine lv_aload_n hx hb mD_Mo_play_0 rfl (lv_at hl 0 rfl) ?_
  have h24 := hR.2.2.2.1.1
  refine lv_iload_n hx hb mD_Mo_play_1 rfl (lv_at hl 1 rfl) ?_
  refine lv_bipush (v := nI 8) hx hb mD_Mo_play_2 (by decide) ?_
  refine lv_icmp_lt (tgt := 22) hx hb mD_Mo_play_4 rfl (fun hc => ?_) (fun hc => ?_)
  · skip
    exfalso; exact nI_nlt (by omega) (by omega) hc
  · skip
    refine lv_iload_n hx hb mD_Mo_play_7 rfl (lv_at hl 1 rfl) ?_
    refine lv_bipush (v := nI 8) hx hb mD_Mo_play_8 (by decide) ?_
    refine lv_aload_n hx hb mD_Mo_play_10 rfl (lv_at hl 0 rfl) ?_
    refine m_get (C := cN_Mo) (T := cF_Mo) (N := 11) (ci := 8) hx hb htw wU_Mo hown hK hP 0 (by decide) rfl rfl 6 (by decide) rfl ww_646 rfl mD_Mo_play_11 ?_
    refine lv_iadd hx hb mD_Mo_play_14 ?_
    refine lv_icmp_ge (tgt := 22) hx hb mD_Mo_play_15 rfl (fun hc => ?_) (fun hc => ?_)
    · skip
      exfalso; rw [hR.2.2.2.1.2, nI_add] at hc; have := (nI_leI (by omega) (by omega)).mp hc; omega
    · skip
      refine lv_iconst (v := nI 1) hx hb mD_Mo_play_18 (by decide) ?_
      refine lv_goto (tgt := 23) hx hb mD_Mo_play_19 rfl ?_
      refine lv_iload_n hx hb mD_Mo_play_23 rfl (lv_at hl 2 rfl) ?_
      refine lv_if_lt (tgt := 38) hx hb mD_Mo_play_24 rfl (fun hc => ?_) (fun hc => ?_)
      · skip
        exfalso; exact nI_pos (by omega) hc
      · skip
        refine lv_iload_n hx hb mD_Mo_play_27 rfl (lv_at hl 2 rfl) ?_
        refine lv_sipush (v := nI 255) hx hb mD_Mo_play_28 (by decide) ?_
        refine lv_icmp_gt (tgt := 38) hx hb mD_Mo_play_31 rfl (fun hc => ?_) (fun hc => ?_)
        · skip
          exfalso; exact nI_nlt (by omega) (by omega) hc
        · skip
          refine lv_iconst (v := nI 1) hx hb mD_Mo_play_34 (by decide) ?_
          refine lv_goto (tgt := 39) hx hb mD_Mo_play_35 rfl ?_
          refine lv_aload_n hx hb mD_Mo_play_39 rfl (lv_at hl 0 rfl) ?_
          refine gc_Vi (As := []) (rest := [.int (nI 1), .int (nI 1), .ref (ad 0)]) hx hb hml hown htw hK hP hS 0 (k_Mo_many l D ct ad hI x (f := aT α) (fun q hq => (hR.1 q hq).1)) gZ0_ok (fun _ _ _ => trivial) (gA_mono hS.1) (by decide) rfl rfl ww_683 ww_685 ww_15 ww_33 wC_Mo_many mP_Mo_many (by decide) rfl hl.1 rfl (Nat.le_of_ble_eq_true rfl) mD_Mo_play_40 ⟨Nat.le_of_ble_eq_true rfl, Nat.le_of_ble_eq_true rfl⟩ (fun r2 x1 H locs hp1 hP _ _ hS => ?_)
          obtain ⟨hq_, rfl⟩ := hp1
          rw [hq_] at hP
          refine lv_bipush (v := nI 120) hx hb mD_Mo_play_43 (by decide) ?_
          refine lv_icmp_ge (tgt := 52) hx hb mD_Mo_play_45 rfl (fun hc => ?_) (fun hc => ?_)
          · skip
            refine lv_iconst (v := nI 0) hx hb mD_Mo_play_52 (by decide) ?_
            refine gc_Vi (As := [.int (nI 1), .int (nI 1), .int (nI 0)]) (rest := []) hx hb hml hown htw hK hP hS 0 (k_Mo_goes l D ct ad hI x (b1 := true) (b2 := true) (b3 := false) rfl rfl rfl) gZ0_ok (fun _ _ _ => trivial) (gA_mono hS.1) (by decide) rfl rfl ww_691 ww_693 ww_16 ww_33 wC_Mo_goes mP_Mo_goes (by decide) rfl hl.1 rfl (Nat.le_of_ble_eq_true rfl) mD_Mo_play_53 ⟨Nat.le_of_ble_eq_true rfl, Nat.le_of_ble_eq_true rfl⟩ (fun r4 x3 H locs hp3 hP _ _ hS => ?_)
            obtain ⟨hy, rfl⟩ := hp3
            have R1 : mR (α) (mCode true true false) x3 := by rw [hy]; exact mR_code hR
            refine lv_if_ne (tgt := 61) hx hb mD_Mo_play_56 rfl (fun hc => ?_) (fun hc => ?_)
            · skip
              exfalso; exact hc rfl
            · skip
              refine lv_iconst (v := nI 0) hx hb mD_Mo_play_59 (by decide) ?_
              exact gw_iret hx hb hr hlocks hP hS (R1) mD_Mo_play_60 (Nat.zero_le _) (Nat.zero_le _)
          · skip
            exfalso; exact hc (tm_full hf)

set_option maxHeartbeats 4000000 in
set_option maxRecDepth 100000 in
theorem n1_Mo_count (l : Launch) (D : va_G) (ct : Nat → ClassId) (ad : Nat → Nat) (hI : gw_inj 8 ad) (x : mS) (α : tA) (t0 : Int32) (hR : mR α t0 x) (a : Int32) (hh : ¬ ∃ w, w < 5 ∧ a = nI w) : gMi l mY_Mo_count mB_Mo_count 4 (some .int) (rF 1 23) D (tT ct) gZ0 8 ad (mD ct ad) [.ref (ad 0), .int a] x (fun _ x' => mR α 1 x') := by
  refine gMi_enter (by decide) (Nat.le_of_ble_eq_true rfl) ?_
  intro p e s m below meth c ls hx hb hr htw hown hlocks hml hl hP hK hZ hS
  have hA : ∀ k, k < 8 → gA 8 ad s.heap.size (ad k) := fun _ h => gA_in h
  have hl : lv_has ls 4 [(0, .ref (ad 0)), (1, .int a)] := hl
  refine lv_aload_n hx hb mD_Mo_count_0 rfl (lv_at hl 0 rfl) ?_
  refine lv_iload_n hx hb mD_Mo_count_1 rfl (lv_at hl 1 rfl) ?_
  refine lv_if_lt (tgt := 14) hx hb mD_Mo_count_2 rfl (fun a0 => ?_) (fun a0 => ?_)
  · skip
    refine lv_iconst (v := nI 0) hx hb mD_Mo_count_14 (by decide) ?_
    refine lv_iconst (v := nI 1) hx hb mD_Mo_count_15 (by decide) ?_
    refine lv_iconst (v := nI 1) hx hb mD_Mo_count_16 (by decide) ?_
    refine gc_Vi (As := [.int (nI 0), .int (nI 1), .int (nI 1)]) (rest := []) hx hb hml hown htw hK hP hS 0 (k_Mo_goes l D ct ad hI x (b1 := false) (b2 := true) (b3 := true) rfl rfl rfl) gZ0_ok (fun _ _ _ => trivial) (gA_mono hS.1) (by decide) rfl rfl ww_691 ww_693 ww_16 ww_33 wC_Mo_goes mP_Mo_goes (by decide) rfl hl.1 rfl (Nat.le_of_ble_eq_true rfl) mD_Mo_count_17 ⟨Nat.le_of_ble_eq_true rfl, Nat.le_of_ble_eq_true rfl⟩ (fun r2 x1 H locs hp1 hP _ _ hS => ?_)
    obtain ⟨hy, rfl⟩ := hp1
    have R1 : mR (α) (mCode false true true) x1 := by rw [hy]; exact mR_code hR
    refine lv_if_ne (tgt := 25) hx hb mD_Mo_count_20 rfl (fun hc => ?_) (fun hc => ?_)
    · skip
      exfalso; exact hc rfl
    · skip
      refine lv_iconst (v := nI 0) hx hb mD_Mo_count_23 (by decide) ?_
      exact gw_iret hx hb hr hlocks hP hS (R1) mD_Mo_count_24 (Nat.zero_le _) (Nat.zero_le _)
  · skip
    refine lv_iload_n hx hb mD_Mo_count_5 rfl (lv_at hl 1 rfl) ?_
    refine lv_iconst (v := nI 4) hx hb mD_Mo_count_6 (by decide) ?_
    refine lv_icmp_gt (tgt := 14) hx hb mD_Mo_count_7 rfl (fun a1 => ?_) (fun a1 => ?_)
    · skip
      refine lv_iconst (v := nI 0) hx hb mD_Mo_count_14 (by decide) ?_
      refine lv_iconst (v := nI 1) hx hb mD_Mo_count_15 (by decide) ?_
      refine lv_iconst (v := nI 1) hx hb mD_Mo_count_16 (by decide) ?_
      refine gc_Vi (As := [.int (nI 0), .int (nI 1), .int (nI 1)]) (rest := []) hx hb hml hown htw hK hP hS 0 (k_Mo_goes l D ct ad hI x (b1 := false) (b2 := true) (b3 := true) rfl rfl rfl) gZ0_ok (fun _ _ _ => trivial) (gA_mono hS.1) (by decide) rfl rfl ww_691 ww_693 ww_16 ww_33 wC_Mo_goes mP_Mo_goes (by decide) rfl hl.1 rfl (Nat.le_of_ble_eq_true rfl) mD_Mo_count_17 ⟨Nat.le_of_ble_eq_true rfl, Nat.le_of_ble_eq_true rfl⟩ (fun r4 x3 H locs hp3 hP _ _ hS => ?_)
      obtain ⟨hy, rfl⟩ := hp3
      have R1 : mR (α) (mCode false true true) x3 := by rw [hy]; exact mR_code hR
      refine lv_if_ne (tgt := 25) hx hb mD_Mo_count_20 rfl (fun hc => ?_) (fun hc => ?_)
      · skip
        exfalso; exact hc rfl
      · skip
        refine lv_iconst (v := nI 0) hx hb mD_Mo_count_23 (by decide) ?_
        exact gw_iret hx hb hr hlocks hP hS (R1) mD_Mo_count_24 (Nat.zero_le _) (Nat.zero_le _)
    · skip
      exfalso; obtain ⟨q, z1, z2⟩ := tk_rng (N := 4) (by decide) a0 (Int32.not_lt.mp a1); exact hh ⟨q, by omega, z2⟩

set_option maxHeartbeats 4000000 in
set_option maxRecDepth 100000 in
theorem k_Mo_count (l : Launch) (D : va_G) (ct : Nat → ClassId) (ad : Nat → Nat) (hI : gw_inj 8 ad) (x : mS) (α : tA) (t0 : Int32) (hR : mR α t0 x) {w : Nat} (hw : w < 5) : gMi l mY_Mo_count mB_Mo_count 4 (some .int) (rF 1 23) D (tT ct) gZ0 8 ad (mD ct ad) [.ref (ad 0), .int (nI w)] x (fun r x' => r = aCount α w ∧ mR α 0 x') := by
  refine gMi_enter (by decide) (Nat.le_of_ble_eq_true rfl) ?_
  intro p e s m below meth c ls hx hb hr htw hown hlocks hml hl hP hK hZ hS
  have hA : ∀ k, k < 8 → gA 8 ad s.heap.size (ad k) := fun _ h => gA_in h
  have hl : lv_has ls 4 [(0, .ref (ad 0)), (1, .int (nI w))] := hl
  refine gw_nmQ (fun Q hQ => ?_)
  refine lv_aload_n hx hb mD_Mo_count_0 rfl (lv_at hl 0 rfl) ?_
  refine lv_iload_n hx hb mD_Mo_count_1 rfl (lv_at hl 1 rfl) ?_
  refine lv_if_lt (tgt := 14) hx hb mD_Mo_count_2 rfl (fun hc => ?_) (fun hc => ?_)
  · skip
    exfalso; exact nI_pos (by omega) hc
  · skip
    refine lv_iload_n hx hb mD_Mo_count_5 rfl (lv_at hl 1 rfl) ?_
    refine lv_iconst (v := nI 4) hx hb mD_Mo_count_6 (by decide) ?_
    refine lv_icmp_gt (tgt := 14) hx hb mD_Mo_count_7 rfl (fun hc => ?_) (fun hc => ?_)
    · skip
      exfalso; exact nI_nlt (by omega) (by omega) hc
    · skip
      refine lv_iconst (v := nI 1) hx hb mD_Mo_count_10 (by decide) ?_
      refine lv_goto (tgt := 15) hx hb mD_Mo_count_11 rfl ?_
      refine lv_iconst (v := nI 1) hx hb mD_Mo_count_15 (by decide) ?_
      refine lv_iconst (v := nI 1) hx hb mD_Mo_count_16 (by decide) ?_
      refine gc_Vi (As := [.int (nI 1), .int (nI 1), .int (nI 1)]) (rest := []) hx hb hml hown htw hK hP hS 0 (k_Mo_goes l D ct ad hI x (b1 := true) (b2 := true) (b3 := true) rfl rfl rfl) gZ0_ok (fun _ _ _ => trivial) (gA_mono hS.1) (by decide) rfl rfl ww_691 ww_693 ww_16 ww_33 wC_Mo_goes mP_Mo_goes (by decide) rfl hl.1 rfl (Nat.le_of_ble_eq_true rfl) mD_Mo_count_17 ⟨Nat.le_of_ble_eq_true rfl, Nat.le_of_ble_eq_true rfl⟩ (fun r2 x1 H locs hp1 hP _ _ hS => ?_)
      obtain ⟨hy, rfl⟩ := hp1
      have R1 : mR (α) (mCode true true true) x1 := by rw [hy]; exact mR_code hR
      refine lv_if_ne (tgt := 25) hx hb mD_Mo_count_20 rfl (fun hc => ?_) (fun hc => ?_)
      · skip
        have hgb : ∀ k, k ≤ 120 → aGB α k < 1073741824 := fun k hk => aGB_lt (fun q hq h => ((R1.1 q hq).2 h).1) hk
        refine lv_iconst (v := nI 0) hx hb mD_Mo_count_25 (by decide) ?_
        refine lv_istore_n (lv' := [(2, .int (nI 0)), (0, .ref (ad 0)), (1, .int (nI w))]) hx hb mD_Mo_count_26 rfl hl (by decide) rfl (fun ls hl => ?_)
        refine lv_iconst (v := nI 0) hx hb mD_Mo_count_27 (by decide) ?_
        refine lv_istore_n (lv' := [(3, .int (nI 0)), (2, .int (nI 0)), (0, .ref (ad 0)), (1, .int (nI w))]) hx hb mD_Mo_count_28 rfl hl (by decide) rfl (fun ls hl => ?_)
        have loop : ∀ (d29 : Nat) (k : Nat) (H : Heap) (locs : List Loc) (ls : Array Slot), k + d29 = 120 → lv_has ls 4 [(3, .int (nI k)), (2, .int (nI (aGB α k))), (0, .ref (ad 0)), (1, .int (nI w))] → va_P D cL (gw 8 ad (mD ct ad x1)) H → va_S (gA 8 ad s.heap.size) s.heap H locs → (True) → W p l e (rF 1 23) s m [.ref (ad 0), .int (nI w)].toArray below meth c H locs 0 0 Q (F0 m 29 ls []) := by
          intro d29
          induction d29 using Nat.strongRecOn with
          | ind d29 ih =>
            intro k H locs ls hd hl hP hS hinv
            refine lv_iload_n hx hb mD_Mo_count_29 rfl (lv_at hl 0 rfl) ?_
            refine lv_bipush (v := nI 120) hx hb mD_Mo_count_30 (by decide) ?_
            refine lv_icmp_ge (tgt := 71) hx hb mD_Mo_count_32 rfl (fun hc => ?_) (fun hc => ?_)
            · skip
              have hn : k = 120 := by have := ts_ge (by omega) (by omega) hc; omega
              subst hn
              refine lv_iload_n hx hb mD_Mo_count_71 rfl (lv_at hl 3 rfl) ?_
              rcases (show w = 0 ∨ w = 1 ∨ w = 2 ∨ w = 3 ∨ w = 4 by omega) with rfl | rfl | rfl | rfl | rfl
              · skip
                refine lv_tableIn (tgt := 104) hx hb mD_Mo_count_72 (by decide) (by decide) rfl rfl ?_
                refine lv_aload_n hx hb mD_Mo_count_104 rfl (lv_at hl 2 rfl) ?_
                refine gc_Vi (As := []) (rest := []) hx hb hml hown htw hK hP hS 0 (k_Mo_many l D ct ad hI x1 (f := aT α) (fun q hq => (R1.1 q hq).1)) gZ0_ok (fun _ _ _ => trivial) (gA_mono hS.1) (by decide) rfl rfl ww_683 ww_685 ww_15 ww_33 wC_Mo_many mP_Mo_many (by decide) rfl hl.1 rfl (Nat.le_of_ble_eq_true rfl) mD_Mo_count_105 ⟨Nat.le_of_ble_eq_true rfl, Nat.le_of_ble_eq_true rfl⟩ (fun r4 x3 H locs hp3 hP _ _ hS => ?_)
                obtain ⟨hq_, rfl⟩ := hp3
                rw [hq_] at hP
                subst hQ
                exact gw_iret hx hb hr hlocks hP hS (⟨rfl, R1⟩) mD_Mo_count_108 (Nat.zero_le _) (Nat.zero_le _)
              · skip
                refine lv_tableIn (tgt := 109) hx hb mD_Mo_count_72 (by decide) (by decide) rfl rfl ?_
                refine lv_aload_n hx hb mD_Mo_count_109 rfl (lv_at hl 2 rfl) ?_
                refine m_get (C := cN_Mo) (T := cF_Mo) (N := 11) (ci := 8) hx hb htw wU_Mo hown hK hP 0 (by decide) rfl rfl 4 (by decide) rfl ww_644 rfl mD_Mo_count_110 ?_
                subst hQ
                exact gw_iret hx hb hr hlocks hP hS (⟨R1.2.1, R1⟩) mD_Mo_count_113 (Nat.zero_le _) (Nat.zero_le _)
              · skip
                refine lv_tableIn (tgt := 114) hx hb mD_Mo_count_72 (by decide) (by decide) rfl rfl ?_
                refine lv_aload_n hx hb mD_Mo_count_114 rfl (lv_at hl 2 rfl) ?_
                refine m_get (C := cN_Mo) (T := cF_Mo) (N := 11) (ci := 8) hx hb htw wU_Mo hown hK hP 0 (by decide) rfl rfl 5 (by decide) rfl ww_645 rfl mD_Mo_count_115 ?_
                subst hQ
                exact gw_iret hx hb hr hlocks hP hS (⟨R1.2.2.1, R1⟩) mD_Mo_count_118 (Nat.zero_le _) (Nat.zero_le _)
              · skip
                refine lv_tableIn (tgt := 119) hx hb mD_Mo_count_72 (by decide) (by decide) rfl rfl ?_
                refine lv_aload_n hx hb mD_Mo_count_119 rfl (lv_at hl 2 rfl) ?_
                refine m_get (C := cN_Mo) (T := cF_Mo) (N := 11) (ci := 8) hx hb htw wU_Mo hown hK hP 0 (by decide) rfl rfl 6 (by decide) rfl ww_646 rfl mD_Mo_count_120 ?_
                subst hQ
                exact gw_iret hx hb hr hlocks hP hS (⟨R1.2.2.2.1.2, R1⟩) mD_Mo_count_123 (Nat.zero_le _) (Nat.zero_le _)
              · skip
                refine lv_tableOut (tgt := 124) hx hb mD_Mo_count_72 (by decide) rfl ?_
                refine lv_iload_n hx hb mD_Mo_count_124 rfl (lv_at hl 1 rfl) ?_
                subst hQ
                exact gw_iret hx hb hr hlocks hP hS (⟨rfl, R1⟩) mD_Mo_count_125 (Nat.zero_le _) (Nat.zero_le _)
            · skip
              have hn_k : k < 120 := ts_lt (by omega) (by omega) hc
              refine lv_aload_n hx hb mD_Mo_count_35 rfl (lv_at hl 2 rfl) ?_
              refine m_get (C := cN_Mo) (T := cF_Mo) (N := 11) (ci := 8) hx hb htw wU_Mo hown hK hP 0 (by decide) rfl rfl 1 (by decide) rfl ww_641 rfl mD_Mo_count_36 ?_
              refine lv_iload_n hx hb mD_Mo_count_39 rfl (lv_at hl 0 rfl) ?_
              refine m_zald hx hb hK hP 1 120 (by decide) rfl k rfl (by omega) (by decide) mD_Mo_count_40 ?_
              refine lv_if_eq (tgt := 63) hx hb mD_Mo_count_41 rfl (fun a2 => ?_) (fun a2 => ?_)
              · skip
                refine lv_iload_n hx hb mD_Mo_count_63 rfl (lv_at hl 1 rfl) ?_
                have ek : nI (aGB α k) = nI (aGB α (k + 1)) := by first | exact aGB_off ((tBi_b (R1.1 k hn_k).1).2 a2) | exact (aGB_step (hgb k (by omega)) ((tBi_b (R1.1 k hn_k).1).1 a2) ((R1.1 k hn_k).2 ((tBi_b (R1.1 k hn_k).1).1 a2)).1 ((R1.1 k hn_k).2 ((tBi_b (R1.1 k hn_k).1).1 a2)).2.2).1 a3 | exact (aGB_step (hgb k (by omega)) ((tBi_b (R1.1 k hn_k).1).1 a2) ((R1.1 k hn_k).2 ((tBi_b (R1.1 k hn_k).1).1 a2)).1 ((R1.1 k hn_k).2 ((tBi_b (R1.1 k hn_k).1).1 a2)).2.2).2 a3
                rw [ek]
                refine lv_istore_n (lv' := [(2, .int (nI (aGB α (k + 1)))), (3, .int (nI k)), (0, .ref (ad 0)), (1, .int (nI w))]) hx hb mD_Mo_count_64 rfl hl (by decide) rfl (fun ls hl => ?_)
                refine lv_iinc (k := 1) (v := nI (k + 1)) (lv' := [(3, .int (nI (k + 1))), (2, .int (nI (aGB α (k + 1)))), (0, .ref (ad 0)), (1, .int (nI w))]) hx hb mD_Mo_count_65 hl rfl (by rw [lit1, nI_1]) (by decide) rfl (fun ls hl => ?_)
                refine lv_goto (tgt := 29) hx hb mD_Mo_count_68 rfl ?_
                exact ih (d29 - 1) (by omega) (k + 1) _ _ _ (by omega) (lv_sub hl [0, 1, 2, 3] rfl) hP hS trivial
              · skip
                refine lv_aload_n hx hb mD_Mo_count_44 rfl (lv_at hl 2 rfl) ?_
                refine m_get (C := cN_Mo) (T := cF_Mo) (N := 11) (ci := 8) hx hb htw wU_Mo hown hK hP 0 (by decide) rfl rfl 3 (by decide) rfl ww_643 rfl mD_Mo_count_45 ?_
                refine lv_iload_n hx hb mD_Mo_count_48 rfl (lv_at hl 0 rfl) ?_
                refine m_iald hx hb hK hP 3 120 (by decide) rfl k rfl (by omega) (by decide) mD_Mo_count_49 ?_
                refine lv_iload_n hx hb mD_Mo_count_50 rfl (lv_at hl 1 rfl) ?_
                refine lv_icmp_le (tgt := 63) hx hb mD_Mo_count_51 rfl (fun a3 => ?_) (fun a3 => ?_)
                · skip
                  refine lv_iload_n hx hb mD_Mo_count_63 rfl (lv_at hl 1 rfl) ?_
                  have ek : nI (aGB α k) = nI (aGB α (k + 1)) := by first | exact aGB_off ((tBi_b (R1.1 k hn_k).1).2 a2) | exact (aGB_step (hgb k (by omega)) ((tBi_b (R1.1 k hn_k).1).1 a2) ((R1.1 k hn_k).2 ((tBi_b (R1.1 k hn_k).1).1 a2)).1 ((R1.1 k hn_k).2 ((tBi_b (R1.1 k hn_k).1).1 a2)).2.2).1 a3 | exact (aGB_step (hgb k (by omega)) ((tBi_b (R1.1 k hn_k).1).1 a2) ((R1.1 k hn_k).2 ((tBi_b (R1.1 k hn_k).1).1 a2)).1 ((R1.1 k hn_k).2 ((tBi_b (R1.1 k hn_k).1).1 a2)).2.2).2 a3
                  rw [ek]
                  refine lv_istore_n (lv' := [(2, .int (nI (aGB α (k + 1)))), (3, .int (nI k)), (0, .ref (ad 0)), (1, .int (nI w))]) hx hb mD_Mo_count_64 rfl hl (by decide) rfl (fun ls hl => ?_)
                  refine lv_iinc (k := 1) (v := nI (k + 1)) (lv' := [(3, .int (nI (k + 1))), (2, .int (nI (aGB α (k + 1)))), (0, .ref (ad 0)), (1, .int (nI w))]) hx hb mD_Mo_count_65 hl rfl (by rw [lit1, nI_1]) (by decide) rfl (fun ls hl => ?_)
                  refine lv_goto (tgt := 29) hx hb mD_Mo_count_68 rfl ?_
                  exact ih (d29 - 1) (by omega) (k + 1) _ _ _ (by omega) (lv_sub hl [0, 1, 2, 3] rfl) hP hS trivial
                · skip
                  refine lv_aload_n hx hb mD_Mo_count_54 rfl (lv_at hl 2 rfl) ?_
                  refine m_get (C := cN_Mo) (T := cF_Mo) (N := 11) (ci := 8) hx hb htw wU_Mo hown hK hP 0 (by decide) rfl rfl 3 (by decide) rfl ww_643 rfl mD_Mo_count_55 ?_
                  refine lv_iload_n hx hb mD_Mo_count_58 rfl (lv_at hl 0 rfl) ?_
                  refine m_iald hx hb hK hP 3 120 (by decide) rfl k rfl (by omega) (by decide) mD_Mo_count_59 ?_
                  refine lv_goto (tgt := 64) hx hb mD_Mo_count_60 rfl ?_
                  have ek : x1 3 k = nI (aGB α (k + 1)) := by first | exact aGB_off ((tBi_b (R1.1 k hn_k).1).2 a2) | exact (aGB_step (hgb k (by omega)) ((tBi_b (R1.1 k hn_k).1).1 a2) ((R1.1 k hn_k).2 ((tBi_b (R1.1 k hn_k).1).1 a2)).1 ((R1.1 k hn_k).2 ((tBi_b (R1.1 k hn_k).1).1 a2)).2.2).1 a3 | exact (aGB_step (hgb k (by omega)) ((tBi_b (R1.1 k hn_k).1).1 a2) ((R1.1 k hn_k).2 ((tBi_b (R1.1 k hn_k).1).1 a2)).1 ((R1.1 k hn_k).2 ((tBi_b (R1.1 k hn_k).1).1 a2)).2.2).2 a3
                  rw [ek]
                  refine lv_istore_n (lv' := [(2, .int (nI (aGB α (k + 1)))), (3, .int (nI k)), (0, .ref (ad 0)), (1, .int (nI w))]) hx hb mD_Mo_count_64 rfl hl (by decide) rfl (fun ls hl => ?_)
                  refine lv_iinc (k := 1) (v := nI (k + 1)) (lv' := [(3, .int (nI (k + 1))), (2, .int (nI (aGB α (k + 1)))), (0, .ref (ad 0)), (1, .int (nI w))]) hx hb mD_Mo_count_65 hl rfl (by rw [lit1, nI_1]) (by decide) rfl (fun ls hl => ?_)
                  refine lv_goto (tgt := 29) hx hb mD_Mo_count_68 rfl ?_
                  exact ih (d29 - 1) (by omega) (k + 1) _ _ _ (by omega) (lv_sub hl [0, 1, 2, 3] rfl) hP hS trivial
        exact loop 120 0 _ _ _ (by omega) hl hP hS trivial
      · skip
        exfalso; exact absurd hc (by decide)
