/-! Refresher: turnIfKeyBit, subtract, comeBack, refresh. Laid by wip/whole/part_refresh2.py. -/
theorem tq_ext {w : Nat → Int32} {k : Int} : tp_ext (fun j => w (0 + j)) k = tp_ext (fun j => w j) k := tp_ext_congr (fun j _ => by rw [Nat.zero_add]) k
theorem tq_sum2 (f : Nat → Int32) : tp_sum 2 f = f 0 + f 1 := by
  show tp_sum 0 f + f 0 + f 1 = _
  rw [tp_sum_0]
  grind
/-- what the four rows of a step add to the phase -/
def tq_S (v : Nat → Nat → Int32) (gc : Nat → Int32) (i h w : Nat) (j : Int) : Int32 := tp_sum 32 (fun k => tp_dg w (gc (h * 32 + k)) * tp_ph (v 4) (fun q => v (7 + (4 * i + 2 * h + w)) q) (fun q => v (7 + (4 * i + 2 * h + w)) (32 + q)) (j - (k : Int)))
theorem tq_step {v : Nat → Nat → Int32} {gc gw : Nat → Int32} {i T : Nat} (hs : ∀ q, q < 32 → tp_bit (v 4 q)) (hκ : tp_bit (v 3 i)) (hst : ∀ h w, h < 2 → w < 2 → th_step v i h w)
    (ha : ∀ k : Nat, k < 32 → gc k = tp_ext (fun j => v 104 j) ((k : Int) - (T : Int)) - v 104 k) (hb : ∀ k : Nat, k < 32 → gc (32 + k) = tp_ext (fun j => v 104 (32 + j)) ((k : Int) - (T : Int)) - v 104 (32 + k))
    (hg : ∀ j : Int, tp_ph (v 4) (fun q => gw q) (fun q => gw (32 + q)) j = tp_ph (v 4) (fun q => v 104 q) (fun q => v 104 (32 + q)) j + tp_sum 2 (fun h => tp_sum 2 (fun w => tq_S v gc i h w j))) (j : Int) :
    tp_sm 329728 (tp_ph (v 4) (fun q => gw q) (fun q => gw (32 + q)) j - tp_ph (v 4) (fun q => v 104 q) (fun q => v 104 (32 + q)) (j - (if v 3 i = 1 then (T : Int) else 0))) := by
  refine tp_step (s := v 4) (wa := fun q => v 104 q) (wb := fun q => v 104 (32 + q)) (ca := fun k => gc k) (cb := fun k => gc (32 + k)) (g := fun j => tp_ph (v 4) (fun q => gw q) (fun q => gw (32 + q)) j) hs hκ (hst 0 0 (by decide) (by decide)) (hst 0 1 (by decide) (by decide)) (hst 1 0 (by decide) (by decide)) (hst 1 1 (by decide) (by decide)) ha hb ?_ j
  intro j
  show tp_ph (v 4) (fun q => gw q) (fun q => gw (32 + q)) j = _
  rw [hg j, tq_sum2, tq_sum2, tq_sum2]
  have e0 : ∀ w, tq_S v gc i 0 w j = tp_sum 32 (fun k => tp_dg w (gc k) * tp_ph (v 4) (fun q => v (7 + (4 * i + 2 * 0 + w)) q) (fun q => v (7 + (4 * i + 2 * 0 + w)) (32 + q)) (j - (k : Int))) := fun w => by
    unfold tq_S
    exact tp_sum_congr (fun k _ => by rw [Nat.zero_mul, Nat.zero_add])
  have e1 : ∀ w, tq_S v gc i 1 w j = tp_sum 32 (fun k => tp_dg w (gc (32 + k)) * tp_ph (v 4) (fun q => v (7 + (4 * i + 2 * 1 + w)) q) (fun q => v (7 + (4 * i + 2 * 1 + w)) (32 + q)) (j - (k : Int))) := fun w => by
    unfold tq_S
    exact tp_sum_congr (fun k _ => by rw [Nat.one_mul])
  rw [e0, e0, e1, e1]
  have ass : ∀ A B C D E : Int32, A + (B + C + (D + E)) = A + B + C + D + E := by intro A B C D E; grind
  exact ass _ _ _ _ _

set_option maxHeartbeats 4000000 in
set_option maxRecDepth 100000 in
theorem k_Re_turnIfKeyBit (l : Launch) (D : va_G) (ct : Nat → ClassId) (ad : Nat → Nat) (hI : gw_inj 424 ad) (x : tS) {i T : Nat} (hi : i < 8) (hT : T < 64) (hks : ∀ q, q < 32 → tp_bit (x.1 4 q)) (hkb : tp_bit (x.1 3 i)) (hst : ∀ h w, h < 2 → w < 2 → th_step x.1 i h w) : gMv l mY_Re_turnIfKeyBit mB_Re_turnIfKeyBit 5 none (rF 2 55) D (tT ct) gZ0 424 ad (tD ct ad) [.ref (ad 5), .int (nI i), .int (nI T)] x (fun x' => ∃ gc gw, x'.1 = va_up (va_up x.1 105 gc) 104 gw ∧ ∀ j : Int, tp_sm 329728 (tp_ph (x.1 4) (fun q => gw q) (fun q => gw (32 + q)) j - tp_ph (x.1 4) (fun q => x.1 104 q) (fun q => x.1 104 (32 + q)) (j - (if x.1 3 i = 1 then (T : Int) else 0)))) := by
  refine gMv_enter (by decide) (Nat.le_of_ble_eq_true rfl) ?_
  intro p e s m below meth c ls hx hb hr htw hown hlocks hml hl hP hK hZ hS
  have hA : ∀ k, k < 424 → gA 424 ad s.heap.size (ad k) := fun _ h => gA_in h
  have hl : lv_has ls 5 [(0, .ref (ad 5)), (1, .int (nI i)), (2, .int (nI T))] := hl
  refine gw_nmQ (fun Q hQ => ?_)
  refine lv_iconst (v := nI 0) hx hb mD_Re_turnIfKeyBit_0 (by decide) ?_
  refine lv_istore_n (lv' := [(3, .int (nI 0)), (0, .ref (ad 5)), (1, .int (nI i)), (2, .int (nI T))]) hx hb mD_Re_turnIfKeyBit_1 rfl hl (by decide) rfl (fun ls hl => ?_)
  have loop : ∀ (d2 : Nat) (n : Nat) (y : tS) (H : Heap) (locs : List Loc) (ls : Array Slot), n + d2 = 32 → lv_has ls 5 [(3, .int (nI n)), (0, .ref (ad 5)), (1, .int (nI i)), (2, .int (nI T))] → va_P D cL (gw 424 ad (tD ct ad y)) H → va_S (gA 424 ad s.heap.size) s.heap H locs → (∃ g, y.1 = va_up x.1 105 g ∧ (∀ k : Nat, k < n → g k = tp_ext (fun j => x.1 104 j) ((k : Int) - (T : Int)) - x.1 104 k) ∧ ∀ k : Nat, k < n → g (32 + k) = tp_ext (fun j => x.1 104 (32 + j)) ((k : Int) - (T : Int)) - x.1 104 (32 + k)) → W p l e (rF 2 55) s m [.ref (ad 5), .int (nI i), .int (nI T)].toArray below meth c H locs 0 0 Q (F0 m 2 ls []) := by
    intro d2
    induction d2 using Nat.strongRecOn with
    | ind d2 ih =>
      intro n y H locs ls hd hl hP hS hinv
      refine lv_iload_n hx hb mD_Re_turnIfKeyBit_2 rfl (lv_at hl 0 rfl) ?_
      refine lv_bipush (v := nI 32) hx hb mD_Re_turnIfKeyBit_3 (by decide) ?_
      refine lv_icmp_ge (tgt := 67) hx hb mD_Re_turnIfKeyBit_5 rfl (fun hc => ?_) (fun hc => ?_)
      · skip
        have hn : n = 32 := by have := ts_ge (by omega) (by omega) hc; omega
        subst hn
        obtain ⟨gc, hgc, hca, hcb⟩ := hinv
        refine lv_iconst (v := nI 0) hx hb mD_Re_turnIfKeyBit_67 (by decide) ?_
        refine lv_istore_n (lv' := [(3, .int (nI 0)), (0, .ref (ad 5)), (1, .int (nI i)), (2, .int (nI T))]) hx hb mD_Re_turnIfKeyBit_68 rfl hl (by decide) rfl (fun ls hl => ?_)
        have loop2 : ∀ (d69 : Nat) (a : Nat) (y : tS) (H : Heap) (locs : List Loc) (ls : Array Slot), a + d69 = 2 → lv_has ls 5 [(3, .int (nI a)), (0, .ref (ad 5)), (1, .int (nI i)), (2, .int (nI T))] → va_P D cL (gw 424 ad (tD ct ad y)) H → va_S (gA 424 ad s.heap.size) s.heap H locs → (∃ gw, y.1 = va_up (va_up x.1 105 gc) 104 gw ∧ ∀ j : Int, tp_ph (x.1 4) (fun q => gw q) (fun q => gw (32 + q)) j = tp_ph (x.1 4) (fun q => x.1 104 q) (fun q => x.1 104 (32 + q)) j + tp_sum a (fun h => tp_sum 2 (fun w => tq_S x.1 gc i h w j))) → W p l e (rF 2 55) s m [.ref (ad 5), .int (nI i), .int (nI T)].toArray below meth c H locs 0 0 Q (F0 m 69 ls []) := by
          intro d69
          induction d69 using Nat.strongRecOn with
          | ind d69 ih2 =>
            intro a y H locs ls hd hl hP hS hinv2
            refine lv_iload_n hx hb mD_Re_turnIfKeyBit_69 rfl (lv_at hl 0 rfl) ?_
            refine lv_iconst (v := nI 2) hx hb mD_Re_turnIfKeyBit_70 (by decide) ?_
            refine lv_icmp_ge (tgt := 120) hx hb mD_Re_turnIfKeyBit_71 rfl (fun hc => ?_) (fun hc => ?_)
            · skip
              have hn : a = 2 := by have := ts_ge (by omega) (by omega) hc; omega
              subst hn
              subst hQ
              exact gw_vret hx hb hr hlocks hP hS (by obtain ⟨gw, e, h⟩ := hinv2; exact ⟨gc, gw, e, tq_step hks hkb hst hca hcb h⟩) mD_Re_turnIfKeyBit_120 (Nat.zero_le _) (Nat.zero_le _)
            · skip
              have hn_a : a < 2 := ts_lt (by omega) (by omega) hc
              refine lv_iconst (v := nI 0) hx hb mD_Re_turnIfKeyBit_74 (by decide) ?_
              refine lv_istore (lv' := [(4, .int (nI 0)), (3, .int (nI a)), (0, .ref (ad 5)), (1, .int (nI i)), (2, .int (nI T))]) hx hb mD_Re_turnIfKeyBit_75 hl (by decide) rfl (fun ls hl => ?_)
              have loop3 : ∀ (d77 : Nat) (b : Nat) (z : tS) (H : Heap) (locs : List Loc) (ls : Array Slot), b + d77 = 2 → lv_has ls 5 [(4, .int (nI b)), (3, .int (nI a)), (0, .ref (ad 5)), (1, .int (nI i)), (2, .int (nI T))] → va_P D cL (gw 424 ad (tD ct ad z)) H → va_S (gA 424 ad s.heap.size) s.heap H locs → (∃ gw, z.1 = va_up (va_up x.1 105 gc) 104 gw ∧ ∀ j : Int, tp_ph (x.1 4) (fun q => gw q) (fun q => gw (32 + q)) j = tp_ph (x.1 4) (fun q => x.1 104 q) (fun q => x.1 104 (32 + q)) j + tp_sum a (fun h => tp_sum 2 (fun w => tq_S x.1 gc i h w j)) + tp_sum b (fun w => tq_S x.1 gc i a w j)) → W p l e (rF 2 55) s m [.ref (ad 5), .int (nI i), .int (nI T)].toArray below meth c H locs 0 0 Q (F0 m 77 ls []) := by
                intro d77
                induction d77 using Nat.strongRecOn with
                | ind d77 ih3 =>
                  intro b z H locs ls hd hl hP hS hinv3
                  refine lv_iload hx hb mD_Re_turnIfKeyBit_77 (lv_at hl 0 rfl) ?_
                  refine lv_iconst (v := nI 2) hx hb mD_Re_turnIfKeyBit_79 (by decide) ?_
                  refine lv_icmp_ge (tgt := 114) hx hb mD_Re_turnIfKeyBit_80 rfl (fun hc => ?_) (fun hc => ?_)
                  · skip
                    have hn : b = 2 := by have := ts_ge (by omega) (by omega) hc; omega
                    subst hn
                    refine lv_iinc (k := 1) (v := nI (a + 1)) (lv' := [(3, .int (nI (a + 1))), (4, .int (nI 2)), (0, .ref (ad 5)), (1, .int (nI i)), (2, .int (nI T))]) hx hb mD_Re_turnIfKeyBit_114 hl rfl (by rw [lit1, nI_1]) (by decide) rfl (fun ls hl => ?_)
                    refine lv_goto (tgt := 69) hx hb mD_Re_turnIfKeyBit_117 rfl ?_
                    exact ih2 (d69 - 1) (by omega) (a + 1) z _ _ _ (by omega) (lv_sub hl [0, 2, 3, 4] rfl) hP hS (by obtain ⟨gw, e, h⟩ := hinv3; exact ⟨gw, e, fun j => by rw [h j, tp_sum_s a]; have ass : ∀ A B C : Int32, A + B + C = A + (B + C) := (by intro A B C; grind); exact ass _ _ _⟩)
                  · skip
                    have hn_b : b < 2 := ts_lt (by omega) (by omega) hc
                    refine lv_aload_n hx hb mD_Re_turnIfKeyBit_83 rfl (lv_at hl 2 rfl) ?_
                    refine lv_iload_n hx hb mD_Re_turnIfKeyBit_84 rfl (lv_at hl 1 rfl) ?_
                    refine lv_bipush (v := nI 32) hx hb mD_Re_turnIfKeyBit_85 (by decide) ?_
                    refine lv_imul hx hb mD_Re_turnIfKeyBit_87 ?_
                    refine lv_iload hx hb mD_Re_turnIfKeyBit_88 (lv_at hl 0 rfl) ?_
                    refine lv_aload_n hx hb mD_Re_turnIfKeyBit_90 rfl (lv_at hl 2 rfl) ?_
                    refine t_get (C := cN_Re) (T := cF_Re) (N := 4) (ci := 3) hx hb htw wU_Re hown hK hP 5 (by decide) rfl rfl 0 (by decide) rfl ww_83 rfl mD_Re_turnIfKeyBit_91 ?_
                    refine lv_iload_n hx hb mD_Re_turnIfKeyBit_94 rfl (lv_at hl 3 rfl) ?_
                    refine lv_iconst (v := nI 4) hx hb mD_Re_turnIfKeyBit_95 (by decide) ?_
                    refine lv_imul hx hb mD_Re_turnIfKeyBit_96 ?_
                    refine lv_iload_n hx hb mD_Re_turnIfKeyBit_97 rfl (lv_at hl 1 rfl) ?_
                    refine lv_iconst (v := nI 2) hx hb mD_Re_turnIfKeyBit_98 (by decide) ?_
                    refine lv_imul hx hb mD_Re_turnIfKeyBit_99 ?_
                    refine lv_iadd hx hb mD_Re_turnIfKeyBit_100 ?_
                    refine lv_iload hx hb mD_Re_turnIfKeyBit_101 (lv_at hl 0 rfl) ?_
                    refine lv_iadd hx hb mD_Re_turnIfKeyBit_103 ?_
                    refine t_alda hx hb hK hP 6 32 (by decide) rfl ((4 * i + 2 * a + b)) (by rw [pk_mul, pk_mul, nI_add, nI_add]; congr 1; omega) (by omega) (by decide) rfl mD_Re_turnIfKeyBit_104 ?_
                    refine gc_Vv (As := [.int ((nI a) * (nI 32)), .int (nI b), .ref (ad ((7 + ((4 * i + 2 * a + b)))))]) (rest := []) hx hb hml hown htw hK hP hS 5 (k_Re_addChange l D ct ad hI z (sv := nI a * nI 32) (st := a * 32) (w := b) (kp := (7 + (4 * i + 2 * a + b))) (pk_mul _ _) (by omega) (by omega) (show tPair (7 + (4 * i + 2 * a + b)) by unfold tPair; omega) (by omega)) gZ0_ok (fun _ _ _ => trivial) (gA_mono hS.1) (by decide) rfl rfl ww_537 ww_539 ww_13 ww_26 wC_Re_addChange mP_Re_addChange (by decide) rfl hl.1 rfl (Nat.le_of_ble_eq_true rfl) mD_Re_turnIfKeyBit_105 ⟨Nat.le_of_ble_eq_true rfl, Nat.le_of_ble_eq_true rfl⟩ (fun x1 H locs hp1 hP _ _ hS => ?_)
                    refine lv_iinc (k := 0) (v := nI (b + 1)) (lv' := [(4, .int (nI (b + 1))), (3, .int (nI a)), (0, .ref (ad 5)), (1, .int (nI i)), (2, .int (nI T))]) hx hb mD_Re_turnIfKeyBit_108 hl rfl (by rw [lit1, nI_1]) (by decide) rfl (fun ls hl => ?_)
                    refine lv_goto (tgt := 77) hx hb mD_Re_turnIfKeyBit_111 rfl ?_
                    exact ih3 (d77 - 1) (by omega) (b + 1) x1 _ _ _ (by omega) (lv_sub hl [0, 1, 2, 3, 4] rfl) hP hS (by obtain ⟨gw, e, h⟩ := hinv3; obtain ⟨g1, e1, h1⟩ := hp1; have e5 : z.1 105 = gc := (by rw [e, va_up_ne _ _ (by decide), va_up_self]); have ek : z.1 (7 + (4 * i + 2 * a + b)) = x.1 (7 + (4 * i + 2 * a + b)) := (by rw [e, va_up_ne _ _ (by omega), va_up_ne _ _ (by omega)]); have e104 : z.1 104 = gw := (by rw [e, va_up_self]); rw [e5, ek, e104] at h1; exact ⟨g1, by rw [e1, e, bx_uu], fun j => by rw [h1 (x.1 4) j, h j, tp_sum_s b (fun w => tq_S x.1 gc i a w j)]; have ass : ∀ A B C D : Int32, A + B + C + D = A + B + (C + D) := (by intro A B C D; grind); exact ass _ _ _ _⟩)
              exact loop3 2 0 y _ _ _ (by omega) hl hP hS (by obtain ⟨gw, e, h⟩ := hinv2; exact ⟨gw, e, fun j => by rw [h j, tp_sum_0 (fun w => tq_S x.1 gc i a w j)]; have ass : ∀ A B : Int32, A + B = A + B + 0 := (by intro A B; grind); exact ass _ _⟩)
        exact loop2 2 0 y _ _ _ (by omega) hl hP hS ⟨x.1 104, by rw [hgc, show x.1 104 = (va_up x.1 105 gc) 104 by rw [va_up_ne _ _ (by decide)], va_up_same], fun j => by rw [tp_sum_0]; grind⟩
      · skip
        have hn_n : n < 32 := ts_lt (by omega) (by omega) hc
        refine lv_aload_n hx hb mD_Re_turnIfKeyBit_8 rfl (lv_at hl 1 rfl) ?_
        refine t_get (C := cN_Re) (T := cF_Re) (N := 4) (ci := 3) hx hb htw wU_Re hown hK hP 5 (by decide) rfl rfl 3 (by decide) rfl ww_86 rfl mD_Re_turnIfKeyBit_9 ?_
        refine lv_iload_n hx hb mD_Re_turnIfKeyBit_12 rfl (lv_at hl 0 rfl) ?_
        refine lv_iload_n hx hb mD_Re_turnIfKeyBit_13 rfl (lv_at hl 3 rfl) ?_
        refine lv_iload_n hx hb mD_Re_turnIfKeyBit_14 rfl (lv_at hl 0 rfl) ?_
        refine lv_aload_n hx hb mD_Re_turnIfKeyBit_15 rfl (lv_at hl 1 rfl) ?_
        refine t_get (C := cN_Re) (T := cF_Re) (N := 4) (ci := 3) hx hb htw wU_Re hown hK hP 5 (by decide) rfl rfl 2 (by decide) rfl ww_85 rfl mD_Re_turnIfKeyBit_16 ?_
        refine lv_iconst (v := nI 0) hx hb mD_Re_turnIfKeyBit_19 (by decide) ?_
        refine gc_Si (As := [.int (nI T), .int (nI n), .ref (ad 104), .int (nI 0)]) (rest := [.int (nI n), .ref (ad 105)]) hx hb hml hown htw hK hP hS (k_Ri_turned l D ct ad hI y (T := T) (i := n) (k := 104) (fs := 0) hT (by omega) tr_104 (by decide)) gZ0_ok (fun _ _ _ => trivial) (gA_mono hS.1) ww_534 ww_535 ww_31 wC_Ri_turned mP_Ri_turned (by decide) rfl hl.1 rfl (Nat.le_of_ble_eq_true rfl) mD_Re_turnIfKeyBit_20 ⟨Nat.le_of_ble_eq_true rfl, Nat.le_of_ble_eq_true rfl⟩ (fun r4 x3 H locs hp3 hP _ _ hS => ?_)
        obtain ⟨hq_, rfl⟩ := hp3
        rw [hq_] at hP
        refine lv_aload_n hx hb mD_Re_turnIfKeyBit_23 rfl (lv_at hl 1 rfl) ?_
        refine t_get (C := cN_Re) (T := cF_Re) (N := 4) (ci := 3) hx hb htw wU_Re hown hK hP 5 (by decide) rfl rfl 2 (by decide) rfl ww_85 rfl mD_Re_turnIfKeyBit_24 ?_
        refine lv_iload_n hx hb mD_Re_turnIfKeyBit_27 rfl (lv_at hl 0 rfl) ?_
        refine t_iald hx hb hK hP 104 64 (by decide) rfl n rfl (by omega) (by decide) mD_Re_turnIfKeyBit_28 ?_
        refine lv_isub hx hb mD_Re_turnIfKeyBit_29 ?_
        refine t_iast hx hb hK hI hA hP hS 105 64 (by decide) (fun _ => rfl) n rfl (by omega) (by decide) mD_Re_turnIfKeyBit_30 (fun H locs hP hS => ?_)
        obtain ⟨x5, hx5⟩ : ∃ z, z = tU y 105 (upd (y.1 105) n ((tp_ext (fun j => y.1 104 (0 + j)) ((n : Int) - (T : Int))) - (y.1 104 n))) := ⟨_, rfl⟩
        rw [← hx5] at hP
        refine lv_aload_n hx hb mD_Re_turnIfKeyBit_31 rfl (lv_at hl 1 rfl) ?_
        refine t_get (C := cN_Re) (T := cF_Re) (N := 4) (ci := 3) hx hb htw wU_Re hown hK hP 5 (by decide) rfl rfl 3 (by decide) rfl ww_86 rfl mD_Re_turnIfKeyBit_32 ?_
        refine lv_bipush (v := nI 32) hx hb mD_Re_turnIfKeyBit_35 (by decide) ?_
        refine lv_iload_n hx hb mD_Re_turnIfKeyBit_37 rfl (lv_at hl 0 rfl) ?_
        refine lv_iadd hx hb mD_Re_turnIfKeyBit_38 ?_
        refine lv_iload_n hx hb mD_Re_turnIfKeyBit_39 rfl (lv_at hl 3 rfl) ?_
        refine lv_iload_n hx hb mD_Re_turnIfKeyBit_40 rfl (lv_at hl 0 rfl) ?_
        refine lv_aload_n hx hb mD_Re_turnIfKeyBit_41 rfl (lv_at hl 1 rfl) ?_
        refine t_get (C := cN_Re) (T := cF_Re) (N := 4) (ci := 3) hx hb htw wU_Re hown hK hP 5 (by decide) rfl rfl 2 (by decide) rfl ww_85 rfl mD_Re_turnIfKeyBit_42 ?_
        refine lv_bipush (v := nI 32) hx hb mD_Re_turnIfKeyBit_45 (by decide) ?_
        refine gc_Si (As := [.int (nI T), .int (nI n), .ref (ad 104), .int (nI 32)]) (rest := [.int ((nI 32) + (nI n)), .ref (ad 105)]) hx hb hml hown htw hK hP hS (k_Ri_turned l D ct ad hI x5 (T := T) (i := n) (k := 104) (fs := 32) hT (by omega) tr_104 (by decide)) gZ0_ok (fun _ _ _ => trivial) (gA_mono hS.1) ww_534 ww_535 ww_31 wC_Ri_turned mP_Ri_turned (by decide) rfl hl.1 rfl (Nat.le_of_ble_eq_true rfl) mD_Re_turnIfKeyBit_47 ⟨Nat.le_of_ble_eq_true rfl, Nat.le_of_ble_eq_true rfl⟩ (fun r7 x6 H locs hp6 hP _ _ hS => ?_)
        obtain ⟨hq_, rfl⟩ := hp6
        rw [hq_] at hP
        refine lv_aload_n hx hb mD_Re_turnIfKeyBit_50 rfl (lv_at hl 1 rfl) ?_
        refine t_get (C := cN_Re) (T := cF_Re) (N := 4) (ci := 3) hx hb htw wU_Re hown hK hP 5 (by decide) rfl rfl 2 (by decide) rfl ww_85 rfl mD_Re_turnIfKeyBit_51 ?_
        refine lv_bipush (v := nI 32) hx hb mD_Re_turnIfKeyBit_54 (by decide) ?_
        refine lv_iload_n hx hb mD_Re_turnIfKeyBit_56 rfl (lv_at hl 0 rfl) ?_
        refine lv_iadd hx hb mD_Re_turnIfKeyBit_57 ?_
        refine t_iald hx hb hK hP 104 64 (by decide) rfl ((32 + n)) (nI_add _ _) (by omega) (by decide) mD_Re_turnIfKeyBit_58 ?_
        refine lv_isub hx hb mD_Re_turnIfKeyBit_59 ?_
        refine t_iast hx hb hK hI hA hP hS 105 64 (by decide) (fun _ => rfl) ((32 + n)) (nI_add _ _) (by omega) (by decide) mD_Re_turnIfKeyBit_60 (fun H locs hP hS => ?_)
        obtain ⟨x8, hx8⟩ : ∃ z, z = tU x5 105 (upd (x5.1 105) ((32 + n)) ((tp_ext (fun j => x5.1 104 (32 + j)) ((n : Int) - (T : Int))) - (x5.1 104 ((32 + n))))) := ⟨_, rfl⟩
        rw [← hx8] at hP
        refine lv_iinc (k := 0) (v := nI (n + 1)) (lv' := [(3, .int (nI (n + 1))), (0, .ref (ad 5)), (1, .int (nI i)), (2, .int (nI T))]) hx hb mD_Re_turnIfKeyBit_61 hl rfl (by rw [lit1, nI_1]) (by decide) rfl (fun ls hl => ?_)
        refine lv_goto (tgt := 2) hx hb mD_Re_turnIfKeyBit_64 rfl ?_
        exact ih (d2 - 1) (by omega) (n + 1) x8 _ _ _ (by omega) (lv_sub hl [0, 1, 2, 3] rfl) hP hS (by obtain ⟨g, hg, h1, h2⟩ := hinv; have e4 : y.1 104 = x.1 104 := (by rw [hg, va_up_ne _ _ (by decide)]); have e4b : x5.1 104 = x.1 104 := (by rw [hx5, tU_n (by decide), e4]); exact ⟨upd (upd g n (tp_ext (fun j => x.1 104 (0 + j)) ((n : Int) - (T : Int)) - x.1 104 n)) (32 + n) (tp_ext (fun j => x.1 104 (32 + j)) ((n : Int) - (T : Int)) - x.1 104 (32 + n)), by rw [hx8, tU_f, e4b, hx5, tU_f, e4, hg, bx_uu, bx_uu, va_up_self, va_up_self], tr_upd2 (P := fun (k : Nat) z => z = tp_ext (fun j => x.1 104 j) ((k : Int) - (T : Int)) - x.1 104 k) h1 (by omega) (by rw [tq_ext]), tr_upd3 (P := fun (k : Nat) z => z = tp_ext (fun j => x.1 104 (32 + j)) ((k : Int) - (T : Int)) - x.1 104 (32 + k)) h2 (by omega) rfl⟩)
  exact loop 32 0 x _ _ _ (by omega) hl hP hS ⟨x.1 105, va_up_same.symm, fun _ h => absurd h (Nat.not_lt_zero _), fun _ h => absurd h (Nat.not_lt_zero _)⟩

set_option maxHeartbeats 4000000 in
set_option maxRecDepth 100000 in
theorem k_Re_subtract (l : Launch) (D : va_G) (ct : Nat → ClassId) (ad : Nat → Nat) (hI : gw_inj 424 ad) (x : tS) (tm : Int32) {kr kd : Nat} (hkr : tRow kr) (hkd : tRow kd) (hne : kr ≠ kd) : gMv l mY_Re_subtract mB_Re_subtract 4 none (rF 0 0) D (tT ct) gZ0 424 ad (tD ct ad) [.int tm, .ref (ad kr), .ref (ad kd)] x (fun x' => ∃ g, x'.1 = va_up x.1 kd g ∧ ∀ i, i < 9 → g i = x.1 kd i - tm * x.1 kr i) := by
  refine gMv_enter (by decide) (Nat.le_of_ble_eq_true rfl) ?_
  intro p e s m below meth c ls hx hb hr htw hown hlocks hml hl hP hK hZ hS
  have hA : ∀ k, k < 424 → gA 424 ad s.heap.size (ad k) := fun _ h => gA_in h
  have hl : lv_has ls 4 [(0, .int tm), (1, .ref (ad kr)), (2, .ref (ad kd))] := hl
  refine gw_nmQ (fun Q hQ => ?_)
  refine lv_iconst (v := nI 0) hx hb mD_Re_subtract_0 (by decide) ?_
  refine lv_istore_n (lv' := [(3, .int (nI 0)), (0, .int tm), (1, .ref (ad kr)), (2, .ref (ad kd))]) hx hb mD_Re_subtract_1 rfl hl (by decide) rfl (fun ls hl => ?_)
  have loop : ∀ (d2 : Nat) (n : Nat) (y : tS) (H : Heap) (locs : List Loc) (ls : Array Slot), n + d2 = 9 → lv_has ls 4 [(3, .int (nI n)), (0, .int tm), (1, .ref (ad kr)), (2, .ref (ad kd))] → va_P D cL (gw 424 ad (tD ct ad y)) H → va_S (gA 424 ad s.heap.size) s.heap H locs → (∃ g, y.1 = va_up x.1 kd g ∧ (∀ i, i < n → g i = x.1 kd i - tm * x.1 kr i) ∧ ∀ i, n ≤ i → g i = x.1 kd i) → W p l e (rF 0 0) s m [.int tm, .ref (ad kr), .ref (ad kd)].toArray below meth c H locs 0 0 Q (F0 m 2 ls []) := by
    intro d2
    induction d2 using Nat.strongRecOn with
    | ind d2 ih =>
      intro n y H locs ls hd hl hP hS hinv
      refine lv_iload_n hx hb mD_Re_subtract_2 rfl (lv_at hl 0 rfl) ?_
      refine lv_bipush (v := nI 9) hx hb mD_Re_subtract_3 (by decide) ?_
      refine lv_icmp_ge (tgt := 25) hx hb mD_Re_subtract_5 rfl (fun hc => ?_) (fun hc => ?_)
      · skip
        have hn : n = 9 := by have := ts_ge (by omega) (by omega) hc; omega
        subst hn
        subst hQ
        exact gw_vret hx hb hr hlocks hP hS (by obtain ⟨g, hg, h1, _⟩ := hinv; exact ⟨g, hg, h1⟩) mD_Re_subtract_25 (Nat.zero_le _) (Nat.zero_le _)
      · skip
        have hn_n : n < 9 := ts_lt (by omega) (by omega) hc
        refine lv_aload_n hx hb mD_Re_subtract_8 rfl (lv_at hl 3 rfl) ?_
        refine lv_iload_n hx hb mD_Re_subtract_9 rfl (lv_at hl 0 rfl) ?_
        refine lv_dup2_11 hx hb mD_Re_subtract_10 rfl rfl ?_
        refine t_iald hx hb hK hP kd 9 (tRow_lt hkd) (tE_row hkd) n rfl (by omega) (by decide) mD_Re_subtract_11 ?_
        refine lv_iload_n hx hb mD_Re_subtract_12 rfl (lv_at hl 1 rfl) ?_
        refine lv_aload_n hx hb mD_Re_subtract_13 rfl (lv_at hl 2 rfl) ?_
        refine lv_iload_n hx hb mD_Re_subtract_14 rfl (lv_at hl 0 rfl) ?_
        refine t_iald hx hb hK hP kr 9 (tRow_lt hkr) (tE_row hkr) n rfl (by omega) (by decide) mD_Re_subtract_15 ?_
        refine lv_imul hx hb mD_Re_subtract_16 ?_
        refine lv_isub hx hb mD_Re_subtract_17 ?_
        refine t_iast hx hb hK hI hA hP hS kd 9 (tRow_lt hkd) (fun _ => tE_row hkd) n rfl (by omega) (by decide) mD_Re_subtract_18 (fun H locs hP hS => ?_)
        obtain ⟨x1, hx1⟩ : ∃ z, z = tU y kd (upd (y.1 kd) n ((y.1 kd n) - (tm * (y.1 kr n)))) := ⟨_, rfl⟩
        rw [← hx1] at hP
        refine lv_iinc (k := 0) (v := nI (n + 1)) (lv' := [(3, .int (nI (n + 1))), (0, .int tm), (1, .ref (ad kr)), (2, .ref (ad kd))]) hx hb mD_Re_subtract_19 hl rfl (by rw [lit1, nI_1]) (by decide) rfl (fun ls hl => ?_)
        refine lv_goto (tgt := 2) hx hb mD_Re_subtract_22 rfl ?_
        exact ih (d2 - 1) (by omega) (n + 1) x1 _ _ _ (by omega) (lv_sub hl [0, 1, 2, 3] rfl) hP hS (by obtain ⟨g, hg, h1, h2⟩ := hinv; have ed : y.1 kd = g := (by rw [hg, va_up_self]); have er : y.1 kr = x.1 kr := (by rw [hg, va_up_ne _ _ hne]); exact ⟨upd g n (g n - tm * x.1 kr n), by rw [hx1, tU_f, ed, er, hg, bx_uu], fun i hi => by by_cases q : i = n; rw [q, pk_us, h2 n (Nat.le_refl _)]; rw [pk_un q]; exact h1 i (by omega), fun i hi => by rw [pk_un (by omega)]; exact h2 i (by omega)⟩)
  exact loop 9 0 x _ _ _ (by omega) hl hP hS ⟨x.1 kd, va_up_same.symm, fun _ h => absurd h (Nat.not_lt_zero _), fun _ _ => rfl⟩

set_option maxHeartbeats 4000000 in
set_option maxRecDepth 100000 in
theorem k_Re_comeBack (l : Launch) (D : va_G) (ct : Nat → ClassId) (ad : Nat → Nat) (hI : gw_inj 424 ad) (x : tS) {kd : Nat} (hkd : tFar kd) : gMv l mY_Re_comeBack mB_Re_comeBack 5 none (rF 1 24) D (tT ct) gZ0 424 ad (tD ct ad) [.ref (ad 5), .ref (ad kd)] x (fun x' => ∃ g, x'.1 = va_up x.1 kd g ∧ tp_place (x.1 3) g = x.1 104 32 - tp_sum 32 (fun i => tp_sum 2 (fun w => tp_dg w (tp_ext (fun j => x.1 104 j) (0 - (i : Int))) * tp_place (x.1 3) (x.1 (40 + (2 * i + w)))))) := by
  refine gMv_enter (by decide) (Nat.le_of_ble_eq_true rfl) ?_
  intro p e s m below meth c ls hx hb hr htw hown hlocks hml hl hP hK hZ hS
  have hA : ∀ k, k < 424 → gA 424 ad s.heap.size (ad k) := fun _ h => gA_in h
  have hl : lv_has ls 5 [(0, .ref (ad 5)), (1, .ref (ad kd))] := hl
  refine gw_nmQ (fun Q hQ => ?_)
  refine lv_iconst (v := nI 0) hx hb mD_Re_comeBack_0 (by decide) ?_
  refine lv_istore_n (lv' := [(2, .int (nI 0)), (0, .ref (ad 5)), (1, .ref (ad kd))]) hx hb mD_Re_comeBack_1 rfl hl (by decide) rfl (fun ls hl => ?_)
  have loop : ∀ (d2 : Nat) (n : Nat) (y : tS) (H : Heap) (locs : List Loc) (ls : Array Slot), n + d2 = 8 → lv_has ls 5 [(2, .int (nI n)), (0, .ref (ad 5)), (1, .ref (ad kd))] → va_P D cL (gw 424 ad (tD ct ad y)) H → va_S (gA 424 ad s.heap.size) s.heap H locs → (∃ g, y.1 = va_up x.1 kd g ∧ ∀ i, i < n → g i = 0) → W p l e (rF 1 24) s m [.ref (ad 5), .ref (ad kd)].toArray below meth c H locs 0 0 Q (F0 m 2 ls []) := by
    intro d2
    induction d2 using Nat.strongRecOn with
    | ind d2 ih =>
      intro n y H locs ls hd hl hP hS hinv
      refine lv_iload_n hx hb mD_Re_comeBack_2 rfl (lv_at hl 0 rfl) ?_
      refine lv_bipush (v := nI 8) hx hb mD_Re_comeBack_3 (by decide) ?_
      refine lv_icmp_ge (tgt := 18) hx hb mD_Re_comeBack_5 rfl (fun hc => ?_) (fun hc => ?_)
      · skip
        have hn : n = 8 := by have := ts_ge (by omega) (by omega) hc; omega
        subst hn
        refine lv_aload_n hx hb mD_Re_comeBack_18 rfl (lv_at hl 2 rfl) ?_
        refine lv_bipush (v := nI 8) hx hb mD_Re_comeBack_19 (by decide) ?_
        refine lv_aload_n hx hb mD_Re_comeBack_21 rfl (lv_at hl 1 rfl) ?_
        refine t_get (C := cN_Re) (T := cF_Re) (N := 4) (ci := 3) hx hb htw wU_Re hown hK hP 5 (by decide) rfl rfl 2 (by decide) rfl ww_85 rfl mD_Re_comeBack_22 ?_
        refine lv_bipush (v := nI 32) hx hb mD_Re_comeBack_25 (by decide) ?_
        refine t_iald hx hb hK hP 104 64 (by decide) rfl 32 rfl (by decide) (by decide) mD_Re_comeBack_27 ?_
        refine t_iast hx hb hK hI hA hP hS kd 9 (tRow_lt hkd.1) (fun _ => tE_row hkd.1) 8 rfl (by decide) (by decide) mD_Re_comeBack_28 (fun H locs hP hS => ?_)
        obtain ⟨x1, hx1⟩ : ∃ z, z = tU y kd (upd (y.1 kd) 8 (y.1 104 32)) := ⟨_, rfl⟩
        rw [← hx1] at hP
        refine lv_iconst (v := nI 0) hx hb mD_Re_comeBack_29 (by decide) ?_
        refine lv_istore_n (lv' := [(2, .int (nI 0)), (0, .ref (ad 5)), (1, .ref (ad kd))]) hx hb mD_Re_comeBack_30 rfl hl (by decide) rfl (fun ls hl => ?_)
        have loop2 : ∀ (d31 : Nat) (n : Nat) (y : tS) (H : Heap) (locs : List Loc) (ls : Array Slot), n + d31 = 32 → lv_has ls 5 [(2, .int (nI n)), (0, .ref (ad 5)), (1, .ref (ad kd))] → va_P D cL (gw 424 ad (tD ct ad y)) H → va_S (gA 424 ad s.heap.size) s.heap H locs → (∃ g, y.1 = va_up x.1 kd g ∧ tp_place (x.1 3) g = x.1 104 32 - tp_sum n (fun i => tp_sum 2 (fun w => tp_dg w (tp_ext (fun j => x.1 104 j) (0 - (i : Int))) * tp_place (x.1 3) (x.1 (40 + (2 * i + w)))))) → W p l e (rF 1 24) s m [.ref (ad 5), .ref (ad kd)].toArray below meth c H locs 0 0 Q (F0 m 31 ls []) := by
          intro d31
          induction d31 using Nat.strongRecOn with
          | ind d31 ih2 =>
            intro n y H locs ls hd hl hP hS hinv2
            refine lv_iload_n hx hb mD_Re_comeBack_31 rfl (lv_at hl 0 rfl) ?_
            refine lv_bipush (v := nI 32) hx hb mD_Re_comeBack_32 (by decide) ?_
            refine lv_icmp_ge (tgt := 90) hx hb mD_Re_comeBack_34 rfl (fun hc => ?_) (fun hc => ?_)
            · skip
              have hn : n = 32 := by have := ts_ge (by omega) (by omega) hc; omega
              subst hn
              subst hQ
              exact gw_vret hx hb hr hlocks hP hS (by obtain ⟨g, hg, h1⟩ := hinv2; exact ⟨g, hg, h1⟩) mD_Re_comeBack_90 (Nat.zero_le _) (Nat.zero_le _)
            · skip
              have hn_n : n < 32 := ts_lt (by omega) (by omega) hc
              refine lv_iload_n hx hb mD_Re_comeBack_37 rfl (lv_at hl 0 rfl) ?_
              refine lv_iconst (v := nI 0) hx hb mD_Re_comeBack_38 (by decide) ?_
              refine lv_aload_n hx hb mD_Re_comeBack_39 rfl (lv_at hl 1 rfl) ?_
              refine t_get (C := cN_Re) (T := cF_Re) (N := 4) (ci := 3) hx hb htw wU_Re hown hK hP 5 (by decide) rfl rfl 2 (by decide) rfl ww_85 rfl mD_Re_comeBack_40 ?_
              refine lv_iconst (v := nI 0) hx hb mD_Re_comeBack_43 (by decide) ?_
              refine gc_Si (As := [.int (nI n), .int (nI 0), .ref (ad 104), .int (nI 0)]) (rest := []) hx hb hml hown htw hK hP hS (k_Ri_turned l D ct ad hI y (T := n) (i := 0) (k := 104) (fs := 0) (by omega) (by decide) tr_104 (by decide)) gZ0_ok (fun _ _ _ => trivial) (gA_mono hS.1) ww_534 ww_535 ww_31 wC_Ri_turned mP_Ri_turned (by decide) rfl hl.1 rfl (Nat.le_of_ble_eq_true rfl) mD_Re_comeBack_44 ⟨Nat.le_of_ble_eq_true rfl, Nat.le_of_ble_eq_true rfl⟩ (fun r3 x2 H locs hp2 hP _ _ hS => ?_)
              obtain ⟨hq_, rfl⟩ := hp2
              rw [hq_] at hP
              refine lv_topi (fun v_ hv_ => ?_)
              rw [show y.1 104 = x.1 104 by obtain ⟨g, hg, _⟩ := hinv2; rw [hg, va_up_ne _ _ (by have := hkd.1; unfold tRow at this; omega)], tq_ext, show ((0 : Nat) : Int) - (n : Int) = 0 - (n : Int) by omega] at hv_
              subst hv_
              refine lv_istore_n (lv' := [(3, .int ((tp_ext (fun j => x.1 104 j) (0 - (n : Int))))), (2, .int (nI n)), (0, .ref (ad 5)), (1, .ref (ad kd))]) hx hb mD_Re_comeBack_47 rfl hl (by decide) rfl (fun ls hl => ?_)
              refine lv_iconst (v := nI 0) hx hb mD_Re_comeBack_48 (by decide) ?_
              refine lv_istore (lv' := [(4, .int (nI 0)), (3, .int ((tp_ext (fun j => x.1 104 j) (0 - (n : Int))))), (2, .int (nI n)), (0, .ref (ad 5)), (1, .ref (ad kd))]) hx hb mD_Re_comeBack_49 hl (by decide) rfl (fun ls hl => ?_)
              have loop3 : ∀ (d51 : Nat) (b : Nat) (z : tS) (H : Heap) (locs : List Loc) (ls : Array Slot), b + d51 = 2 → lv_has ls 5 [(4, .int (nI b)), (3, .int ((tp_ext (fun j => x.1 104 j) (0 - (n : Int))))), (2, .int (nI n)), (0, .ref (ad 5)), (1, .ref (ad kd))] → va_P D cL (gw 424 ad (tD ct ad z)) H → va_S (gA 424 ad s.heap.size) s.heap H locs → (∃ g, z.1 = va_up x.1 kd g ∧ tp_place (x.1 3) g = x.1 104 32 - tp_sum n (fun i => tp_sum 2 (fun w => tp_dg w (tp_ext (fun j => x.1 104 j) (0 - (i : Int))) * tp_place (x.1 3) (x.1 (40 + (2 * i + w))))) - tp_sum b (fun w => tp_dg w (tp_ext (fun j => x.1 104 j) (0 - (n : Int))) * tp_place (x.1 3) (x.1 (40 + (2 * n + w))))) → W p l e (rF 1 24) s m [.ref (ad 5), .ref (ad kd)].toArray below meth c H locs 0 0 Q (F0 m 51 ls []) := by
                intro d51
                induction d51 using Nat.strongRecOn with
                | ind d51 ih3 =>
                  intro b z H locs ls hd hl hP hS hinv3
                  refine lv_iload hx hb mD_Re_comeBack_51 (lv_at hl 0 rfl) ?_
                  refine lv_iconst (v := nI 2) hx hb mD_Re_comeBack_53 (by decide) ?_
                  refine lv_icmp_ge (tgt := 84) hx hb mD_Re_comeBack_54 rfl (fun hc => ?_) (fun hc => ?_)
                  · skip
                    have hn : b = 2 := by have := ts_ge (by omega) (by omega) hc; omega
                    subst hn
                    refine lv_iinc (k := 2) (v := nI (n + 1)) (lv' := [(2, .int (nI (n + 1))), (4, .int (nI 2)), (3, .int ((tp_ext (fun j => x.1 104 j) (0 - (n : Int))))), (0, .ref (ad 5)), (1, .ref (ad kd))]) hx hb mD_Re_comeBack_84 hl rfl (by rw [lit1, nI_1]) (by decide) rfl (fun ls hl => ?_)
                    refine lv_goto (tgt := 31) hx hb mD_Re_comeBack_87 rfl ?_
                    exact ih2 (d31 - 1) (by omega) (n + 1) z _ _ _ (by omega) (lv_sub hl [0, 3, 4] rfl) hP hS (by obtain ⟨g, hg, h1⟩ := hinv3; exact ⟨g, hg, by rw [h1, tp_sum_s n]; have ass : ∀ A B C : Int32, A - B - C = A - (B + C) := (by intro A B C; grind); exact ass _ _ _⟩)
                  · skip
                    have hn_b : b < 2 := ts_lt (by omega) (by omega) hc
                    refine lv_iload_n hx hb mD_Re_comeBack_57 rfl (lv_at hl 1 rfl) ?_
                    refine lv_iload hx hb mD_Re_comeBack_58 (lv_at hl 0 rfl) ?_
                    refine gc_Si (As := [.int ((tp_ext (fun j => x.1 104 j) (0 - (n : Int)))), .int (nI b)]) (rest := []) hx hb hml hown htw hK hP hS (k_Di_digit l D ct ad hI z _ (w := b) (by omega)) gZ0_ok (fun _ _ _ => trivial) (gA_mono hS.1) ww_541 ww_542 ww_32 wC_Di_digit mP_Di_digit (by decide) rfl hl.1 rfl (Nat.le_of_ble_eq_true rfl) mD_Re_comeBack_60 ⟨Nat.le_of_ble_eq_true rfl, Nat.le_of_ble_eq_true rfl⟩ (fun r5 x4 H locs hp4 hP _ _ hS => ?_)
                    obtain ⟨hq_, rfl⟩ := hp4
                    rw [hq_] at hP
                    refine lv_aload_n hx hb mD_Re_comeBack_63 rfl (lv_at hl 3 rfl) ?_
                    refine t_get (C := cN_Re) (T := cF_Re) (N := 4) (ci := 3) hx hb htw wU_Re hown hK hP 5 (by decide) rfl rfl 1 (by decide) rfl ww_84 rfl mD_Re_comeBack_64 ?_
                    refine lv_iload_n hx hb mD_Re_comeBack_67 rfl (lv_at hl 2 rfl) ?_
                    refine lv_iconst (v := nI 2) hx hb mD_Re_comeBack_68 (by decide) ?_
                    refine lv_imul hx hb mD_Re_comeBack_69 ?_
                    refine lv_iload hx hb mD_Re_comeBack_70 (lv_at hl 0 rfl) ?_
                    refine lv_iadd hx hb mD_Re_comeBack_72 ?_
                    refine t_alda hx hb hK hP 39 64 (by decide) rfl ((2 * n + b)) (by rw [pk_mul, nI_add]; congr 1; omega) (by omega) (by decide) rfl mD_Re_comeBack_73 ?_
                    refine lv_aload_n hx hb mD_Re_comeBack_74 rfl (lv_at hl 4 rfl) ?_
                    refine gc_Sv (As := [.int (tp_dg b (tp_ext (fun j => x.1 104 j) (0 - (n : Int)))), .ref (ad ((40 + ((2 * n + b))))), .ref (ad kd)]) (rest := []) hx hb hml hown htw hK hP hS (k_Re_subtract l D ct ad hI z _ (kr := (40 + (2 * n + b))) (kd := kd) (show tRow (40 + (2 * n + b)) by unfold tRow; omega) hkd.1 (by have := hkd.2; omega)) gZ0_ok (fun _ _ _ => trivial) (gA_mono hS.1) ww_550 ww_551 ww_26 wC_Re_subtract mP_Re_subtract (by decide) rfl hl.1 rfl (Nat.le_of_ble_eq_true rfl) mD_Re_comeBack_75 ⟨Nat.le_of_ble_eq_true rfl, Nat.le_of_ble_eq_true rfl⟩ (fun x6 H locs hp6 hP _ _ hS => ?_)
                    refine lv_iinc (k := 0) (v := nI (b + 1)) (lv' := [(4, .int (nI (b + 1))), (3, .int ((tp_ext (fun j => x.1 104 j) (0 - (n : Int))))), (2, .int (nI n)), (0, .ref (ad 5)), (1, .ref (ad kd))]) hx hb mD_Re_comeBack_78 hl rfl (by rw [lit1, nI_1]) (by decide) rfl (fun ls hl => ?_)
                    refine lv_goto (tgt := 51) hx hb mD_Re_comeBack_81 rfl ?_
                    exact ih3 (d51 - 1) (by omega) (b + 1) x6 _ _ _ (by omega) (lv_sub hl [0, 1, 2, 3, 4] rfl) hP hS (by obtain ⟨g, hg, h1⟩ := hinv3; obtain ⟨g1, e1, h2⟩ := hp6; have ed : z.1 kd = g := (by rw [hg, va_up_self]); have er : z.1 (40 + (2 * n + b)) = x.1 (40 + (2 * n + b)) := (by rw [hg, va_up_ne _ _ (by have := hkd.2; omega)]); rw [ed, er] at h2; exact ⟨g1, by rw [e1, hg, bx_uu], by rw [tr_sub h2, h1, tp_sum_s b]; have ass : ∀ A B C D : Int32, A - B - C - D = A - B - (C + D) := (by intro A B C D; grind); exact ass _ _ _ _⟩)
              exact loop3 2 0 y _ _ _ (by omega) hl hP hS (by obtain ⟨g, hg, h1⟩ := hinv2; exact ⟨g, hg, by rw [h1, tp_sum_0 (fun w => tp_dg w (tp_ext (fun j => x.1 104 j) (0 - (n : Int))) * tp_place (x.1 3) (x.1 (40 + (2 * n + w))))]; have ass : ∀ A B : Int32, A - B = A - B - 0 := (by intro A B; grind); exact ass _ _⟩)
        exact loop2 32 0 x1 _ _ _ (by omega) hl hP hS (by obtain ⟨g, hg, h1⟩ := hinv; have e4 : y.1 104 = x.1 104 := (by rw [hg, va_up_ne _ _ (by have := hkd.1; unfold tRow at this; omega)]); exact ⟨upd g 8 (x.1 104 32), by rw [hx1, tU_f, hg, bx_uu, va_up_self, ← hg, e4], by rw [tr_zero (fun i hi => by rw [pk_un (by omega)]; exact h1 i hi), pk_us, tp_sum_0]; grind⟩)
      · skip
        have hn_n : n < 8 := ts_lt (by omega) (by omega) hc
        refine lv_aload_n hx hb mD_Re_comeBack_8 rfl (lv_at hl 2 rfl) ?_
        refine lv_iload_n hx hb mD_Re_comeBack_9 rfl (lv_at hl 0 rfl) ?_
        refine lv_iconst (v := nI 0) hx hb mD_Re_comeBack_10 (by decide) ?_
        refine t_iast hx hb hK hI hA hP hS kd 9 (tRow_lt hkd.1) (fun _ => tE_row hkd.1) n rfl (by omega) (by decide) mD_Re_comeBack_11 (fun H locs hP hS => ?_)
        obtain ⟨x8, hx8⟩ : ∃ z, z = tU y kd (upd (y.1 kd) n (nI 0)) := ⟨_, rfl⟩
        rw [← hx8] at hP
        refine lv_iinc (k := 0) (v := nI (n + 1)) (lv' := [(2, .int (nI (n + 1))), (0, .ref (ad 5)), (1, .ref (ad kd))]) hx hb mD_Re_comeBack_12 hl rfl (by rw [lit1, nI_1]) (by decide) rfl (fun ls hl => ?_)
        refine lv_goto (tgt := 2) hx hb mD_Re_comeBack_15 rfl ?_
        exact ih (d2 - 1) (by omega) (n + 1) x8 _ _ _ (by omega) (lv_sub hl [0, 1, 2] rfl) hP hS (by obtain ⟨g, hg, h1⟩ := hinv; exact ⟨upd g n 0, by rw [hx8, tU_f, hg, bx_uu, va_up_self]; rfl, fun i hi => by by_cases q : i = n; rw [q, pk_us]; rw [pk_un q]; exact h1 i (by omega)⟩)
  exact loop 8 0 x _ _ _ (by omega) hl hP hS ⟨x.1 kd, va_up_same.symm, fun _ h => absurd h (Nat.not_lt_zero _)⟩
