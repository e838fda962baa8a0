/-! Refresher.renew: the rows that hide the key. Laid by wip/whole/part_renew.py. -/
def th_step (v : Nat → Nat → Int32) (i h w : Nat) : Prop := tp_help (v 4) (v 3 i * tp_W w) h (fun j => v (7 + (4 * i + 2 * h + w)) j) (fun j => v (7 + (4 * i + 2 * h + w)) (32 + j))
def th_way (v : Nat → Nat → Int32) (i w : Nat) : Prop := tp_sm 4 (tp_place (v 3) (v (40 + (2 * i + w))) - v 4 i * tp_W w)
theorem th_step_eq {v v' : Nat → Nat → Int32} {i h w : Nat} (H : th_step v i h w) (h3 : v' 3 = v 3) (h4 : v' 4 = v 4) (hk : v' (7 + (4 * i + 2 * h + w)) = v (7 + (4 * i + 2 * h + w))) : th_step v' i h w := by
  unfold th_step at *
  rw [h3, h4, hk]
  exact H
theorem th_way_eq {v v' : Nat → Nat → Int32} {i w : Nat} (H : th_way v i w) (h3 : v' 3 = v 3) (h4 : v' 4 = v 4) (hk : v' (40 + (2 * i + w)) = v (40 + (2 * i + w))) : th_way v' i w := by
  unfold th_way at *
  rw [h3, h4, hk]
  exact H
theorem th_ext0 (k : Int) : tp_ext (fun _ => (0 : Int32)) k = 0 := by
  unfold tp_ext
  by_cases h1 : k % 64 < 32
  · rw [if_pos h1]
  · rw [if_neg h1]; show -(0 : Int32) = 0; decide
theorem th_one0 (s : Nat → Int32) (k : Int) : tp_ph s tp_one (fun _ => 0) k = tp_unit s 0 k := by
  unfold tp_ph tp_unit
  rw [if_pos rfl, th_ext0]
  grind
theorem th_one1 (s : Nat → Int32) (k : Int) : tp_ph s (fun _ => 0) tp_one k = tp_unit s 1 k := by
  unfold tp_ph tp_unit
  rw [if_neg (by decide), tp_sum_congr (g := fun _ => 0) (fun i _ => by rw [th_ext0]; grind), tp_sum_zero]
  grind
theorem th_add {s g : Nat → Int32} {a : Nat} (ha : a < 2) {v : Int32} (h : ∀ j : Int, tp_sm 4 (tp_ph s (fun i => g i) (fun i => g (32 + i)) j)) : tp_help s v a (fun i => upd g (a * 32) (g (a * 32) + v) i) (fun i => upd g (a * 32) (g (a * 32) + v) (32 + i)) := by
  intro k
  rcases (show a = 0 ∨ a = 1 by omega) with rfl | rfl
  · rw [tp_ph_add (a := fun i => g i) (b := fun i => g (32 + i)) (sa := tp_one) (sb := fun _ => 0) (c := v) (t := 0) (fun i hi => ?_) (fun i hi => ?_) k, Int.sub_zero, th_one0]
    · have e : ∀ A B : Int32, A + B - B = A := by intro A B; grind
      rw [e]
      exact h k
    · show upd g (0 * 32) _ i = _
      rw [Int.sub_zero, tp_ext_lt hi, Nat.zero_mul]
      by_cases q : i = 0
      · subst q; rw [pk_us]; show _ = g 0 + v * 1; grind
      · rw [pk_un q]; unfold tp_one; rw [if_neg q]; grind
    · show upd g (0 * 32) _ (32 + i) = _
      rw [th_ext0, pk_un (by omega)]
      grind
  · rw [tp_ph_add (a := fun i => g i) (b := fun i => g (32 + i)) (sa := fun _ => 0) (sb := tp_one) (c := v) (t := 0) (fun i hi => ?_) (fun i hi => ?_) k, Int.sub_zero, th_one1]
    · have e : ∀ A B : Int32, A + B - B = A := by intro A B; grind
      rw [e]
      exact h k
    · show upd g (1 * 32) _ i = _
      rw [th_ext0, pk_un (by omega)]
      grind
    · show upd g (1 * 32) _ (32 + i) = _
      rw [Int.sub_zero, tp_ext_lt hi]
      by_cases q : i = 0
      · subst q; rw [pk_us]; show _ = g (32 + 0) + v * 1; grind
      · rw [pk_un (by omega)]; unfold tp_one; rw [if_neg q]; grind

set_option maxHeartbeats 4000000 in
set_option maxRecDepth 100000 in
theorem k_Re_renewStep (l : Launch) (D : va_G) (ct : Nat → ClassId) (ad : Nat → Nat) (hI : gw_inj 424 ad) (x : tS) {i : Nat} (hi : i < 8) : gMv l mY_Re_renewStep mB_Re_renewStep 7 none (rF 3 66) D (tT ct) gZ0 424 ad (tD ct ad) [.ref (ad 5), .int (nI i), .ref (ad 2), .ref (ad 1)] x (fun x' => (∀ k, (k < 7 + 4 * i ∨ 11 + 4 * i ≤ k) → x'.1 k = x.1 k) ∧ ∀ h w, h < 2 → w < 2 → th_step x'.1 i h w) := by
  refine gMv_enter (by decide) (Nat.le_of_ble_eq_true rfl) ?_
  intro p e s m below meth c ls hx hb hr htw hown hlocks hml hl hP hK hZ hS
  have hA : ∀ k, k < 424 → gA 424 ad s.heap.size (ad k) := fun _ h => gA_in h
  have hl : lv_has ls 7 [(0, .ref (ad 5)), (1, .int (nI i)), (2, .ref (ad 2)), (3, .ref (ad 1))] := hl
  refine gw_nmQ (fun Q hQ => ?_)
  refine lv_iconst (v := nI 0) hx hb mD_Re_renewStep_0 (by decide) ?_
  refine lv_istore (lv' := [(4, .int (nI 0)), (0, .ref (ad 5)), (1, .int (nI i)), (2, .ref (ad 2)), (3, .ref (ad 1))]) hx hb mD_Re_renewStep_1 hl (by decide) rfl (fun ls hl => ?_)
  have loop : ∀ (d3 : Nat) (a : Nat) (y : tS) (H : Heap) (locs : List Loc) (ls : Array Slot), a + d3 = 2 → lv_has ls 7 [(4, .int (nI a)), (0, .ref (ad 5)), (1, .int (nI i)), (2, .ref (ad 2)), (3, .ref (ad 1))] → va_P D cL (gw 424 ad (tD ct ad y)) H → va_S (gA 424 ad s.heap.size) s.heap H locs → ((∀ k, (k < 7 + 4 * i ∨ 11 + 4 * i ≤ k) → y.1 k = x.1 k) ∧ ∀ h w, h < a → w < 2 → th_step y.1 i h w) → W p l e (rF 3 66) s m [.ref (ad 5), .int (nI i), .ref (ad 2), .ref (ad 1)].toArray below meth c H locs 0 0 Q (F0 m 3 ls []) := by
    intro d3
    induction d3 using Nat.strongRecOn with
    | ind d3 ih =>
      intro a y H locs ls hd hl hP hS hinv
      refine lv_iload hx hb mD_Re_renewStep_3 (lv_at hl 0 rfl) ?_
      refine lv_iconst (v := nI 2) hx hb mD_Re_renewStep_5 (by decide) ?_
      refine lv_icmp_ge (tgt := 78) hx hb mD_Re_renewStep_6 rfl (fun hc => ?_) (fun hc => ?_)
      · skip
        have hn : a = 2 := by have := ts_ge (by omega) (by omega) hc; omega
        subst hn
        subst hQ
        exact gw_vret hx hb hr hlocks hP hS (hinv) mD_Re_renewStep_78 (Nat.zero_le _) (Nat.zero_le _)
      · skip
        have hn_a : a < 2 := ts_lt (by omega) (by omega) hc
        refine lv_iconst (v := nI 0) hx hb mD_Re_renewStep_9 (by decide) ?_
        refine lv_istore (lv' := [(5, .int (nI 0)), (4, .int (nI a)), (0, .ref (ad 5)), (1, .int (nI i)), (2, .ref (ad 2)), (3, .ref (ad 1))]) hx hb mD_Re_renewStep_10 hl (by decide) rfl (fun ls hl => ?_)
        have loop2 : ∀ (d12 : Nat) (b : Nat) (z : tS) (H : Heap) (locs : List Loc) (ls : Array Slot), b + d12 = 2 → lv_has ls 7 [(5, .int (nI b)), (4, .int (nI a)), (0, .ref (ad 5)), (1, .int (nI i)), (2, .ref (ad 2)), (3, .ref (ad 1))] → va_P D cL (gw 424 ad (tD ct ad z)) H → va_S (gA 424 ad s.heap.size) s.heap H locs → ((∀ k, (k < 7 + 4 * i ∨ 11 + 4 * i ≤ k) → z.1 k = x.1 k) ∧ (∀ h w, h < a → w < 2 → th_step z.1 i h w) ∧ ∀ w, w < b → th_step z.1 i a w) → W p l e (rF 3 66) s m [.ref (ad 5), .int (nI i), .ref (ad 2), .ref (ad 1)].toArray below meth c H locs 0 0 Q (F0 m 12 ls []) := by
          intro d12
          induction d12 using Nat.strongRecOn with
          | ind d12 ih2 =>
            intro b z H locs ls hd hl hP hS hinv2
            refine lv_iload hx hb mD_Re_renewStep_12 (lv_at hl 0 rfl) ?_
            refine lv_iconst (v := nI 2) hx hb mD_Re_renewStep_14 (by decide) ?_
            refine lv_icmp_ge (tgt := 72) hx hb mD_Re_renewStep_15 rfl (fun hc => ?_) (fun hc => ?_)
            · skip
              have hn : b = 2 := by have := ts_ge (by omega) (by omega) hc; omega
              subst hn
              refine lv_iinc (k := 1) (v := nI (a + 1)) (lv' := [(4, .int (nI (a + 1))), (5, .int (nI 2)), (0, .ref (ad 5)), (1, .int (nI i)), (2, .ref (ad 2)), (3, .ref (ad 1))]) hx hb mD_Re_renewStep_72 hl rfl (by rw [lit1, nI_1]) (by decide) rfl (fun ls hl => ?_)
              refine lv_goto (tgt := 3) hx hb mD_Re_renewStep_75 rfl ?_
              exact ih (d3 - 1) (by omega) (a + 1) z _ _ _ (by omega) (lv_sub hl [0, 2, 3, 4, 5] rfl) hP hS ⟨hinv2.1, fun h w h1 h2 => by by_cases q : h = a; rw [q]; exact hinv2.2.2 w h2; exact hinv2.2.1 h w (by omega) h2⟩
            · skip
              have hn_b : b < 2 := ts_lt (by omega) (by omega) hc
              refine lv_aload_n hx hb mD_Re_renewStep_18 rfl (lv_at hl 2 rfl) ?_
              refine t_get (C := cN_Re) (T := cF_Re) (N := 4) (ci := 3) hx hb htw wU_Re hown hK hP 5 (by decide) rfl rfl 0 (by decide) rfl ww_83 rfl mD_Re_renewStep_19 ?_
              refine lv_iload_n hx hb mD_Re_renewStep_22 rfl (lv_at hl 3 rfl) ?_
              refine lv_iconst (v := nI 4) hx hb mD_Re_renewStep_23 (by decide) ?_
              refine lv_imul hx hb mD_Re_renewStep_24 ?_
              refine lv_iload hx hb mD_Re_renewStep_25 (lv_at hl 1 rfl) ?_
              refine lv_iconst (v := nI 2) hx hb mD_Re_renewStep_27 (by decide) ?_
              refine lv_imul hx hb mD_Re_renewStep_28 ?_
              refine lv_iadd hx hb mD_Re_renewStep_29 ?_
              refine lv_iload hx hb mD_Re_renewStep_30 (lv_at hl 0 rfl) ?_
              refine lv_iadd hx hb mD_Re_renewStep_32 ?_
              refine t_alda hx hb hK hP 6 32 (by decide) rfl ((4 * i + 2 * a + b)) (by rw [pk_mul, pk_mul, nI_add, nI_add]; congr 1; omega) (by omega) (by decide) rfl mD_Re_renewStep_33 ?_
              refine lv_astore (lv' := [(6, .ref (ad ((7 + ((4 * i + 2 * a + b)))))), (5, .int (nI b)), (4, .int (nI a)), (0, .ref (ad 5)), (1, .int (nI i)), (2, .ref (ad 2)), (3, .ref (ad 1))]) hx hb mD_Re_renewStep_34 hl (by decide) rfl (fun ls hl => ?_)
              refine lv_aload_n hx hb mD_Re_renewStep_36 rfl (lv_at hl 5 rfl) ?_
              refine lv_aload hx hb mD_Re_renewStep_37 (lv_at hl 0 rfl) ?_
              refine lv_aload_n hx hb mD_Re_renewStep_39 rfl (lv_at hl 6 rfl) ?_
              refine gc_Vv (As := [.ref (ad ((7 + ((4 * i + 2 * a + b))))), .ref (ad 1)]) (rest := []) hx hb hml hown htw hK hP hS 2 (k_Se_hideNothing l D ct ad hI z (k := (7 + (4 * i + 2 * a + b))) (show tPair (7 + (4 * i + 2 * a + b)) by unfold tPair; omega)) gZ0_ok (fun _ _ _ => trivial) (gA_mono hS.1) (by decide) rfl rfl ww_203 ww_204 ww_205 ww_25 wC_Se_hideNothing mP_Se_hideNothing (by decide) rfl hl.1 rfl (Nat.le_of_ble_eq_true rfl) mD_Re_renewStep_40 ⟨Nat.le_of_ble_eq_true rfl, Nat.le_of_ble_eq_true rfl⟩ (fun x1 H locs hp1 hP _ _ hS => ?_)
              refine lv_aload hx hb mD_Re_renewStep_43 (lv_at hl 0 rfl) ?_
              refine lv_iload hx hb mD_Re_renewStep_45 (lv_at hl 2 rfl) ?_
              refine lv_bipush (v := nI 32) hx hb mD_Re_renewStep_47 (by decide) ?_
              refine lv_imul hx hb mD_Re_renewStep_49 ?_
              refine lv_dup2_11 hx hb mD_Re_renewStep_50 rfl rfl ?_
              refine t_iald hx hb hK hP ((7 + ((4 * i + 2 * a + b)))) 64 (tPair_lt (show tPair (7 + ((4 * i + 2 * a + b))) by unfold tPair; omega)) (tE_pair (show tPair (7 + ((4 * i + 2 * a + b))) by unfold tPair; omega)) ((a * 32)) (pk_mul _ _) (by omega) (by decide) mD_Re_renewStep_51 ?_
              refine lv_aload_n hx hb mD_Re_renewStep_52 rfl (lv_at hl 5 rfl) ?_
              refine t_get (C := cN_Se) (T := cF_Se) (N := 2) (ci := 4) hx hb htw wU_Se hown hK hP 2 (by decide) rfl rfl 0 (by decide) rfl ww_66 rfl mD_Re_renewStep_53 ?_
              refine lv_iload_n hx hb mD_Re_renewStep_56 rfl (lv_at hl 4 rfl) ?_
              refine t_iald hx hb hK hP 3 8 (by decide) rfl i rfl (by omega) (by decide) mD_Re_renewStep_57 ?_
              refine lv_iload hx hb mD_Re_renewStep_58 (lv_at hl 1 rfl) ?_
              refine gc_Si (As := [.int (nI b)]) (rest := [.int (x1.1 3 i), .int (x1.1 ((7 + ((4 * i + 2 * a + b)))) ((a * 32))), .int ((nI a) * (nI 32)), .ref (ad ((7 + ((4 * i + 2 * a + b)))))]) hx hb hml hown htw hK hP hS (k_Di_weight l D ct ad hI x1 (w := b) (by omega)) gZ0_ok (fun _ _ _ => trivial) (gA_mono hS.1) ww_215 ww_216 ww_32 wC_Di_weight mP_Di_weight (by decide) rfl hl.1 rfl (Nat.le_of_ble_eq_true rfl) mD_Re_renewStep_60 ⟨Nat.le_of_ble_eq_true rfl, Nat.le_of_ble_eq_true rfl⟩ (fun r4 x3 H locs hp3 hP _ _ hS => ?_)
              obtain ⟨hq_, rfl⟩ := hp3
              rw [hq_] at hP
              refine lv_imul hx hb mD_Re_renewStep_63 ?_
              refine lv_iadd hx hb mD_Re_renewStep_64 ?_
              refine t_iast hx hb hK hI hA hP hS ((7 + ((4 * i + 2 * a + b)))) 64 (tPair_lt (show tPair (7 + ((4 * i + 2 * a + b))) by unfold tPair; omega)) (fun _ => tE_pair (show tPair (7 + ((4 * i + 2 * a + b))) by unfold tPair; omega)) ((a * 32)) (pk_mul _ _) (by omega) (by decide) mD_Re_renewStep_65 (fun H locs hP hS => ?_)
              obtain ⟨x5, hx5⟩ : ∃ z, z = tU x1 ((7 + ((4 * i + 2 * a + b)))) (upd (x1.1 ((7 + ((4 * i + 2 * a + b))))) ((a * 32)) ((x1.1 ((7 + ((4 * i + 2 * a + b)))) ((a * 32))) + ((x1.1 3 i) * (tp_W b)))) := ⟨_, rfl⟩
              rw [← hx5] at hP
              refine lv_iinc (k := 1) (v := nI (b + 1)) (lv' := [(5, .int (nI (b + 1))), (6, .ref (ad ((7 + ((4 * i + 2 * a + b)))))), (4, .int (nI a)), (0, .ref (ad 5)), (1, .int (nI i)), (2, .ref (ad 2)), (3, .ref (ad 1))]) hx hb mD_Re_renewStep_66 hl rfl (by rw [lit1, nI_1]) (by decide) rfl (fun ls hl => ?_)
              refine lv_goto (tgt := 12) hx hb mD_Re_renewStep_69 rfl ?_
              exact ih2 (d12 - 1) (by omega) (b + 1) x5 _ _ _ (by omega) (lv_sub hl [0, 2, 3, 4, 5, 6] rfl) hP hS (by obtain ⟨g, eg, hg⟩ := hp1; have ef : x5.1 = va_up z.1 (7 + (4 * i + 2 * a + b)) (upd g (a * 32) (g (a * 32) + z.1 3 i * tp_W b)) := (by rw [hx5, tU_f, eg, bx_uu, va_up_self, va_up_ne _ _ (show (3 : Nat) ≠ (7 + (4 * i + 2 * a + b)) by omega)]); have e3 : x5.1 3 = z.1 3 := (by rw [ef, va_up_ne _ _ (by omega)]); have e4 : x5.1 4 = z.1 4 := (by rw [ef, va_up_ne _ _ (by omega)]); exact ⟨fun k hk => by rw [ef, va_up_ne _ _ (by omega)]; exact hinv2.1 k hk, fun h w h1 h2 => th_step_eq (hinv2.2.1 h w h1 h2) e3 e4 (by rw [ef, va_up_ne _ _ (by omega)]), fun w h1 => by by_cases q : w = b; subst q; unfold th_step; rw [e3, e4, ef, va_up_self]; exact th_add (by omega) hg; exact th_step_eq (hinv2.2.2 w (by omega)) e3 e4 (by rw [ef, va_up_ne _ _ (by omega)])⟩)
        exact loop2 2 0 y _ _ _ (by omega) hl hP hS ⟨hinv.1, hinv.2, fun _ h => absurd h (Nat.not_lt_zero _)⟩
  exact loop 2 0 x _ _ _ (by omega) hl hP hS ⟨fun _ _ => rfl, fun _ _ h => absurd h (Nat.not_lt_zero _)⟩

set_option maxHeartbeats 4000000 in
set_option maxRecDepth 100000 in
theorem k_Re_renew (l : Launch) (D : va_G) (ct : Nat → ClassId) (ad : Nat → Nat) (hI : gw_inj 424 ad) (x : tS)  : gMv l mY_Re_renew mB_Re_renew 6 none (rF 4 92) D (tT ct) gZ0 424 ad (tD ct ad) [.ref (ad 5), .ref (ad 2), .ref (ad 1)] x (fun x' => (∀ k, (k < 7 ∨ 104 ≤ k) → x'.1 k = x.1 k) ∧ (∀ i h w, i < 8 → h < 2 → w < 2 → th_step x'.1 i h w) ∧ ∀ i w, i < 32 → w < 2 → th_way x'.1 i w) := by
  refine gMv_enter (by decide) (Nat.le_of_ble_eq_true rfl) ?_
  intro p e s m below meth c ls hx hb hr htw hown hlocks hml hl hP hK hZ hS
  have hA : ∀ k, k < 424 → gA 424 ad s.heap.size (ad k) := fun _ h => gA_in h
  have hl : lv_has ls 6 [(0, .ref (ad 5)), (1, .ref (ad 2)), (2, .ref (ad 1))] := hl
  refine gw_nmQ (fun Q hQ => ?_)
  refine lv_iconst (v := nI 0) hx hb mD_Re_renew_0 (by decide) ?_
  refine lv_istore_n (lv' := [(3, .int (nI 0)), (0, .ref (ad 5)), (1, .ref (ad 2)), (2, .ref (ad 1))]) hx hb mD_Re_renew_1 rfl hl (by decide) rfl (fun ls hl => ?_)
  have loop : ∀ (d2 : Nat) (n : Nat) (y : tS) (H : Heap) (locs : List Loc) (ls : Array Slot), n + d2 = 8 → lv_has ls 6 [(3, .int (nI n)), (0, .ref (ad 5)), (1, .ref (ad 2)), (2, .ref (ad 1))] → va_P D cL (gw 424 ad (tD ct ad y)) H → va_S (gA 424 ad s.heap.size) s.heap H locs → ((∀ k, (k < 7 ∨ 104 ≤ k) → y.1 k = x.1 k) ∧ ∀ i h w, i < n → h < 2 → w < 2 → th_step y.1 i h w) → W p l e (rF 4 92) s m [.ref (ad 5), .ref (ad 2), .ref (ad 1)].toArray below meth c H locs 0 0 Q (F0 m 2 ls []) := by
    intro d2
    induction d2 using Nat.strongRecOn with
    | ind d2 ih =>
      intro n y H locs ls hd hl hP hS hinv
      refine lv_iload_n hx hb mD_Re_renew_2 rfl (lv_at hl 0 rfl) ?_
      refine lv_bipush (v := nI 8) hx hb mD_Re_renew_3 (by decide) ?_
      refine lv_icmp_ge (tgt := 21) hx hb mD_Re_renew_5 rfl (fun hc => ?_) (fun hc => ?_)
      · skip
        have hn : n = 8 := by have := ts_ge (by omega) (by omega) hc; omega
        subst hn
        refine lv_iconst (v := nI 0) hx hb mD_Re_renew_21 (by decide) ?_
        refine lv_istore_n (lv' := [(3, .int (nI 0)), (0, .ref (ad 5)), (1, .ref (ad 2)), (2, .ref (ad 1))]) hx hb mD_Re_renew_22 rfl hl (by decide) rfl (fun ls hl => ?_)
        have loop2 : ∀ (d23 : Nat) (n : Nat) (y : tS) (H : Heap) (locs : List Loc) (ls : Array Slot), n + d23 = 32 → lv_has ls 6 [(3, .int (nI n)), (0, .ref (ad 5)), (1, .ref (ad 2)), (2, .ref (ad 1))] → va_P D cL (gw 424 ad (tD ct ad y)) H → va_S (gA 424 ad s.heap.size) s.heap H locs → ((∀ k, (k < 7 ∨ 104 ≤ k) → y.1 k = x.1 k) ∧ (∀ i h w, i < 8 → h < 2 → w < 2 → th_step y.1 i h w) ∧ ∀ i w, i < n → w < 2 → th_way y.1 i w) → W p l e (rF 4 92) s m [.ref (ad 5), .ref (ad 2), .ref (ad 1)].toArray below meth c H locs 0 0 Q (F0 m 23 ls []) := by
          intro d23
          induction d23 using Nat.strongRecOn with
          | ind d23 ih2 =>
            intro n y H locs ls hd hl hP hS hinv2
            refine lv_iload_n hx hb mD_Re_renew_23 rfl (lv_at hl 0 rfl) ?_
            refine lv_bipush (v := nI 32) hx hb mD_Re_renew_24 (by decide) ?_
            refine lv_icmp_ge (tgt := 83) hx hb mD_Re_renew_26 rfl (fun hc => ?_) (fun hc => ?_)
            · skip
              have hn : n = 32 := by have := ts_ge (by omega) (by omega) hc; omega
              subst hn
              subst hQ
              exact gw_vret hx hb hr hlocks hP hS (hinv2) mD_Re_renew_83 (Nat.zero_le _) (Nat.zero_le _)
            · skip
              have hn_n : n < 32 := ts_lt (by omega) (by omega) hc
              refine lv_iconst (v := nI 0) hx hb mD_Re_renew_29 (by decide) ?_
              refine lv_istore (lv' := [(4, .int (nI 0)), (3, .int (nI n)), (0, .ref (ad 5)), (1, .ref (ad 2)), (2, .ref (ad 1))]) hx hb mD_Re_renew_30 hl (by decide) rfl (fun ls hl => ?_)
              have loop3 : ∀ (d32 : Nat) (b : Nat) (z : tS) (H : Heap) (locs : List Loc) (ls : Array Slot), b + d32 = 2 → lv_has ls 6 [(4, .int (nI b)), (3, .int (nI n)), (0, .ref (ad 5)), (1, .ref (ad 2)), (2, .ref (ad 1))] → va_P D cL (gw 424 ad (tD ct ad z)) H → va_S (gA 424 ad s.heap.size) s.heap H locs → ((∀ k, (k < 7 ∨ 104 ≤ k) → z.1 k = x.1 k) ∧ (∀ i h w, i < 8 → h < 2 → w < 2 → th_step z.1 i h w) ∧ (∀ i w, i < n → w < 2 → th_way z.1 i w) ∧ ∀ w, w < b → th_way z.1 n w) → W p l e (rF 4 92) s m [.ref (ad 5), .ref (ad 2), .ref (ad 1)].toArray below meth c H locs 0 0 Q (F0 m 32 ls []) := by
                intro d32
                induction d32 using Nat.strongRecOn with
                | ind d32 ih3 =>
                  intro b z H locs ls hd hl hP hS hinv3
                  refine lv_iload hx hb mD_Re_renew_32 (lv_at hl 0 rfl) ?_
                  refine lv_iconst (v := nI 2) hx hb mD_Re_renew_34 (by decide) ?_
                  refine lv_icmp_ge (tgt := 77) hx hb mD_Re_renew_35 rfl (fun hc => ?_) (fun hc => ?_)
                  · skip
                    have hn : b = 2 := by have := ts_ge (by omega) (by omega) hc; omega
                    subst hn
                    refine lv_iinc (k := 1) (v := nI (n + 1)) (lv' := [(3, .int (nI (n + 1))), (4, .int (nI 2)), (0, .ref (ad 5)), (1, .ref (ad 2)), (2, .ref (ad 1))]) hx hb mD_Re_renew_77 hl rfl (by rw [lit1, nI_1]) (by decide) rfl (fun ls hl => ?_)
                    refine lv_goto (tgt := 23) hx hb mD_Re_renew_80 rfl ?_
                    exact ih2 (d23 - 1) (by omega) (n + 1) z _ _ _ (by omega) (lv_sub hl [0, 2, 3, 4] rfl) hP hS ⟨hinv3.1, hinv3.2.1, fun i w h1 h2 => by by_cases q : i = n; rw [q]; exact hinv3.2.2.2 w h2; exact hinv3.2.2.1 i w (by omega) h2⟩
                  · skip
                    have hn_b : b < 2 := ts_lt (by omega) (by omega) hc
                    refine lv_aload_n hx hb mD_Re_renew_38 rfl (lv_at hl 3 rfl) ?_
                    refine t_get (C := cN_Se) (T := cF_Se) (N := 2) (ci := 4) hx hb htw wU_Se hown hK hP 2 (by decide) rfl rfl 1 (by decide) rfl ww_68 rfl mD_Re_renew_39 ?_
                    refine lv_iload_n hx hb mD_Re_renew_42 rfl (lv_at hl 1 rfl) ?_
                    refine t_iald hx hb hK hP 4 32 (by decide) rfl n rfl (by omega) (by decide) mD_Re_renew_43 ?_
                    refine lv_iload hx hb mD_Re_renew_44 (lv_at hl 0 rfl) ?_
                    refine gc_Si (As := [.int (nI b)]) (rest := [.int (z.1 4 n)]) hx hb hml hown htw hK hP hS (k_Di_weight l D ct ad hI z (w := b) (by omega)) gZ0_ok (fun _ _ _ => trivial) (gA_mono hS.1) ww_215 ww_216 ww_32 wC_Di_weight mP_Di_weight (by decide) rfl hl.1 rfl (Nat.le_of_ble_eq_true rfl) mD_Re_renew_46 ⟨Nat.le_of_ble_eq_true rfl, Nat.le_of_ble_eq_true rfl⟩ (fun r2 x1 H locs hp1 hP _ _ hS => ?_)
                    obtain ⟨hq_, rfl⟩ := hp1
                    rw [hq_] at hP
                    refine lv_imul hx hb mD_Re_renew_49 ?_
                    refine lv_istore (lv' := [(5, .int ((z.1 4 n) * (tp_W b))), (4, .int (nI b)), (3, .int (nI n)), (0, .ref (ad 5)), (1, .ref (ad 2)), (2, .ref (ad 1))]) hx hb mD_Re_renew_50 hl (by decide) rfl (fun ls hl => ?_)
                    refine lv_aload_n hx hb mD_Re_renew_52 rfl (lv_at hl 4 rfl) ?_
                    refine lv_iload hx hb mD_Re_renew_53 (lv_at hl 0 rfl) ?_
                    refine lv_aload_n hx hb mD_Re_renew_55 rfl (lv_at hl 3 rfl) ?_
                    refine t_get (C := cN_Re) (T := cF_Re) (N := 4) (ci := 3) hx hb htw wU_Re hown hK hP 5 (by decide) rfl rfl 1 (by decide) rfl ww_84 rfl mD_Re_renew_56 ?_
                    refine lv_iload_n hx hb mD_Re_renew_59 rfl (lv_at hl 2 rfl) ?_
                    refine lv_iconst (v := nI 2) hx hb mD_Re_renew_60 (by decide) ?_
                    refine lv_imul hx hb mD_Re_renew_61 ?_
                    refine lv_iload hx hb mD_Re_renew_62 (lv_at hl 1 rfl) ?_
                    refine lv_iadd hx hb mD_Re_renew_64 ?_
                    refine t_alda hx hb hK hP 39 64 (by decide) rfl ((2 * n + b)) (by rw [pk_mul, nI_add]; congr 1; omega) (by omega) (by decide) rfl mD_Re_renew_65 ?_
                    refine lv_iconst (v := nI 3) hx hb mD_Re_renew_66 (by decide) ?_
                    refine lv_aload_n hx hb mD_Re_renew_67 rfl (lv_at hl 5 rfl) ?_
                    refine gc_Vv (As := [.int ((z.1 4 n) * (tp_W b)), .ref (ad ((40 + ((2 * n + b))))), .int (nI 3), .ref (ad 1)]) (rest := []) hx hb hml hown htw hK hP hS 2 (k_Se_hide3 l D ct ad hI z _ (k := (40 + (2 * n + b))) (show tRow (40 + (2 * n + b)) by unfold tRow; omega)) gZ0_ok (fun _ _ _ => trivial) (gA_mono hS.1) (by decide) rfl rfl ww_218 ww_219 ww_220 ww_25 wC_Se_hide mP_Se_hide (by decide) rfl hl.1 rfl (Nat.le_of_ble_eq_true rfl) mD_Re_renew_68 ⟨Nat.le_of_ble_eq_true rfl, Nat.le_of_ble_eq_true rfl⟩ (fun x3 H locs hp3 hP _ _ hS => ?_)
                    refine lv_iinc (k := 1) (v := nI (b + 1)) (lv' := [(4, .int (nI (b + 1))), (5, .int ((z.1 4 n) * (tp_W b))), (3, .int (nI n)), (0, .ref (ad 5)), (1, .ref (ad 2)), (2, .ref (ad 1))]) hx hb mD_Re_renew_71 hl rfl (by rw [lit1, nI_1]) (by decide) rfl (fun ls hl => ?_)
                    refine lv_goto (tgt := 32) hx hb mD_Re_renew_74 rfl ?_
                    exact ih3 (d32 - 1) (by omega) (b + 1) x3 _ _ _ (by omega) (lv_sub hl [0, 2, 3, 4, 5] rfl) hP hS (by obtain ⟨g, eg, hg⟩ := hp3; have e3 : x3.1 3 = z.1 3 := (by rw [eg, va_up_ne _ _ (by omega)]); have e4 : x3.1 4 = z.1 4 := (by rw [eg, va_up_ne _ _ (by omega)]); exact ⟨fun k hk => by rw [eg, va_up_ne _ _ (by omega)]; exact hinv3.1 k hk, fun i h w h1 h2 h3 => th_step_eq (hinv3.2.1 i h w h1 h2 h3) e3 e4 (by rw [eg, va_up_ne _ _ (by omega)]), fun i w h1 h2 => th_way_eq (hinv3.2.2.1 i w h1 h2) e3 e4 (by rw [eg, va_up_ne _ _ (by omega)]), fun w h1 => by by_cases q : w = b; subst q; unfold th_way; rw [e3, e4, eg, va_up_self]; exact hg; exact th_way_eq (hinv3.2.2.2 w (by omega)) e3 e4 (by rw [eg, va_up_ne _ _ (by omega)])⟩)
              exact loop3 2 0 y _ _ _ (by omega) hl hP hS ⟨hinv2.1, hinv2.2.1, hinv2.2.2, fun _ h => absurd h (Nat.not_lt_zero _)⟩
        exact loop2 32 0 y _ _ _ (by omega) hl hP hS ⟨hinv.1, hinv.2, fun _ _ h => absurd h (Nat.not_lt_zero _)⟩
      · skip
        have hn_n : n < 8 := ts_lt (by omega) (by omega) hc
        refine lv_aload_n hx hb mD_Re_renew_8 rfl (lv_at hl 1 rfl) ?_
        refine lv_iload_n hx hb mD_Re_renew_9 rfl (lv_at hl 0 rfl) ?_
        refine lv_aload_n hx hb mD_Re_renew_10 rfl (lv_at hl 2 rfl) ?_
        refine lv_aload_n hx hb mD_Re_renew_11 rfl (lv_at hl 3 rfl) ?_
        refine gc_Vv (As := [.int (nI n), .ref (ad 2), .ref (ad 1)]) (rest := []) hx hb hml hown htw hK hP hS 5 (k_Re_renewStep l D ct ad hI y (i := n) hn_n) gZ0_ok (fun _ _ _ => trivial) (gA_mono hS.1) (by decide) rfl rfl ww_199 ww_201 ww_1 ww_26 wC_Re_renewStep mP_Re_renewStep (by decide) rfl hl.1 rfl (Nat.le_of_ble_eq_true rfl) mD_Re_renew_12 ⟨Nat.le_of_ble_eq_true rfl, Nat.le_of_ble_eq_true rfl⟩ (fun x5 H locs hp5 hP _ _ hS => ?_)
        refine lv_iinc (k := 0) (v := nI (n + 1)) (lv' := [(3, .int (nI (n + 1))), (0, .ref (ad 5)), (1, .ref (ad 2)), (2, .ref (ad 1))]) hx hb mD_Re_renew_15 hl rfl (by rw [lit1, nI_1]) (by decide) rfl (fun ls hl => ?_)
        refine lv_goto (tgt := 2) hx hb mD_Re_renew_18 rfl ?_
        exact ih (d2 - 1) (by omega) (n + 1) x5 _ _ _ (by omega) (lv_sub hl [0, 1, 2, 3] rfl) hP hS (by obtain ⟨q1, q2⟩ := hp5; exact ⟨fun k hk => by rw [q1 k (by omega)]; exact hinv.1 k hk, fun i h w h1 h2 h3 => by by_cases q : i = n; rw [q]; exact q2 h w h2 h3; exact th_step_eq (hinv.2 i h w (by omega) h2 h3) (q1 _ (by omega)) (q1 _ (by omega)) (q1 _ (by omega))⟩)
  exact loop 8 0 x _ _ _ (by omega) hl hP hS ⟨fun _ _ => rfl, fun _ _ _ h => absurd h (Nat.not_lt_zero _)⟩
