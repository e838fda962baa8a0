/-! Refresher: the wheel, a step, the way back, refresh. Laid by wip/whole/part_refresh.py. -/
theorem tr_wh {n B : Nat} (h : n + B < 2 ^ 32) : (nI n + nI B) &&& nI 63 = nI ((n + B) % 64) := by
  rw [nI_add, pk_andN h (m := nI 63) 6 (by decide)]
theorem tr_104 : tPair 104 := Or.inr (Or.inl rfl)
theorem tr_w0p {n B : Nat} (h : (n + B) % 64 < 32) : (536870912 : Int32) = tp_w0 (B : Int) (n : Int) := by
  unfold tp_w0
  rw [if_pos (by omega)]
  rfl
theorem tr_w0n {n B : Nat} (h : 32 ≤ (n + B) % 64) : (-536870912 : Int32) = tp_w0 (B : Int) (n : Int) := by
  unfold tp_w0
  rw [if_neg (by omega)]
  rfl
theorem tr_upd2 {g : Nat → Int32} {n : Nat} {a b : Int32} {P : Nat → Int32 → Prop} (h1 : ∀ i, i < n → P i (g i)) (hn : n < 32) (ha : P n a) : ∀ i, i < n + 1 → P i (upd (upd g n a) (32 + n) b i) := fun i hi => by
  rw [pk_un (by omega)]
  by_cases q : i = n
  · rw [q, pk_us]; exact ha
  · rw [pk_un q]; exact h1 i (by omega)
theorem tr_upd3 {g : Nat → Int32} {n : Nat} {a b : Int32} {P : Nat → Int32 → Prop} (h1 : ∀ i, i < n → P i (g (32 + i))) (hn : n < 32) (hb : P n b) : ∀ i, i < n + 1 → P i (upd (upd g n a) (32 + n) b (32 + i)) := fun i hi => by
  by_cases q : i = n
  · rw [q, pk_us]; exact hb
  · rw [pk_un (by omega), pk_un (by omega)]; exact h1 i (by omega)
/-- two additions, one in each half, are one of the pair -/
theorem tr_two {w pr g1 g2 : Nat → Int32} {c : Int32} {t : Nat} (h1 : ta_ok w (fun j => pr (0 + j)) g1 c t 0) (h2 : ta_ok g1 (fun j => pr (32 + j)) g2 c t 32) (s : Nat → Int32) (j : Int) :
    tp_ph s (fun i => g2 i) (fun i => g2 (32 + i)) j = tp_ph s (fun i => w i) (fun i => w (32 + i)) j + c * tp_ph s (fun i => pr i) (fun i => pr (32 + i)) (j - t) := by
  refine tp_ph_add (fun i hi => ?_) (fun i hi => ?_) j
  · show g2 i = w i + _
    have q := h1.1 i hi
    rw [Nat.zero_add] at q
    rw [h2.2 i (Or.inl hi), q, tp_ext_congr (f := fun j => pr (0 + j)) (g := fun i => pr i) (fun j _ => by show pr (0 + j) = _; rw [Nat.zero_add])]
  · show g2 (32 + i) = w (32 + i) + _
    rw [h2.1 i hi, h1.2 (32 + i) (Or.inr (by omega))]
/-- a place whose row isn't among the way back's -/
def tFar (k : Nat) : Prop := tRow k ∧ 104 ≤ k
theorem tr_end {s κ : Nat → Int32} {v : Nat → Nat → Int32} {n : Nat} : tp_sum n (fun i => tp_sum 2 (fun w => tp_dg w (tp_ext s (0 - (i : Int))) * tp_place κ (v (40 + (2 * i + w))))) = tp_sum n (fun i => tp_dg 0 (tp_ext s (0 - (i : Int))) * tp_place κ ((fun q => v (40 + q)) (2 * i)) + tp_dg 1 (tp_ext s (0 - (i : Int))) * tp_place κ ((fun q => v (40 + q)) (2 * i + 1))) := by
  refine tp_sum_congr (fun i _ => ?_)
  show tp_sum 1 _ + _ = _
  show tp_sum 0 _ + _ + _ = _
  rw [tp_sum_0]
  show 0 + tp_dg 0 _ * tp_place κ (v (40 + (2 * i + 0))) + _ = _
  rw [Nat.add_zero]
  grind
theorem tr_sub {κ g d r : Nat → Int32} {tm : Int32} (h : ∀ i, i < 9 → g i = d i - tm * r i) : tp_place κ g = tp_place κ d - tm * tp_place κ r := by
  rw [tp_place_lin (a := d) (b := r) (c := 1) (d := -tm) (fun i hi => by rw [h i hi]; grind)]
  grind
theorem tr_zero {κ g : Nat → Int32} (h : ∀ i, i < 8 → g i = 0) : tp_place κ g = g 8 := by
  unfold tp_place
  rw [tp_sum_congr (g := fun _ => 0) (fun i hi => by rw [h i hi]; grind), tp_sum_zero]
  grind

set_option maxHeartbeats 4000000 in
set_option maxRecDepth 100000 in
theorem k_Re_startWheel (l : Launch) (D : va_G) (ct : Nat → ClassId) (ad : Nat → Nat) (hI : gw_inj 424 ad) (x : tS) {B : Nat} (hB : B < 64) : gMv l mY_Re_startWheel mB_Re_startWheel 3 none (rF 0 0) D (tT ct) gZ0 424 ad (tD ct ad) [.ref (ad 5), .int (nI B)] x (fun x' => ∃ g, x'.1 = va_up x.1 104 g ∧ (∀ i, i < 32 → g i = 0) ∧ ∀ i : Nat, i < 32 → g (32 + i) = tp_w0 (B : Int) (i : Int)) := by
  refine gMv_enter (by decide) (Nat.le_of_ble_eq_true rfl) ?_
  intro p e s m below meth c ls hx hb hr htw hown hlocks hml hl hP hK hZ hS
  have hA : ∀ k, k < 424 → gA 424 ad s.heap.size (ad k) := fun _ h => gA_in h
  have hl : lv_has ls 3 [(0, .ref (ad 5)), (1, .int (nI B))] := hl
  refine gw_nmQ (fun Q hQ => ?_)
  refine lv_iconst (v := nI 0) hx hb mD_Re_startWheel_0 (by decide) ?_
  refine lv_istore_n (lv' := [(2, .int (nI 0)), (0, .ref (ad 5)), (1, .int (nI B))]) hx hb mD_Re_startWheel_1 rfl hl (by decide) rfl (fun ls hl => ?_)
  have loop : ∀ (d2 : Nat) (n : Nat) (y : tS) (H : Heap) (locs : List Loc) (ls : Array Slot), n + d2 = 32 → lv_has ls 3 [(2, .int (nI n)), (0, .ref (ad 5)), (1, .int (nI B))] → va_P D cL (gw 424 ad (tD ct ad y)) H → va_S (gA 424 ad s.heap.size) s.heap H locs → (∃ g, y.1 = va_up x.1 104 g ∧ (∀ i, i < n → g i = 0) ∧ ∀ i : Nat, i < n → g (32 + i) = tp_w0 (B : Int) (i : Int)) → W p l e (rF 0 0) s m [.ref (ad 5), .int (nI B)].toArray below meth c H locs 0 0 Q (F0 m 2 ls []) := by
    intro d2
    induction d2 using Nat.strongRecOn with
    | ind d2 ih =>
      intro n y H locs ls hd hl hP hS hinv
      refine lv_iload_n hx hb mD_Re_startWheel_2 rfl (lv_at hl 0 rfl) ?_
      refine lv_bipush (v := nI 32) hx hb mD_Re_startWheel_3 (by decide) ?_
      refine lv_icmp_ge (tgt := 48) hx hb mD_Re_startWheel_5 rfl (fun hc => ?_) (fun hc => ?_)
      · skip
        have hn : n = 32 := by have := ts_ge (by omega) (by omega) hc; omega
        subst hn
        subst hQ
        exact gw_vret hx hb hr hlocks hP hS (hinv) mD_Re_startWheel_48 (Nat.zero_le _) (Nat.zero_le _)
      · skip
        have hn_n : n < 32 := ts_lt (by omega) (by omega) hc
        refine lv_aload_n hx hb mD_Re_startWheel_8 rfl (lv_at hl 1 rfl) ?_
        refine t_get (C := cN_Re) (T := cF_Re) (N := 4) (ci := 3) hx hb htw wU_Re hown hK hP 5 (by decide) rfl rfl 2 (by decide) rfl ww_85 rfl mD_Re_startWheel_9 ?_
        refine lv_iload_n hx hb mD_Re_startWheel_12 rfl (lv_at hl 0 rfl) ?_
        refine lv_iconst (v := nI 0) hx hb mD_Re_startWheel_13 (by decide) ?_
        refine t_iast hx hb hK hI hA hP hS 104 64 (by decide) (fun _ => rfl) n rfl (by omega) (by decide) mD_Re_startWheel_14 (fun H locs hP hS => ?_)
        obtain ⟨x1, hx1⟩ : ∃ z, z = tU y 104 (upd (y.1 104) n (nI 0)) := ⟨_, rfl⟩
        rw [← hx1] at hP
        refine lv_aload_n hx hb mD_Re_startWheel_15 rfl (lv_at hl 1 rfl) ?_
        refine t_get (C := cN_Re) (T := cF_Re) (N := 4) (ci := 3) hx hb htw wU_Re hown hK hP 5 (by decide) rfl rfl 2 (by decide) rfl ww_85 rfl mD_Re_startWheel_16 ?_
        refine lv_bipush (v := nI 32) hx hb mD_Re_startWheel_19 (by decide) ?_
        refine lv_iload_n hx hb mD_Re_startWheel_21 rfl (lv_at hl 0 rfl) ?_
        refine lv_iadd hx hb mD_Re_startWheel_22 ?_
        refine lv_iload_n hx hb mD_Re_startWheel_23 rfl (lv_at hl 0 rfl) ?_
        refine lv_iload_n hx hb mD_Re_startWheel_24 rfl (lv_at hl 2 rfl) ?_
        refine lv_iadd hx hb mD_Re_startWheel_25 ?_
        refine lv_bipush (v := nI 63) hx hb mD_Re_startWheel_26 (by decide) ?_
        refine lv_iand hx hb mD_Re_startWheel_28 ?_
        refine lv_bipush (v := nI 32) hx hb mD_Re_startWheel_29 (by decide) ?_
        refine lv_icmp_ge (tgt := 39) hx hb mD_Re_startWheel_31 rfl (fun hc => ?_) (fun hc => ?_)
        · skip
          rw [tr_wh (by omega)] at hc
          have hw := ts_ge (by omega) (by omega) hc
          refine lv_ldc hx hb hown (htw _ ww_529) mD_Re_startWheel_39 ?_
          refine t_iast hx hb hK hI hA hP hS 104 64 (by decide) (fun _ => rfl) ((32 + n)) (nI_add _ _) (by omega) (by decide) mD_Re_startWheel_41 (fun H locs hP hS => ?_)
          obtain ⟨x2, hx2⟩ : ∃ z, z = tU x1 104 (upd (x1.1 104) ((32 + n)) ((-536870912 : Int32))) := ⟨_, rfl⟩
          rw [← hx2] at hP
          refine lv_iinc (k := 0) (v := nI (n + 1)) (lv' := [(2, .int (nI (n + 1))), (0, .ref (ad 5)), (1, .int (nI B))]) hx hb mD_Re_startWheel_42 hl rfl (by rw [lit1, nI_1]) (by decide) rfl (fun ls hl => ?_)
          refine lv_goto (tgt := 2) hx hb mD_Re_startWheel_45 rfl ?_
          exact ih (d2 - 1) (by omega) (n + 1) x2 _ _ _ (by omega) (lv_sub hl [0, 1, 2] rfl) hP hS (by obtain ⟨g, hg, h1, h2⟩ := hinv; exact ⟨upd (upd g n 0) (32 + n) _, by rw [hx2, tU_f, hx1, tU_f, hg, bx_uu, bx_uu, va_up_self, va_up_self]; rfl, tr_upd2 (P := fun _ z => z = 0) h1 (by omega) rfl, tr_upd3 (P := fun i z => z = tp_w0 (B : Int) (i : Int)) h2 (by omega) (by first | exact tr_w0p hw | exact tr_w0n hw)⟩)
        · skip
          rw [tr_wh (by omega)] at hc
          have hw := ts_lt (by omega) (by omega) hc
          refine lv_ldc hx hb hown (htw _ ww_528) mD_Re_startWheel_34 ?_
          refine lv_goto (tgt := 41) hx hb mD_Re_startWheel_36 rfl ?_
          refine t_iast hx hb hK hI hA hP hS 104 64 (by decide) (fun _ => rfl) ((32 + n)) (nI_add _ _) (by omega) (by decide) mD_Re_startWheel_41 (fun H locs hP hS => ?_)
          obtain ⟨x3, hx3⟩ : ∃ z, z = tU x1 104 (upd (x1.1 104) ((32 + n)) ((536870912 : Int32))) := ⟨_, rfl⟩
          rw [← hx3] at hP
          refine lv_iinc (k := 0) (v := nI (n + 1)) (lv' := [(2, .int (nI (n + 1))), (0, .ref (ad 5)), (1, .int (nI B))]) hx hb mD_Re_startWheel_42 hl rfl (by rw [lit1, nI_1]) (by decide) rfl (fun ls hl => ?_)
          refine lv_goto (tgt := 2) hx hb mD_Re_startWheel_45 rfl ?_
          exact ih (d2 - 1) (by omega) (n + 1) x3 _ _ _ (by omega) (lv_sub hl [0, 1, 2] rfl) hP hS (by obtain ⟨g, hg, h1, h2⟩ := hinv; exact ⟨upd (upd g n 0) (32 + n) _, by rw [hx3, tU_f, hx1, tU_f, hg, bx_uu, bx_uu, va_up_self, va_up_self]; rfl, tr_upd2 (P := fun _ z => z = 0) h1 (by omega) rfl, tr_upd3 (P := fun i z => z = tp_w0 (B : Int) (i : Int)) h2 (by omega) (by first | exact tr_w0p hw | exact tr_w0n hw)⟩)
  exact loop 32 0 x _ _ _ (by omega) hl hP hS ⟨x.1 104, va_up_same.symm, fun _ h => absurd h (Nat.not_lt_zero _), fun _ h => absurd h (Nat.not_lt_zero _)⟩

set_option maxHeartbeats 4000000 in
set_option maxRecDepth 100000 in
theorem k_Re_addChange (l : Launch) (D : va_G) (ct : Nat → ClassId) (ad : Nat → Nat) (hI : gw_inj 424 ad) (x : tS) {sv : Int32} {st w kp : Nat} (hsv : sv = nI st) (hst : st + 32 ≤ 64) (hw : w < 2) (hkp : tPair kp) (hkn : kp ≠ 104) : gMv l mY_Re_addChange mB_Re_addChange 6 none (rF 1 30) D (tT ct) gZ0 424 ad (tD ct ad) [.ref (ad 5), .int sv, .int (nI w), .ref (ad kp)] x (fun x' => ∃ g, x'.1 = va_up x.1 104 g ∧ ∀ (q : Nat → Int32) (j : Int), tp_ph q (fun i => g i) (fun i => g (32 + i)) j = tp_ph q (fun i => x.1 104 i) (fun i => x.1 104 (32 + i)) j + tp_sum 32 (fun k => tp_dg w (x.1 105 (st + k)) * tp_ph q (fun i => x.1 kp i) (fun i => x.1 kp (32 + i)) (j - (k : Int)))) := by
  refine gMv_enter (by decide) (Nat.le_of_ble_eq_true rfl) ?_
  intro p e s m below meth c ls hx hb hr htw hown hlocks hml hl hP hK hZ hS
  have hA : ∀ k, k < 424 → gA 424 ad s.heap.size (ad k) := fun _ h => gA_in h
  have hl : lv_has ls 6 [(0, .ref (ad 5)), (1, .int sv), (2, .int (nI w)), (3, .ref (ad kp))] := hl
  refine gw_nmQ (fun Q hQ => ?_)
  refine lv_iconst (v := nI 0) hx hb mD_Re_addChange_0 (by decide) ?_
  refine lv_istore (lv' := [(4, .int (nI 0)), (0, .ref (ad 5)), (1, .int sv), (2, .int (nI w)), (3, .ref (ad kp))]) hx hb mD_Re_addChange_1 hl (by decide) rfl (fun ls hl => ?_)
  have loop : ∀ (d3 : Nat) (n : Nat) (y : tS) (H : Heap) (locs : List Loc) (ls : Array Slot), n + d3 = 32 → lv_has ls 6 [(4, .int (nI n)), (0, .ref (ad 5)), (1, .int sv), (2, .int (nI w)), (3, .ref (ad kp))] → va_P D cL (gw 424 ad (tD ct ad y)) H → va_S (gA 424 ad s.heap.size) s.heap H locs → (∃ g, y.1 = va_up x.1 104 g ∧ ∀ (q : Nat → Int32) (j : Int), tp_ph q (fun i => g i) (fun i => g (32 + i)) j = tp_ph q (fun i => x.1 104 i) (fun i => x.1 104 (32 + i)) j + tp_sum n (fun k => tp_dg w (x.1 105 (st + k)) * tp_ph q (fun i => x.1 kp i) (fun i => x.1 kp (32 + i)) (j - (k : Int)))) → W p l e (rF 1 30) s m [.ref (ad 5), .int sv, .int (nI w), .ref (ad kp)].toArray below meth c H locs 0 0 Q (F0 m 3 ls []) := by
    intro d3
    induction d3 using Nat.strongRecOn with
    | ind d3 ih =>
      intro n y H locs ls hd hl hP hS hinv
      refine lv_iload hx hb mD_Re_addChange_3 (lv_at hl 0 rfl) ?_
      refine lv_bipush (v := nI 32) hx hb mD_Re_addChange_5 (by decide) ?_
      refine lv_icmp_ge (tgt := 66) hx hb mD_Re_addChange_7 rfl (fun hc => ?_) (fun hc => ?_)
      · skip
        have hn : n = 32 := by have := ts_ge (by omega) (by omega) hc; omega
        subst hn
        subst hQ
        exact gw_vret hx hb hr hlocks hP hS (hinv) mD_Re_addChange_66 (Nat.zero_le _) (Nat.zero_le _)
      · skip
        have hn_n : n < 32 := ts_lt (by omega) (by omega) hc
        refine lv_aload_n hx hb mD_Re_addChange_10 rfl (lv_at hl 1 rfl) ?_
        refine t_get (C := cN_Re) (T := cF_Re) (N := 4) (ci := 3) hx hb htw wU_Re hown hK hP 5 (by decide) rfl rfl 3 (by decide) rfl ww_86 rfl mD_Re_addChange_11 ?_
        refine lv_iload_n hx hb mD_Re_addChange_14 rfl (lv_at hl 2 rfl) ?_
        refine lv_iload hx hb mD_Re_addChange_15 (lv_at hl 0 rfl) ?_
        refine lv_iadd hx hb mD_Re_addChange_17 ?_
        refine t_iald hx hb hK hP 105 64 (by decide) rfl ((st + n)) (by rw [hsv, nI_add]) (by omega) (by decide) mD_Re_addChange_18 ?_
        refine lv_iload_n hx hb mD_Re_addChange_19 rfl (lv_at hl 3 rfl) ?_
        refine gc_Si (As := [.int (y.1 105 ((st + n))), .int (nI w)]) (rest := []) hx hb hml hown htw hK hP hS (k_Di_digit l D ct ad hI y _ (w := w) hw) gZ0_ok (fun _ _ _ => trivial) (gA_mono hS.1) ww_541 ww_542 ww_32 wC_Di_digit mP_Di_digit (by decide) rfl hl.1 rfl (Nat.le_of_ble_eq_true rfl) mD_Re_addChange_20 ⟨Nat.le_of_ble_eq_true rfl, Nat.le_of_ble_eq_true rfl⟩ (fun r2 x1 H locs hp1 hP _ _ hS => ?_)
        obtain ⟨hq_, rfl⟩ := hp1
        rw [hq_] at hP
        obtain ⟨g, hg, hsum⟩ := hinv
        have e5 : y.1 105 = x.1 105 := by rw [hg, va_up_ne _ _ (by decide)]
        have ekp : y.1 kp = x.1 kp := by rw [hg, va_up_ne _ _ hkn]
        have e104 : y.1 104 = g := by rw [hg, va_up_self]
        refine lv_istore (lv' := [(5, .int (tp_dg w (y.1 105 (st + n)))), (4, .int (nI n)), (0, .ref (ad 5)), (1, .int sv), (2, .int (nI w)), (3, .ref (ad kp))]) hx hb mD_Re_addChange_23 hl (by decide) rfl (fun ls hl => ?_)
        refine lv_iload hx hb mD_Re_addChange_25 (lv_at hl 0 rfl) ?_
        refine lv_if_eq (tgt := 60) hx hb mD_Re_addChange_27 rfl (fun hc => ?_) (fun hc => ?_)
        · skip
          refine lv_iinc (k := 1) (v := nI (n + 1)) (lv' := [(4, .int (nI (n + 1))), (5, .int (tp_dg w (y.1 105 (st + n)))), (0, .ref (ad 5)), (1, .int sv), (2, .int (nI w)), (3, .ref (ad kp))]) hx hb mD_Re_addChange_60 hl rfl (by rw [lit1, nI_1]) (by decide) rfl (fun ls hl => ?_)
          refine lv_goto (tgt := 3) hx hb mD_Re_addChange_63 rfl ?_
          exact ih (d3 - 1) (by omega) (n + 1) y _ _ _ (by omega) (lv_sub hl [0, 2, 3, 4, 5] rfl) hP hS ⟨g, hg, fun q j => by rw [hsum q j, tp_sum_s, ← e5, hc]; grind⟩
        · skip
          refine lv_iload hx hb mD_Re_addChange_30 (lv_at hl 0 rfl) ?_
          refine lv_iload hx hb mD_Re_addChange_32 (lv_at hl 1 rfl) ?_
          refine lv_aload_n hx hb mD_Re_addChange_34 rfl (lv_at hl 5 rfl) ?_
          refine lv_iconst (v := nI 0) hx hb mD_Re_addChange_35 (by decide) ?_
          refine lv_aload_n hx hb mD_Re_addChange_36 rfl (lv_at hl 2 rfl) ?_
          refine t_get (C := cN_Re) (T := cF_Re) (N := 4) (ci := 3) hx hb htw wU_Re hown hK hP 5 (by decide) rfl rfl 2 (by decide) rfl ww_85 rfl mD_Re_addChange_37 ?_
          refine lv_iconst (v := nI 0) hx hb mD_Re_addChange_40 (by decide) ?_
          refine gc_Sv (As := [.int (tp_dg w (y.1 105 (st + n))), .int (nI n), .ref (ad kp), .int (nI 0), .ref (ad 104), .int (nI 0)]) (rest := []) hx hb hml hown htw hK hP hS (k_Ri_addTurned l D ct ad hI y _ (t := n) (kf := kp) (fs := 0) (kt := 104) (ts := 0) (by omega) hkp tr_104 (by decide) (by decide) (Nat.le_refl _) (Or.inl hkn)) gZ0_ok (fun _ _ _ => trivial) (gA_mono hS.1) ww_545 ww_213 ww_31 wC_Ri_addTurned mP_Ri_addTurned (by decide) rfl hl.1 rfl (Nat.le_of_ble_eq_true rfl) mD_Re_addChange_41 ⟨Nat.le_of_ble_eq_true rfl, Nat.le_of_ble_eq_true rfl⟩ (fun x3 H locs hp3 hP _ _ hS => ?_)
          refine lv_iload hx hb mD_Re_addChange_44 (lv_at hl 0 rfl) ?_
          refine lv_iload hx hb mD_Re_addChange_46 (lv_at hl 1 rfl) ?_
          refine lv_aload_n hx hb mD_Re_addChange_48 rfl (lv_at hl 5 rfl) ?_
          refine lv_bipush (v := nI 32) hx hb mD_Re_addChange_49 (by decide) ?_
          refine lv_aload_n hx hb mD_Re_addChange_51 rfl (lv_at hl 2 rfl) ?_
          refine t_get (C := cN_Re) (T := cF_Re) (N := 4) (ci := 3) hx hb htw wU_Re hown hK hP 5 (by decide) rfl rfl 2 (by decide) rfl ww_85 rfl mD_Re_addChange_52 ?_
          refine lv_bipush (v := nI 32) hx hb mD_Re_addChange_55 (by decide) ?_
          refine gc_Sv (As := [.int (tp_dg w (y.1 105 (st + n))), .int (nI n), .ref (ad kp), .int (nI 32), .ref (ad 104), .int (nI 32)]) (rest := []) hx hb hml hown htw hK hP hS (k_Ri_addTurned l D ct ad hI x3 _ (t := n) (kf := kp) (fs := 32) (kt := 104) (ts := 32) (by omega) hkp tr_104 (by decide) (by decide) (Nat.le_refl _) (Or.inl hkn)) gZ0_ok (fun _ _ _ => trivial) (gA_mono hS.1) ww_545 ww_213 ww_31 wC_Ri_addTurned mP_Ri_addTurned (by decide) rfl hl.1 rfl (Nat.le_of_ble_eq_true rfl) mD_Re_addChange_57 ⟨Nat.le_of_ble_eq_true rfl, Nat.le_of_ble_eq_true rfl⟩ (fun x5 H locs hp5 hP _ _ hS => ?_)
          refine lv_iinc (k := 1) (v := nI (n + 1)) (lv' := [(4, .int (nI (n + 1))), (5, .int (tp_dg w (y.1 105 (st + n)))), (0, .ref (ad 5)), (1, .int sv), (2, .int (nI w)), (3, .ref (ad kp))]) hx hb mD_Re_addChange_60 hl rfl (by rw [lit1, nI_1]) (by decide) rfl (fun ls hl => ?_)
          refine lv_goto (tgt := 3) hx hb mD_Re_addChange_63 rfl ?_
          exact ih (d3 - 1) (by omega) (n + 1) x5 _ _ _ (by omega) (lv_sub hl [0, 2, 3, 4, 5] rfl) hP hS (by obtain ⟨g1, eg1, h1⟩ := hp3; obtain ⟨g2, eg2, h2⟩ := hp5; rw [e104, ekp] at h1; have ek1 : x3.1 kp = x.1 kp := (by rw [eg1, tU_n hkn, ekp]); rw [ek1, show x3.1 104 = g1 by rw [eg1, tU_1]] at h2; exact ⟨g2, by rw [eg2, tU_f, eg1, tU_f, hg, bx_uu, bx_uu], fun q j => by rw [tr_two h1 h2 q j, hsum q j, tp_sum_s, e5]; grind⟩)
  exact loop 32 0 x _ _ _ (by omega) hl hP hS ⟨x.1 104, va_up_same.symm, fun q j => by rw [tp_sum_0]; grind⟩
