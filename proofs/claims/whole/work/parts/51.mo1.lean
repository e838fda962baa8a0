/-! the reference's private methods. Laid by wip/whole/part_mo1.py. -/
def mCode (b1 b2 b3 : Bool) : Int32 := if b1 then (if b2 then (if b3 then 0 else 3) else 2) else 1
theorem tBi_b {g : Int32} {b : Bool} (h : g = tBi b) : (¬ g = 0 → b = true) ∧ (g = 0 → b = false) := by
  subst h
  cases b
  · exact ⟨fun z => absurd rfl z, fun _ => rfl⟩
  · exact ⟨fun _ => rfl, fun z => absurd z (by decide)⟩

set_option maxHeartbeats 4000000 in
set_option maxRecDepth 100000 in
theorem k_Mo_thrown (l : Launch) (D : va_G) (ct : Nat → ClassId) (ad : Nat → Nat) (hI : gw_inj 8 ad) (x : mS)  : gMi l mY_Mo_thrown mB_Mo_thrown 1 (some .int) (rF 0 0) D (tT ct) gZ0 8 ad (mD ct ad) [.ref (ad 0)] x (fun r x' => x' = x ∧ r = x 0 0) := by
  refine gMi_enter (by decide) (Nat.le_of_ble_eq_true rfl) ?_
  intro p e s m below meth c ls hx hb hr htw hown hlocks hml hl hP hK hZ hS
  have hA : ∀ k, k < 8 → gA 8 ad s.heap.size (ad k) := fun _ h => gA_in h
  have hl : lv_has ls 1 [(0, .ref (ad 0))] := hl
  refine lv_aload_n hx hb mD_Mo_thrown_0 rfl (lv_at hl 0 rfl) ?_
  refine m_get (C := cN_Mo) (T := cF_Mo) (N := 11) (ci := 8) hx hb htw wU_Mo hown hK hP 0 (by decide) rfl rfl 0 (by decide) rfl ww_640 rfl mD_Mo_thrown_1 ?_
  exact gw_iret hx hb hr hlocks hP hS (⟨rfl, rfl⟩) mD_Mo_thrown_4 (Nat.zero_le _) (Nat.zero_le _)

set_option maxHeartbeats 4000000 in
set_option maxRecDepth 100000 in
theorem k_Mo_goes (l : Launch) (D : va_G) (ct : Nat → ClassId) (ad : Nat → Nat) (hI : gw_inj 8 ad) (x : mS) {g1 g2 g3 : Int32} {b1 b2 b3 : Bool} (h1 : g1 = tBi b1) (h2 : g2 = tBi b2) (h3 : g3 = tBi b3) : gMi l mY_Mo_goes mB_Mo_goes 4 (some .boolean) (rF 0 0) D (tT ct) gZ0 8 ad (mD ct ad) [.ref (ad 0), .int g1, .int g2, .int g3] x (fun r x' => x' = va_up x 0 (upd (x 0) 0 (mCode b1 b2 b3)) ∧ r = tBi (b1 && (b2 && b3))) := by
  refine gMi_enter (by decide) (Nat.le_of_ble_eq_true rfl) ?_
  intro p e s m below meth c ls hx hb hr htw hown hlocks hml hl hP hK hZ hS
  have hA : ∀ k, k < 8 → gA 8 ad s.heap.size (ad k) := fun _ h => gA_in h
  have hl : lv_has ls 4 [(0, .ref (ad 0)), (1, .int g1), (2, .int g2), (3, .int g3)] := hl
  refine lv_aload_n hx hb mD_Mo_goes_0 rfl (lv_at hl 0 rfl) ?_
  refine lv_iload_n hx hb mD_Mo_goes_1 rfl (lv_at hl 1 rfl) ?_
  refine lv_if_ne (tgt := 9) hx hb mD_Mo_goes_2 rfl (fun a1 => ?_) (fun a1 => ?_)
  · skip
    have eb1 := (tBi_b h1).1 a1
    subst eb1
    refine lv_iload_n hx hb mD_Mo_goes_9 rfl (lv_at hl 2 rfl) ?_
    refine lv_if_ne (tgt := 17) hx hb mD_Mo_goes_10 rfl (fun a2 => ?_) (fun a2 => ?_)
    · skip
      have eb2 := (tBi_b h2).1 a2
      subst eb2
      refine lv_iload_n hx hb mD_Mo_goes_17 rfl (lv_at hl 3 rfl) ?_
      refine lv_if_ne (tgt := 25) hx hb mD_Mo_goes_18 rfl (fun a3 => ?_) (fun a3 => ?_)
      · skip
        have eb3 := (tBi_b h3).1 a3
        subst eb3
        refine lv_iconst (v := nI 0) hx hb mD_Mo_goes_25 (by decide) ?_
        refine m_put (C := cN_Mo) (T := cF_Mo) (N := 11) (ci := 8) hx hb htw wU_Mo cT_Mo cO_Mo cM_Mo hown hK hI hA hP hS 0 (by decide) rfl rfl 0 (by decide) rfl ww_640 rfl rfl rfl (Nat.le_of_ble_eq_true rfl) rfl mD_Mo_goes_26 (fun H locs hP hS => ?_)
        obtain ⟨x1, hx1⟩ : ∃ z_, z_ = va_up x 0 (upd (x 0) 0 (nI 0)) := ⟨_, rfl⟩
        rw [← hx1] at hP
        refine lv_aload_n hx hb mD_Mo_goes_29 rfl (lv_at hl 0 rfl) ?_
        refine m_get (C := cN_Mo) (T := cF_Mo) (N := 11) (ci := 8) hx hb htw wU_Mo hown hK hP 0 (by decide) rfl rfl 0 (by decide) rfl ww_640 rfl mD_Mo_goes_30 ?_
        refine lv_if_ne (tgt := 40) hx hb mD_Mo_goes_33 rfl (fun a4 => ?_) (fun a4 => ?_)
        · skip
          refine lv_iconst (v := nI 0) hx hb mD_Mo_goes_40 (by decide) ?_
          exact gw_zret hx hb hr hlocks hP hS rfl (by rw [hx1, va_up_self, pk_us] at a4; first | exact ⟨hx1, rfl⟩ | exact absurd rfl a4 | exact absurd a4 (by decide)) mD_Mo_goes_41 (Nat.zero_le _) (Nat.zero_le _)
        · skip
          refine lv_iconst (v := nI 1) hx hb mD_Mo_goes_36 (by decide) ?_
          refine lv_goto (tgt := 41) hx hb mD_Mo_goes_37 rfl ?_
          exact gw_zret hx hb hr hlocks hP hS rfl (by rw [hx1, va_up_self, pk_us] at a4; first | exact ⟨hx1, rfl⟩ | exact absurd rfl a4 | exact absurd a4 (by decide)) mD_Mo_goes_41 (Nat.zero_le _) (Nat.zero_le _)
      · skip
        have eb3 := (tBi_b h3).2 a3
        subst eb3
        refine lv_iconst (v := nI 3) hx hb mD_Mo_goes_21 (by decide) ?_
        refine lv_goto (tgt := 26) hx hb mD_Mo_goes_22 rfl ?_
        refine m_put (C := cN_Mo) (T := cF_Mo) (N := 11) (ci := 8) hx hb htw wU_Mo cT_Mo cO_Mo cM_Mo hown hK hI hA hP hS 0 (by decide) rfl rfl 0 (by decide) rfl ww_640 rfl rfl rfl (Nat.le_of_ble_eq_true rfl) rfl mD_Mo_goes_26 (fun H locs hP hS => ?_)
        obtain ⟨x2, hx2⟩ : ∃ z_, z_ = va_up x 0 (upd (x 0) 0 (nI 3)) := ⟨_, rfl⟩
        rw [← hx2] at hP
        refine lv_aload_n hx hb mD_Mo_goes_29 rfl (lv_at hl 0 rfl) ?_
        refine m_get (C := cN_Mo) (T := cF_Mo) (N := 11) (ci := 8) hx hb htw wU_Mo hown hK hP 0 (by decide) rfl rfl 0 (by decide) rfl ww_640 rfl mD_Mo_goes_30 ?_
        refine lv_if_ne (tgt := 40) hx hb mD_Mo_goes_33 rfl (fun a4 => ?_) (fun a4 => ?_)
        · skip
          refine lv_iconst (v := nI 0) hx hb mD_Mo_goes_40 (by decide) ?_
          exact gw_zret hx hb hr hlocks hP hS rfl (by rw [hx2, va_up_self, pk_us] at a4; first | exact ⟨hx2, rfl⟩ | exact absurd rfl a4 | exact absurd a4 (by decide)) mD_Mo_goes_41 (Nat.zero_le _) (Nat.zero_le _)
        · skip
          refine lv_iconst (v := nI 1) hx hb mD_Mo_goes_36 (by decide) ?_
          refine lv_goto (tgt := 41) hx hb mD_Mo_goes_37 rfl ?_
          exact gw_zret hx hb hr hlocks hP hS rfl (by rw [hx2, va_up_self, pk_us] at a4; first | exact ⟨hx2, rfl⟩ | exact absurd rfl a4 | exact absurd a4 (by decide)) mD_Mo_goes_41 (Nat.zero_le _) (Nat.zero_le _)
    · skip
      have eb2 := (tBi_b h2).2 a2
      subst eb2
      refine lv_iconst (v := nI 2) hx hb mD_Mo_goes_13 (by decide) ?_
      refine lv_goto (tgt := 26) hx hb mD_Mo_goes_14 rfl ?_
      refine m_put (C := cN_Mo) (T := cF_Mo) (N := 11) (ci := 8) hx hb htw wU_Mo cT_Mo cO_Mo cM_Mo hown hK hI hA hP hS 0 (by decide) rfl rfl 0 (by decide) rfl ww_640 rfl rfl rfl (Nat.le_of_ble_eq_true rfl) rfl mD_Mo_goes_26 (fun H locs hP hS => ?_)
      obtain ⟨x3, hx3⟩ : ∃ z_, z_ = va_up x 0 (upd (x 0) 0 (nI 2)) := ⟨_, rfl⟩
      rw [← hx3] at hP
      refine lv_aload_n hx hb mD_Mo_goes_29 rfl (lv_at hl 0 rfl) ?_
      refine m_get (C := cN_Mo) (T := cF_Mo) (N := 11) (ci := 8) hx hb htw wU_Mo hown hK hP 0 (by decide) rfl rfl 0 (by decide) rfl ww_640 rfl mD_Mo_goes_30 ?_
      refine lv_if_ne (tgt := 40) hx hb mD_Mo_goes_33 rfl (fun a4 => ?_) (fun a4 => ?_)
      · skip
        refine lv_iconst (v := nI 0) hx hb mD_Mo_goes_40 (by decide) ?_
        exact gw_zret hx hb hr hlocks hP hS rfl (by rw [hx3, va_up_self, pk_us] at a4; first | exact ⟨hx3, rfl⟩ | exact absurd rfl a4 | exact absurd a4 (by decide)) mD_Mo_goes_41 (Nat.zero_le _) (Nat.zero_le _)
      · skip
        refine lv_iconst (v := nI 1) hx hb mD_Mo_goes_36 (by decide) ?_
        refine lv_goto (tgt := 41) hx hb mD_Mo_goes_37 rfl ?_
        exact gw_zret hx hb hr hlocks hP hS rfl (by rw [hx3, va_up_self, pk_us] at a4; first | exact ⟨hx3, rfl⟩ | exact absurd rfl a4 | exact absurd a4 (by decide)) mD_Mo_goes_41 (Nat.zero_le _) (Nat.zero_le _)
  · skip
    have eb1 := (tBi_b h1).2 a1
    subst eb1
    refine lv_iconst (v := nI 1) hx hb mD_Mo_goes_5 (by decide) ?_
    refine lv_goto (tgt := 26) hx hb mD_Mo_goes_6 rfl ?_
    refine m_put (C := cN_Mo) (T := cF_Mo) (N := 11) (ci := 8) hx hb htw wU_Mo cT_Mo cO_Mo cM_Mo hown hK hI hA hP hS 0 (by decide) rfl rfl 0 (by decide) rfl ww_640 rfl rfl rfl (Nat.le_of_ble_eq_true rfl) rfl mD_Mo_goes_26 (fun H locs hP hS => ?_)
    obtain ⟨x4, hx4⟩ : ∃ z_, z_ = va_up x 0 (upd (x 0) 0 (nI 1)) := ⟨_, rfl⟩
    rw [← hx4] at hP
    refine lv_aload_n hx hb mD_Mo_goes_29 rfl (lv_at hl 0 rfl) ?_
    refine m_get (C := cN_Mo) (T := cF_Mo) (N := 11) (ci := 8) hx hb htw wU_Mo hown hK hP 0 (by decide) rfl rfl 0 (by decide) rfl ww_640 rfl mD_Mo_goes_30 ?_
    refine lv_if_ne (tgt := 40) hx hb mD_Mo_goes_33 rfl (fun a4 => ?_) (fun a4 => ?_)
    · skip
      refine lv_iconst (v := nI 0) hx hb mD_Mo_goes_40 (by decide) ?_
      exact gw_zret hx hb hr hlocks hP hS rfl (by rw [hx4, va_up_self, pk_us] at a4; first | exact ⟨hx4, rfl⟩ | exact absurd rfl a4 | exact absurd a4 (by decide)) mD_Mo_goes_41 (Nat.zero_le _) (Nat.zero_le _)
    · skip
      refine lv_iconst (v := nI 1) hx hb mD_Mo_goes_36 (by decide) ?_
      refine lv_goto (tgt := 41) hx hb mD_Mo_goes_37 rfl ?_
      exact gw_zret hx hb hr hlocks hP hS rfl (by rw [hx4, va_up_self, pk_us] at a4; first | exact ⟨hx4, rfl⟩ | exact absurd rfl a4 | exact absurd a4 (by decide)) mD_Mo_goes_41 (Nat.zero_le _) (Nat.zero_le _)

set_option maxHeartbeats 4000000 in
set_option maxRecDepth 100000 in
theorem k_Mo_isBit (l : Launch) (D : va_G) (ct : Nat → ClassId) (ad : Nat → Nat) (hI : gw_inj 8 ad) (x : mS) {u : Nat} (hu : u < 120) (hh : x 1 u ≠ 0) : gMi l mY_Mo_isBit mB_Mo_isBit 2 (some .boolean) (rF 0 0) D (tT ct) gZ0 8 ad (mD ct ad) [.ref (ad 0), .int (nI u)] x (fun r x' => x' = x ∧ r = nI 1) := by
  refine gMi_enter (by decide) (Nat.le_of_ble_eq_true rfl) ?_
  intro p e s m below meth c ls hx hb hr htw hown hlocks hml hl hP hK hZ hS
  have hA : ∀ k, k < 8 → gA 8 ad s.heap.size (ad k) := fun _ h => gA_in h
  have hl : lv_has ls 2 [(0, .ref (ad 0)), (1, .int (nI u))] := hl
  refine lv_iload_n hx hb mD_Mo_isBit_0 rfl (lv_at hl 1 rfl) ?_
  refine lv_if_lt (tgt := 23) hx hb mD_Mo_isBit_1 rfl (fun hc => ?_) (fun hc => ?_)
  · skip
    exfalso; exact nI_pos (by omega) hc
  · skip
    refine lv_iload_n hx hb mD_Mo_isBit_4 rfl (lv_at hl 1 rfl) ?_
    refine lv_bipush (v := nI 120) hx hb mD_Mo_isBit_5 (by decide) ?_
    refine lv_icmp_ge (tgt := 23) hx hb mD_Mo_isBit_7 rfl (fun hc => ?_) (fun hc => ?_)
    · skip
      exfalso; have := (nI_leI (by omega) (by omega)).mp hc; omega
    · skip
      refine lv_aload_n hx hb mD_Mo_isBit_10 rfl (lv_at hl 0 rfl) ?_
      refine m_get (C := cN_Mo) (T := cF_Mo) (N := 11) (ci := 8) hx hb htw wU_Mo hown hK hP 0 (by decide) rfl rfl 1 (by decide) rfl ww_641 rfl mD_Mo_isBit_11 ?_
      refine lv_iload_n hx hb mD_Mo_isBit_14 rfl (lv_at hl 1 rfl) ?_
      refine m_zald hx hb hK hP 1 120 (by decide) rfl u rfl (by omega) (by decide) mD_Mo_isBit_15 ?_
      refine lv_if_eq (tgt := 23) hx hb mD_Mo_isBit_16 rfl (fun hc => ?_) (fun hc => ?_)
      · skip
        exfalso; exact hh hc
      · skip
        refine lv_iconst (v := nI 1) hx hb mD_Mo_isBit_19 (by decide) ?_
        refine lv_goto (tgt := 24) hx hb mD_Mo_isBit_20 rfl ?_
        exact gw_zret hx hb hr hlocks hP hS rfl (⟨rfl, rfl⟩) mD_Mo_isBit_24 (Nat.zero_le _) (Nat.zero_le _)

set_option maxHeartbeats 4000000 in
set_option maxRecDepth 100000 in
theorem n_Mo_isBit (l : Launch) (D : va_G) (ct : Nat → ClassId) (ad : Nat → Nat) (hI : gw_inj 8 ad) (x : mS) (a : Int32) (hh : ¬ ∃ q, q < 120 ∧ a = nI q ∧ x 1 q ≠ 0) : gMi l mY_Mo_isBit mB_Mo_isBit 2 (some .boolean) (rF 0 0) D (tT ct) gZ0 8 ad (mD ct ad) [.ref (ad 0), .int a] x (fun r x' => x' = x ∧ r = nI 0) := by
  refine gMi_enter (by decide) (Nat.le_of_ble_eq_true rfl) ?_
  intro p e s m below meth c ls hx hb hr htw hown hlocks hml hl hP hK hZ hS
  have hA : ∀ k, k < 8 → gA 8 ad s.heap.size (ad k) := fun _ h => gA_in h
  have hl : lv_has ls 2 [(0, .ref (ad 0)), (1, .int a)] := hl
  refine lv_iload_n hx hb mD_Mo_isBit_0 rfl (lv_at hl 1 rfl) ?_
  refine lv_if_lt (tgt := 23) hx hb mD_Mo_isBit_1 rfl (fun a0 => ?_) (fun a0 => ?_)
  · skip
    refine lv_iconst (v := nI 0) hx hb mD_Mo_isBit_23 (by decide) ?_
    exact gw_zret hx hb hr hlocks hP hS rfl (⟨rfl, rfl⟩) mD_Mo_isBit_24 (Nat.zero_le _) (Nat.zero_le _)
  · skip
    refine lv_iload_n hx hb mD_Mo_isBit_4 rfl (lv_at hl 1 rfl) ?_
    refine lv_bipush (v := nI 120) hx hb mD_Mo_isBit_5 (by decide) ?_
    refine lv_icmp_ge (tgt := 23) hx hb mD_Mo_isBit_7 rfl (fun a1 => ?_) (fun a1 => ?_)
    · skip
      refine lv_iconst (v := nI 0) hx hb mD_Mo_isBit_23 (by decide) ?_
      exact gw_zret hx hb hr hlocks hP hS rfl (⟨rfl, rfl⟩) mD_Mo_isBit_24 (Nat.zero_le _) (Nat.zero_le _)
    · skip
      obtain ⟨q, hq, hqa⟩ := tb_idx (by decide) a0 a1
      subst hqa
      refine lv_aload_n hx hb mD_Mo_isBit_10 rfl (lv_at hl 0 rfl) ?_
      refine m_get (C := cN_Mo) (T := cF_Mo) (N := 11) (ci := 8) hx hb htw wU_Mo hown hK hP 0 (by decide) rfl rfl 1 (by decide) rfl ww_641 rfl mD_Mo_isBit_11 ?_
      refine lv_iload_n hx hb mD_Mo_isBit_14 rfl (lv_at hl 1 rfl) ?_
      refine m_zald hx hb hK hP 1 120 (by decide) rfl q rfl hq (by decide) mD_Mo_isBit_15 ?_
      refine lv_if_eq (tgt := 23) hx hb mD_Mo_isBit_16 rfl (fun hc => ?_) (fun hc => ?_)
      · skip
        refine lv_iconst (v := nI 0) hx hb mD_Mo_isBit_23 (by decide) ?_
        exact gw_zret hx hb hr hlocks hP hS rfl (⟨rfl, rfl⟩) mD_Mo_isBit_24 (Nat.zero_le _) (Nat.zero_le _)
      · skip
        exfalso; exact hh ⟨q, hq, rfl, hc⟩

set_option maxHeartbeats 4000000 in
set_option maxRecDepth 100000 in
theorem k_Mo_many (l : Launch) (D : va_G) (ct : Nat → ClassId) (ad : Nat → Nat) (hI : gw_inj 8 ad) (x : mS) {f : Nat → Bool} (hf : ∀ q, q < 120 → x 1 q = tBi (f q)) : gMi l mY_Mo_many mB_Mo_many 3 (some .int) (rF 0 0) D (tT ct) gZ0 8 ad (mD ct ad) [.ref (ad 0)] x (fun r x' => x' = x ∧ r = nI (aCnt f 120)) := by
  refine gMi_enter (by decide) (Nat.le_of_ble_eq_true rfl) ?_
  intro p e s m below meth c ls hx hb hr htw hown hlocks hml hl hP hK hZ hS
  have hA : ∀ k, k < 8 → gA 8 ad s.heap.size (ad k) := fun _ h => gA_in h
  have hl : lv_has ls 3 [(0, .ref (ad 0))] := hl
  refine gw_nmQ (fun Q hQ => ?_)
  refine lv_iconst (v := nI 0) hx hb mD_Mo_many_0 (by decide) ?_
  refine lv_istore_n (lv' := [(1, .int (nI 0)), (0, .ref (ad 0))]) hx hb mD_Mo_many_1 rfl hl (by decide) rfl (fun ls hl => ?_)
  refine lv_iconst (v := nI 0) hx hb mD_Mo_many_2 (by decide) ?_
  refine lv_istore_n (lv' := [(2, .int (nI 0)), (1, .int (nI 0)), (0, .ref (ad 0))]) hx hb mD_Mo_many_3 rfl hl (by decide) rfl (fun ls hl => ?_)
  have loop : ∀ (d4 : Nat) (k : Nat) (H : Heap) (locs : List Loc) (ls : Array Slot), k + d4 = 120 → lv_has ls 3 [(2, .int (nI k)), (1, .int (nI (aCnt f k))), (0, .ref (ad 0))] → va_P D cL (gw 8 ad (mD ct ad x)) H → va_S (gA 8 ad s.heap.size) s.heap H locs → (True) → W p l e (rF 0 0) s m [.ref (ad 0)].toArray below meth c H locs 0 0 Q (F0 m 4 ls []) := by
    intro d4
    induction d4 using Nat.strongRecOn with
    | ind d4 ih =>
      intro k H locs ls hd hl hP hS hinv
      refine lv_iload_n hx hb mD_Mo_many_4 rfl (lv_at hl 0 rfl) ?_
      refine lv_bipush (v := nI 120) hx hb mD_Mo_many_5 (by decide) ?_
      refine lv_icmp_ge (tgt := 33) hx hb mD_Mo_many_7 rfl (fun hc => ?_) (fun hc => ?_)
      · skip
        have hn : k = 120 := by have := ts_ge (by omega) (by omega) hc; omega
        subst hn
        refine lv_iload_n hx hb mD_Mo_many_33 rfl (lv_at hl 1 rfl) ?_
        subst hQ
        exact gw_iret hx hb hr hlocks hP hS (⟨rfl, rfl⟩) mD_Mo_many_34 (Nat.zero_le _) (Nat.zero_le _)
      · skip
        have hn_k : k < 120 := ts_lt (by omega) (by omega) hc
        refine lv_aload_n hx hb mD_Mo_many_10 rfl (lv_at hl 2 rfl) ?_
        refine m_get (C := cN_Mo) (T := cF_Mo) (N := 11) (ci := 8) hx hb htw wU_Mo hown hK hP 0 (by decide) rfl rfl 1 (by decide) rfl ww_641 rfl mD_Mo_many_11 ?_
        refine lv_iload_n hx hb mD_Mo_many_14 rfl (lv_at hl 0 rfl) ?_
        refine m_zald hx hb hK hP 1 120 (by decide) rfl k rfl (by omega) (by decide) mD_Mo_many_15 ?_
        refine lv_if_eq (tgt := 25) hx hb mD_Mo_many_16 rfl (fun hc => ?_) (fun hc => ?_)
        · skip
          have ek : aCnt f (k + 1) = aCnt f k := by show aCnt f k + _ = _; rw [(tBi_b (hf k hn_k)).2 hc]; rfl
          refine lv_iload_n hx hb mD_Mo_many_25 rfl (lv_at hl 1 rfl) ?_
          first | rw [nI_add, ← ek] | rw [← ek]
          refine lv_istore_n (lv' := [(1, .int (nI (aCnt f (k + 1)))), (2, .int (nI k)), (0, .ref (ad 0))]) hx hb mD_Mo_many_26 rfl hl (by decide) rfl (fun ls hl => ?_)
          refine lv_iinc (k := 1) (v := nI (k + 1)) (lv' := [(2, .int (nI (k + 1))), (1, .int (nI (aCnt f (k + 1)))), (0, .ref (ad 0))]) hx hb mD_Mo_many_27 hl rfl (by rw [lit1, nI_1]) (by decide) rfl (fun ls hl => ?_)
          refine lv_goto (tgt := 4) hx hb mD_Mo_many_30 rfl ?_
          exact ih (d4 - 1) (by omega) (k + 1) _ _ _ (by omega) (lv_sub hl [0, 1, 2] rfl) hP hS trivial
        · skip
          have ek : aCnt f (k + 1) = aCnt f k + 1 := by show aCnt f k + _ = _; rw [(tBi_b (hf k hn_k)).1 hc]; rfl
          refine lv_iload_n hx hb mD_Mo_many_19 rfl (lv_at hl 1 rfl) ?_
          refine lv_iconst (v := nI 1) hx hb mD_Mo_many_20 (by decide) ?_
          refine lv_iadd hx hb mD_Mo_many_21 ?_
          refine lv_goto (tgt := 26) hx hb mD_Mo_many_22 rfl ?_
          first | rw [nI_add, ← ek] | rw [← ek]
          refine lv_istore_n (lv' := [(1, .int (nI (aCnt f (k + 1)))), (2, .int (nI k)), (0, .ref (ad 0))]) hx hb mD_Mo_many_26 rfl hl (by decide) rfl (fun ls hl => ?_)
          refine lv_iinc (k := 1) (v := nI (k + 1)) (lv' := [(2, .int (nI (k + 1))), (1, .int (nI (aCnt f (k + 1)))), (0, .ref (ad 0))]) hx hb mD_Mo_many_27 hl rfl (by rw [lit1, nI_1]) (by decide) rfl (fun ls hl => ?_)
          refine lv_goto (tgt := 4) hx hb mD_Mo_many_30 rfl ?_
          exact ih (d4 - 1) (by omega) (k + 1) _ _ _ (by omega) (lv_sub hl [0, 1, 2] rfl) hP hS trivial
  exact loop 120 0 _ _ _ (by omega) hl hP hS trivial

set_option maxHeartbeats 4000000 in
set_option maxRecDepth 100000 in
theorem k_Mo_made (l : Launch) (D : va_G) (ct : Nat → ClassId) (ad : Nat → Nat) (hI : gw_inj 8 ad) (x : mS) {g : Int32} {z : Bool} (hg : g = tBi z) {bv : Int32} {b q : Nat} (hbv : bv = nI b) (hq : q < 120) (hf : x 1 q = 0) (hm : ∀ j, j < q → x 1 j ≠ 0) : gMi l mY_Mo_made mB_Mo_made 4 (some .int) (rF 0 0) D (tT ct) gZ0 8 ad (mD ct ad) [.ref (ad 0), .int g, .int bv] x (fun r x' => r = nI q ∧ x' = va_up (va_up (va_up x 1 (upd (x 1) q 1)) 2 (upd (x 2) q (tBi z))) 3 (upd (x 3) q (nI b))) := by
  refine gMi_enter (by decide) (Nat.le_of_ble_eq_true rfl) ?_
  intro p e s m below meth c ls hx hb hr htw hown hlocks hml hl hP hK hZ hS
  have hA : ∀ k, k < 8 → gA 8 ad s.heap.size (ad k) := fun _ h => gA_in h
  have hl : lv_has ls 4 [(0, .ref (ad 0)), (1, .int g), (2, .int bv)] := hl
  refine gw_nmQ (fun Q hQ => ?_)
  refine lv_iconst (v := nI 0) hx hb mD_Mo_made_0 (by decide) ?_
  refine lv_istore_n (lv' := [(3, .int (nI 0)), (0, .ref (ad 0)), (1, .int g), (2, .int bv)]) hx hb mD_Mo_made_1 rfl hl (by decide) rfl (fun ls hl => ?_)
  have loop : ∀ (d2 : Nat) (k : Nat) (H : Heap) (locs : List Loc) (ls : Array Slot), k + d2 = q → lv_has ls 4 [(3, .int (nI k)), (0, .ref (ad 0)), (1, .int g), (2, .int bv)] → va_P D cL (gw 8 ad (mD ct ad x)) H → va_S (gA 8 ad s.heap.size) s.heap H locs → (k ≤ q) → W p l e (rF 0 0) s m [.ref (ad 0), .int g, .int bv].toArray below meth c H locs 0 0 Q (F0 m 2 ls []) := by
    intro d2
    induction d2 using Nat.strongRecOn with
    | ind d2 ih =>
      intro k H locs ls hd hl hP hS hinv
      refine lv_aload_n hx hb mD_Mo_made_2 rfl (lv_at hl 1 rfl) ?_
      refine m_get (C := cN_Mo) (T := cF_Mo) (N := 11) (ci := 8) hx hb htw wU_Mo hown hK hP 0 (by decide) rfl rfl 1 (by decide) rfl ww_641 rfl mD_Mo_made_3 ?_
      refine lv_iload_n hx hb mD_Mo_made_6 rfl (lv_at hl 0 rfl) ?_
      refine m_zald hx hb hK hP 1 120 (by decide) rfl k rfl (by omega) (by decide) mD_Mo_made_7 ?_
      refine lv_if_eq (tgt := 17) hx hb mD_Mo_made_8 rfl (fun hc => ?_) (fun hc => ?_)
      · skip
        have ek : k = q := by rcases Nat.lt_or_ge k q with h | h; exact absurd hc (hm k h); omega
        subst ek
        refine lv_aload_n hx hb mD_Mo_made_17 rfl (lv_at hl 1 rfl) ?_
        refine m_get (C := cN_Mo) (T := cF_Mo) (N := 11) (ci := 8) hx hb htw wU_Mo hown hK hP 0 (by decide) rfl rfl 1 (by decide) rfl ww_641 rfl mD_Mo_made_18 ?_
        refine lv_iload_n hx hb mD_Mo_made_21 rfl (lv_at hl 0 rfl) ?_
        refine lv_iconst (v := nI 1) hx hb mD_Mo_made_22 (by decide) ?_
        refine m_zast hx hb hK hI hA hP hS 1 120 (by decide) (fun _ => rfl) k rfl (by omega) (by decide) (by first | exact Or.inl rfl | exact Or.inr rfl) mD_Mo_made_23 (fun H locs hP hS => ?_)
        obtain ⟨x1, hx1⟩ : ∃ z_, z_ = va_up x 1 (upd (x 1) k (nI 1)) := ⟨_, rfl⟩
        rw [← hx1] at hP
        refine lv_aload_n hx hb mD_Mo_made_24 rfl (lv_at hl 1 rfl) ?_
        refine m_get (C := cN_Mo) (T := cF_Mo) (N := 11) (ci := 8) hx hb htw wU_Mo hown hK hP 0 (by decide) rfl rfl 2 (by decide) rfl ww_642 rfl mD_Mo_made_25 ?_
        refine lv_iload_n hx hb mD_Mo_made_28 rfl (lv_at hl 0 rfl) ?_
        refine lv_iload_n hx hb mD_Mo_made_29 rfl (lv_at hl 2 rfl) ?_
        refine m_zast hx hb hK hI hA hP hS 2 120 (by decide) (fun _ => rfl) k rfl (by omega) (by decide) (by rw [hg]; exact tBi_bit _) mD_Mo_made_30 (fun H locs hP hS => ?_)
        obtain ⟨x2, hx2⟩ : ∃ z_, z_ = va_up x1 2 (upd (x1 2) k g) := ⟨_, rfl⟩
        rw [← hx2] at hP
        refine lv_aload_n hx hb mD_Mo_made_31 rfl (lv_at hl 1 rfl) ?_
        refine m_get (C := cN_Mo) (T := cF_Mo) (N := 11) (ci := 8) hx hb htw wU_Mo hown hK hP 0 (by decide) rfl rfl 3 (by decide) rfl ww_643 rfl mD_Mo_made_32 ?_
        refine lv_iload_n hx hb mD_Mo_made_35 rfl (lv_at hl 0 rfl) ?_
        refine lv_iload_n hx hb mD_Mo_made_36 rfl (lv_at hl 3 rfl) ?_
        refine m_iast hx hb hK hI hA hP hS 3 120 (by decide) (fun _ => rfl) k rfl (by omega) (by decide) mD_Mo_made_37 (fun H locs hP hS => ?_)
        obtain ⟨x3, hx3⟩ : ∃ z_, z_ = va_up x2 3 (upd (x2 3) k bv) := ⟨_, rfl⟩
        rw [← hx3] at hP
        refine lv_iload_n hx hb mD_Mo_made_38 rfl (lv_at hl 0 rfl) ?_
        subst hQ
        exact gw_iret hx hb hr hlocks hP hS (⟨rfl, by rw [hx3, hx2, hx1, hg, hbv]; rfl⟩) mD_Mo_made_39 (Nat.zero_le _) (Nat.zero_le _)
      · skip
        have ek : k < q := by rcases Nat.lt_or_ge k q with h | h; exact h; exact absurd (by rw [show k = q by omega]; exact hf) hc
        refine lv_iinc (k := 0) (v := nI (k + 1)) (lv' := [(3, .int (nI (k + 1))), (0, .ref (ad 0)), (1, .int g), (2, .int bv)]) hx hb mD_Mo_made_11 hl rfl (by rw [lit1, nI_1]) (by decide) rfl (fun ls hl => ?_)
        refine lv_goto (tgt := 2) hx hb mD_Mo_made_14 rfl ?_
        exact ih (d2 - 1) (by omega) (k + 1) _ _ _ (by omega) (lv_sub hl [0, 1, 2, 3] rfl) hP hS (by omega)
  exact loop q 0 _ _ _ (by omega) hl hP hS (Nat.zero_le _)

set_option maxHeartbeats 4000000 in
set_option maxRecDepth 100000 in
theorem k_Mo_bounded (l : Launch) (D : va_G) (ct : Nat → ClassId) (ad : Nat → Nat) (hI : gw_inj 8 ad) (x : mS) {u n : Nat} (hu : u < 120) : gMi l mY_Mo_bounded mB_Mo_bounded 4 (some .int) (rF 0 0) D (tT ct) gZ0 8 ad (mD ct ad) [.ref (ad 0), .int (nI u), .long (lN n)] x (fun r x' => r = nI n ∧ x' = va_up x 3 (upd (x 3) u (nI n))) := by
  refine gMi_enter (by decide) (Nat.le_of_ble_eq_true rfl) ?_
  intro p e s m below meth c ls hx hb hr htw hown hlocks hml hl hP hK hZ hS
  have hA : ∀ k, k < 8 → gA 8 ad s.heap.size (ad k) := fun _ h => gA_in h
  have hl : lv_has ls 4 [(0, .ref (ad 0)), (1, .int (nI u)), (2, .long (lN n))] := hl
  refine lv_aload_n hx hb mD_Mo_bounded_0 rfl (lv_at hl 0 rfl) ?_
  refine m_get (C := cN_Mo) (T := cF_Mo) (N := 11) (ci := 8) hx hb htw wU_Mo hown hK hP 0 (by decide) rfl rfl 3 (by decide) rfl ww_643 rfl mD_Mo_bounded_1 ?_
  refine lv_iload_n hx hb mD_Mo_bounded_4 rfl (lv_at hl 1 rfl) ?_
  refine lv_lload_n hx hb mD_Mo_bounded_5 rfl (lv_at hl 2 rfl) ?_
  refine lv_l2i hx hb mD_Mo_bounded_6 rfl ?_
  refine m_iast hx hb hK hI hA hP hS 3 120 (by decide) (fun _ => rfl) u rfl (by omega) (by decide) mD_Mo_bounded_7 (fun H locs hP hS => ?_)
  obtain ⟨x1, hx1⟩ : ∃ z_, z_ = va_up x 3 (upd (x 3) u ((lN n).toInt32)) := ⟨_, rfl⟩
  rw [← hx1] at hP
  refine lv_aload_n hx hb mD_Mo_bounded_8 rfl (lv_at hl 0 rfl) ?_
  refine m_get (C := cN_Mo) (T := cF_Mo) (N := 11) (ci := 8) hx hb htw wU_Mo hown hK hP 0 (by decide) rfl rfl 3 (by decide) rfl ww_643 rfl mD_Mo_bounded_9 ?_
  refine lv_iload_n hx hb mD_Mo_bounded_12 rfl (lv_at hl 1 rfl) ?_
  refine m_iald hx hb hK hP 3 120 (by decide) rfl u rfl (by omega) (by decide) mD_Mo_bounded_13 ?_
  exact gw_iret hx hb hr hlocks hP hS (⟨by rw [hx1, va_up_self, pk_us, lN_i], by rw [hx1, lN_i]⟩) mD_Mo_bounded_14 (Nat.zero_le _) (Nat.zero_le _)

set_option maxHeartbeats 4000000 in
set_option maxRecDepth 100000 in
theorem k_Mo_value (l : Launch) (D : va_G) (ct : Nat → ClassId) (ad : Nat → Nat) (hI : gw_inj 8 ad) (x : mS) {gt : Nat} (hgt : gt < 8) {v1 v2 : Int32} {z1 z2 : Bool} (hv1 : v1 = tBi z1) (hv2 : v2 = tBi z2) : gMi l mY_Mo_value mB_Mo_value 3 (some .boolean) (rF 0 0) D (tT ct) gZ0 8 ad (mD ct ad) [.int (nI gt), .int v1, .int v2] x (fun r x' => x' = x ∧ r = tBi (tp_truth gt z1 z2)) := by
  refine gMi_enter (by decide) (Nat.le_of_ble_eq_true rfl) ?_
  intro p e s m below meth c ls hx hb hr htw hown hlocks hml hl hP hK hZ hS
  have hA : ∀ k, k < 8 → gA 8 ad s.heap.size (ad k) := fun _ h => gA_in h
  have hl : lv_has ls 3 [(0, .int (nI gt)), (1, .int v1), (2, .int v2)] := hl
  refine lv_iload_n hx hb mD_Mo_value_0 rfl (lv_at hl 0 rfl) ?_
  rcases (show gt = 0 ∨ gt = 1 ∨ gt = 2 ∨ gt = 3 ∨ gt = 4 ∨ gt = 5 ∨ gt = 6 ∨ gt = 7 by omega) with rfl | rfl | rfl | rfl | rfl | rfl | rfl | rfl
  · skip
    refine lv_tableIn (tgt := 44) hx hb mD_Mo_value_1 (by decide) (by decide) rfl rfl ?_
    refine lv_iload_n hx hb mD_Mo_value_44 rfl (lv_at hl 1 rfl) ?_
    refine lv_if_eq (tgt := 56) hx hb mD_Mo_value_45 rfl (fun h45 => ?_) (fun h45 => ?_)
    · skip
      refine lv_iconst (v := nI 0) hx hb mD_Mo_value_56 (by decide) ?_
      exact gw_zret hx hb hr hlocks hP hS rfl (⟨rfl, by subst hv1 hv2; cases z1 <;> cases z2 <;> simp_all [tBi, tp_truth, nI]⟩) mD_Mo_value_57 (Nat.zero_le _) (Nat.zero_le _)
    · skip
      refine lv_iload_n hx hb mD_Mo_value_48 rfl (lv_at hl 2 rfl) ?_
      refine lv_if_eq (tgt := 56) hx hb mD_Mo_value_49 rfl (fun h49 => ?_) (fun h49 => ?_)
      · skip
        refine lv_iconst (v := nI 0) hx hb mD_Mo_value_56 (by decide) ?_
        exact gw_zret hx hb hr hlocks hP hS rfl (⟨rfl, by subst hv1 hv2; cases z1 <;> cases z2 <;> simp_all [tBi, tp_truth, nI]⟩) mD_Mo_value_57 (Nat.zero_le _) (Nat.zero_le _)
      · skip
        refine lv_iconst (v := nI 1) hx hb mD_Mo_value_52 (by decide) ?_
        refine lv_goto (tgt := 57) hx hb mD_Mo_value_53 rfl ?_
        exact gw_zret hx hb hr hlocks hP hS rfl (⟨rfl, by subst hv1 hv2; cases z1 <;> cases z2 <;> simp_all [tBi, tp_truth, nI]⟩) mD_Mo_value_57 (Nat.zero_le _) (Nat.zero_le _)
  · skip
    refine lv_tableIn (tgt := 58) hx hb mD_Mo_value_1 (by decide) (by decide) rfl rfl ?_
    refine lv_iload_n hx hb mD_Mo_value_58 rfl (lv_at hl 1 rfl) ?_
    refine lv_if_ne (tgt := 66) hx hb mD_Mo_value_59 rfl (fun h59 => ?_) (fun h59 => ?_)
    · skip
      refine lv_iconst (v := nI 1) hx hb mD_Mo_value_66 (by decide) ?_
      refine lv_goto (tgt := 71) hx hb mD_Mo_value_67 rfl ?_
      exact gw_zret hx hb hr hlocks hP hS rfl (⟨rfl, by subst hv1 hv2; cases z1 <;> cases z2 <;> simp_all [tBi, tp_truth, nI]⟩) mD_Mo_value_71 (Nat.zero_le _) (Nat.zero_le _)
    · skip
      refine lv_iload_n hx hb mD_Mo_value_62 rfl (lv_at hl 2 rfl) ?_
      refine lv_if_eq (tgt := 70) hx hb mD_Mo_value_63 rfl (fun h63 => ?_) (fun h63 => ?_)
      · skip
        refine lv_iconst (v := nI 0) hx hb mD_Mo_value_70 (by decide) ?_
        exact gw_zret hx hb hr hlocks hP hS rfl (⟨rfl, by subst hv1 hv2; cases z1 <;> cases z2 <;> simp_all [tBi, tp_truth, nI]⟩) mD_Mo_value_71 (Nat.zero_le _) (Nat.zero_le _)
      · skip
        refine lv_iconst (v := nI 1) hx hb mD_Mo_value_66 (by decide) ?_
        refine lv_goto (tgt := 71) hx hb mD_Mo_value_67 rfl ?_
        exact gw_zret hx hb hr hlocks hP hS rfl (⟨rfl, by subst hv1 hv2; cases z1 <;> cases z2 <;> simp_all [tBi, tp_truth, nI]⟩) mD_Mo_value_71 (Nat.zero_le _) (Nat.zero_le _)
  · skip
    refine lv_tableIn (tgt := 72) hx hb mD_Mo_value_1 (by decide) (by decide) rfl rfl ?_
    refine lv_iload_n hx hb mD_Mo_value_72 rfl (lv_at hl 1 rfl) ?_
    refine lv_if_eq (tgt := 80) hx hb mD_Mo_value_73 rfl (fun h73 => ?_) (fun h73 => ?_)
    · skip
      refine lv_iconst (v := nI 1) hx hb mD_Mo_value_80 (by decide) ?_
      refine lv_goto (tgt := 85) hx hb mD_Mo_value_81 rfl ?_
      exact gw_zret hx hb hr hlocks hP hS rfl (⟨rfl, by subst hv1 hv2; cases z1 <;> cases z2 <;> simp_all [tBi, tp_truth, nI]⟩) mD_Mo_value_85 (Nat.zero_le _) (Nat.zero_le _)
    · skip
      refine lv_iload_n hx hb mD_Mo_value_76 rfl (lv_at hl 2 rfl) ?_
      refine lv_if_ne (tgt := 84) hx hb mD_Mo_value_77 rfl (fun h77 => ?_) (fun h77 => ?_)
      · skip
        refine lv_iconst (v := nI 0) hx hb mD_Mo_value_84 (by decide) ?_
        exact gw_zret hx hb hr hlocks hP hS rfl (⟨rfl, by subst hv1 hv2; cases z1 <;> cases z2 <;> simp_all [tBi, tp_truth, nI]⟩) mD_Mo_value_85 (Nat.zero_le _) (Nat.zero_le _)
      · skip
        refine lv_iconst (v := nI 1) hx hb mD_Mo_value_80 (by decide) ?_
        refine lv_goto (tgt := 85) hx hb mD_Mo_value_81 rfl ?_
        exact gw_zret hx hb hr hlocks hP hS rfl (⟨rfl, by subst hv1 hv2; cases z1 <;> cases z2 <;> simp_all [tBi, tp_truth, nI]⟩) mD_Mo_value_85 (Nat.zero_le _) (Nat.zero_le _)
  · skip
    refine lv_tableIn (tgt := 86) hx hb mD_Mo_value_1 (by decide) (by decide) rfl rfl ?_
    refine lv_iload_n hx hb mD_Mo_value_86 rfl (lv_at hl 1 rfl) ?_
    refine lv_if_ne (tgt := 98) hx hb mD_Mo_value_87 rfl (fun h87 => ?_) (fun h87 => ?_)
    · skip
      refine lv_iconst (v := nI 0) hx hb mD_Mo_value_98 (by decide) ?_
      exact gw_zret hx hb hr hlocks hP hS rfl (⟨rfl, by subst hv1 hv2; cases z1 <;> cases z2 <;> simp_all [tBi, tp_truth, nI]⟩) mD_Mo_value_99 (Nat.zero_le _) (Nat.zero_le _)
    · skip
      refine lv_iload_n hx hb mD_Mo_value_90 rfl (lv_at hl 2 rfl) ?_
      refine lv_if_ne (tgt := 98) hx hb mD_Mo_value_91 rfl (fun h91 => ?_) (fun h91 => ?_)
      · skip
        refine lv_iconst (v := nI 0) hx hb mD_Mo_value_98 (by decide) ?_
        exact gw_zret hx hb hr hlocks hP hS rfl (⟨rfl, by subst hv1 hv2; cases z1 <;> cases z2 <;> simp_all [tBi, tp_truth, nI]⟩) mD_Mo_value_99 (Nat.zero_le _) (Nat.zero_le _)
      · skip
        refine lv_iconst (v := nI 1) hx hb mD_Mo_value_94 (by decide) ?_
        refine lv_goto (tgt := 99) hx hb mD_Mo_value_95 rfl ?_
        exact gw_zret hx hb hr hlocks hP hS rfl (⟨rfl, by subst hv1 hv2; cases z1 <;> cases z2 <;> simp_all [tBi, tp_truth, nI]⟩) mD_Mo_value_99 (Nat.zero_le _) (Nat.zero_le _)
  · skip
    refine lv_tableIn (tgt := 100) hx hb mD_Mo_value_1 (by decide) (by decide) rfl rfl ?_
    refine lv_iload_n hx hb mD_Mo_value_100 rfl (lv_at hl 1 rfl) ?_
    refine lv_iload_n hx hb mD_Mo_value_101 rfl (lv_at hl 2 rfl) ?_
    refine lv_icmp_eq (tgt := 109) hx hb mD_Mo_value_102 rfl (fun h102 => ?_) (fun h102 => ?_)
    · skip
      refine lv_iconst (v := nI 0) hx hb mD_Mo_value_109 (by decide) ?_
      exact gw_zret hx hb hr hlocks hP hS rfl (⟨rfl, by subst hv1 hv2; cases z1 <;> cases z2 <;> simp_all [tBi, tp_truth, nI]⟩) mD_Mo_value_110 (Nat.zero_le _) (Nat.zero_le _)
    · skip
      refine lv_iconst (v := nI 1) hx hb mD_Mo_value_105 (by decide) ?_
      refine lv_goto (tgt := 110) hx hb mD_Mo_value_106 rfl ?_
      exact gw_zret hx hb hr hlocks hP hS rfl (⟨rfl, by subst hv1 hv2; cases z1 <;> cases z2 <;> simp_all [tBi, tp_truth, nI]⟩) mD_Mo_value_110 (Nat.zero_le _) (Nat.zero_le _)
  · skip
    refine lv_tableIn (tgt := 111) hx hb mD_Mo_value_1 (by decide) (by decide) rfl rfl ?_
    refine lv_iload_n hx hb mD_Mo_value_111 rfl (lv_at hl 1 rfl) ?_
    refine lv_iload_n hx hb mD_Mo_value_112 rfl (lv_at hl 2 rfl) ?_
    refine lv_icmp_ne (tgt := 120) hx hb mD_Mo_value_113 rfl (fun h113 => ?_) (fun h113 => ?_)
    · skip
      refine lv_iconst (v := nI 0) hx hb mD_Mo_value_120 (by decide) ?_
      exact gw_zret hx hb hr hlocks hP hS rfl (⟨rfl, by subst hv1 hv2; cases z1 <;> cases z2 <;> simp_all [tBi, tp_truth, nI]⟩) mD_Mo_value_121 (Nat.zero_le _) (Nat.zero_le _)
    · skip
      refine lv_iconst (v := nI 1) hx hb mD_Mo_value_116 (by decide) ?_
      refine lv_goto (tgt := 121) hx hb mD_Mo_value_117 rfl ?_
      exact gw_zret hx hb hr hlocks hP hS rfl (⟨rfl, by subst hv1 hv2; cases z1 <;> cases z2 <;> simp_all [tBi, tp_truth, nI]⟩) mD_Mo_value_121 (Nat.zero_le _) (Nat.zero_le _)
  · skip
    refine lv_tableIn (tgt := 122) hx hb mD_Mo_value_1 (by decide) (by decide) rfl rfl ?_
    refine lv_iload_n hx hb mD_Mo_value_122 rfl (lv_at hl 1 rfl) ?_
    refine lv_if_eq (tgt := 134) hx hb mD_Mo_value_123 rfl (fun h123 => ?_) (fun h123 => ?_)
    · skip
      refine lv_iconst (v := nI 0) hx hb mD_Mo_value_134 (by decide) ?_
      exact gw_zret hx hb hr hlocks hP hS rfl (⟨rfl, by subst hv1 hv2; cases z1 <;> cases z2 <;> simp_all [tBi, tp_truth, nI]⟩) mD_Mo_value_135 (Nat.zero_le _) (Nat.zero_le _)
    · skip
      refine lv_iload_n hx hb mD_Mo_value_126 rfl (lv_at hl 2 rfl) ?_
      refine lv_if_ne (tgt := 134) hx hb mD_Mo_value_127 rfl (fun h127 => ?_) (fun h127 => ?_)
      · skip
        refine lv_iconst (v := nI 0) hx hb mD_Mo_value_134 (by decide) ?_
        exact gw_zret hx hb hr hlocks hP hS rfl (⟨rfl, by subst hv1 hv2; cases z1 <;> cases z2 <;> simp_all [tBi, tp_truth, nI]⟩) mD_Mo_value_135 (Nat.zero_le _) (Nat.zero_le _)
      · skip
        refine lv_iconst (v := nI 1) hx hb mD_Mo_value_130 (by decide) ?_
        refine lv_goto (tgt := 135) hx hb mD_Mo_value_131 rfl ?_
        exact gw_zret hx hb hr hlocks hP hS rfl (⟨rfl, by subst hv1 hv2; cases z1 <;> cases z2 <;> simp_all [tBi, tp_truth, nI]⟩) mD_Mo_value_135 (Nat.zero_le _) (Nat.zero_le _)
  · skip
    refine lv_tableOut (tgt := 136) hx hb mD_Mo_value_1 (by decide) rfl ?_
    refine lv_iload_n hx hb mD_Mo_value_136 rfl (lv_at hl 1 rfl) ?_
    refine lv_if_ne (tgt := 144) hx hb mD_Mo_value_137 rfl (fun h137 => ?_) (fun h137 => ?_)
    · skip
      refine lv_iconst (v := nI 1) hx hb mD_Mo_value_144 (by decide) ?_
      refine lv_goto (tgt := 149) hx hb mD_Mo_value_145 rfl ?_
      exact gw_zret hx hb hr hlocks hP hS rfl (⟨rfl, by subst hv1 hv2; cases z1 <;> cases z2 <;> simp_all [tBi, tp_truth, nI]⟩) mD_Mo_value_149 (Nat.zero_le _) (Nat.zero_le _)
    · skip
      refine lv_iload_n hx hb mD_Mo_value_140 rfl (lv_at hl 2 rfl) ?_
      refine lv_if_ne (tgt := 148) hx hb mD_Mo_value_141 rfl (fun h141 => ?_) (fun h141 => ?_)
      · skip
        refine lv_iconst (v := nI 0) hx hb mD_Mo_value_148 (by decide) ?_
        exact gw_zret hx hb hr hlocks hP hS rfl (⟨rfl, by subst hv1 hv2; cases z1 <;> cases z2 <;> simp_all [tBi, tp_truth, nI]⟩) mD_Mo_value_149 (Nat.zero_le _) (Nat.zero_le _)
      · skip
        refine lv_iconst (v := nI 1) hx hb mD_Mo_value_144 (by decide) ?_
        refine lv_goto (tgt := 149) hx hb mD_Mo_value_145 rfl ?_
        exact gw_zret hx hb hr hlocks hP hS rfl (⟨rfl, by subst hv1 hv2; cases z1 <;> cases z2 <;> simp_all [tBi, tp_truth, nI]⟩) mD_Mo_value_149 (Nat.zero_le _) (Nat.zero_le _)

set_option maxHeartbeats 4000000 in
set_option maxRecDepth 100000 in
theorem k_Mo_great (l : Launch) (D : va_G) (ct : Nat → ClassId) (ad : Nat → Nat) (hI : gw_inj 8 ad) (x : mS) {gt u1 u2 b1 b2 : Nat} (hgt : gt < 8) (hu1 : u1 < 120) (hu2 : u2 < 120) (e1 : x 3 u1 = nI b1) (e2 : x 3 u2 = nI b2) (l1 : b1 < 1073741824) (l2 : b2 < 1073741824) : gMi l mY_Mo_great mB_Mo_great 6 (some .boolean) (rF 0 0) D (tT ct) gZ0 8 ad (mD ct ad) [.ref (ad 0), .int (nI gt), .int (nI u1), .int (nI u2)] x (fun r x' => x' = x ∧ ((r = nI 1 ∧ tp_far gt b1 b2) ∨ (r = nI 0 ∧ ¬ tp_far gt b1 b2))) := by
  refine gMi_enter (by decide) (Nat.le_of_ble_eq_true rfl) ?_
  intro p e s m below meth c ls hx hb hr htw hown hlocks hml hl hP hK hZ hS
  have hA : ∀ k, k < 8 → gA 8 ad s.heap.size (ad k) := fun _ h => gA_in h
  have hl : lv_has ls 6 [(0, .ref (ad 0)), (1, .int (nI gt)), (2, .int (nI u1)), (3, .int (nI u2))] := hl
  refine lv_aload_n hx hb mD_Mo_great_0 rfl (lv_at hl 0 rfl) ?_
  refine m_get (C := cN_Mo) (T := cF_Mo) (N := 11) (ci := 8) hx hb htw wU_Mo hown hK hP 0 (by decide) rfl rfl 3 (by decide) rfl ww_643 rfl mD_Mo_great_1 ?_
  refine lv_iload_n hx hb mD_Mo_great_4 rfl (lv_at hl 2 rfl) ?_
  refine m_iald hx hb hK hP 3 120 (by decide) rfl u1 rfl (by omega) (by decide) mD_Mo_great_5 ?_
  refine lv_i2l hx hb mD_Mo_great_6 rfl ?_
  refine lv_aload_n hx hb mD_Mo_great_7 rfl (lv_at hl 0 rfl) ?_
  refine m_get (C := cN_Mo) (T := cF_Mo) (N := 11) (ci := 8) hx hb htw wU_Mo hown hK hP 0 (by decide) rfl rfl 3 (by decide) rfl ww_643 rfl mD_Mo_great_8 ?_
  refine lv_iload_n hx hb mD_Mo_great_11 rfl (lv_at hl 3 rfl) ?_
  refine m_iald hx hb hK hP 3 120 (by decide) rfl u2 rfl (by omega) (by decide) mD_Mo_great_12 ?_
  refine lv_i2l hx hb mD_Mo_great_13 rfl ?_
  refine lv_ladd hx hb mD_Mo_great_14 ?_
  refine lv_lstore (lv' := [(4, .long (((x 3 u1).toInt64) + ((x 3 u2).toInt64))), (0, .ref (ad 0)), (1, .int (nI gt)), (2, .int (nI u1)), (3, .int (nI u2))]) hx hb mD_Mo_great_15 hl (by decide) rfl (fun ls hl => ?_)
  refine lv_iload_n hx hb mD_Mo_great_17 rfl (lv_at hl 2 rfl) ?_
  refine lv_iconst (v := nI 4) hx hb mD_Mo_great_18 (by decide) ?_
  refine lv_icmp_eq (tgt := 27) hx hb mD_Mo_great_19 rfl (fun h4 => ?_) (fun h4 => ?_)
  · skip
    refine lv_ldc2 hx hb hown (htw _ ww_737) mD_Mo_great_27 ?_
    refine lv_lload hx hb mD_Mo_great_30 (lv_at hl 0 rfl) ?_
    refine lv_lmul hx hb mD_Mo_great_32 ?_
    refine lv_ldc2 hx hb hown (htw _ ww_738) mD_Mo_great_33 ?_
    refine W.lcmp hx hb mD_Mo_great_36 ?_
    refine lv_if_lt (tgt := 44) hx hb mD_Mo_great_37 rfl (fun h7 => ?_) (fun h7 => ?_)
    · skip
      refine lv_iconst (v := nI 0) hx hb mD_Mo_great_44 (by decide) ?_
      refine lv_goto (tgt := 62) hx hb mD_Mo_great_45 rfl ?_
      exact gw_zret hx hb hr hlocks hP hS rfl (⟨rfl, by first | exact Or.inr ⟨rfl, (tl_far2 e1 e2 l1 l2 (by first | exact Or.inl ((nI_eq (by omega) (by omega)).mp h4) | exact Or.inr ((nI_eq (by omega) (by omega)).mp h5))).mp h7⟩ | exact Or.inl ⟨rfl, Classical.not_not.mp (fun q => h7 ((tl_far2 e1 e2 l1 l2 (by first | exact Or.inl ((nI_eq (by omega) (by omega)).mp h4) | exact Or.inr ((nI_eq (by omega) (by omega)).mp h5))).mpr q))⟩ | exact Or.inr ⟨rfl, (tl_far1 e1 e2 l1 l2 (fun q => by rcases q with q | q; exact h4 (by rw [q]); exact h5 (by rw [q]))).mp h7⟩ | exact Or.inl ⟨rfl, Classical.not_not.mp (fun q => h7 ((tl_far1 e1 e2 l1 l2 (fun q => by rcases q with q | q; exact h4 (by rw [q]); exact h5 (by rw [q]))).mpr q))⟩⟩) mD_Mo_great_62 (Nat.zero_le _) (Nat.zero_le _)
    · skip
      refine lv_iconst (v := nI 1) hx hb mD_Mo_great_40 (by decide) ?_
      refine lv_goto (tgt := 62) hx hb mD_Mo_great_41 rfl ?_
      exact gw_zret hx hb hr hlocks hP hS rfl (⟨rfl, by first | exact Or.inr ⟨rfl, (tl_far2 e1 e2 l1 l2 (by first | exact Or.inl ((nI_eq (by omega) (by omega)).mp h4) | exact Or.inr ((nI_eq (by omega) (by omega)).mp h5))).mp h7⟩ | exact Or.inl ⟨rfl, Classical.not_not.mp (fun q => h7 ((tl_far2 e1 e2 l1 l2 (by first | exact Or.inl ((nI_eq (by omega) (by omega)).mp h4) | exact Or.inr ((nI_eq (by omega) (by omega)).mp h5))).mpr q))⟩ | exact Or.inr ⟨rfl, (tl_far1 e1 e2 l1 l2 (fun q => by rcases q with q | q; exact h4 (by rw [q]); exact h5 (by rw [q]))).mp h7⟩ | exact Or.inl ⟨rfl, Classical.not_not.mp (fun q => h7 ((tl_far1 e1 e2 l1 l2 (fun q => by rcases q with q | q; exact h4 (by rw [q]); exact h5 (by rw [q]))).mpr q))⟩⟩) mD_Mo_great_62 (Nat.zero_le _) (Nat.zero_le _)
  · skip
    refine lv_iload_n hx hb mD_Mo_great_22 rfl (lv_at hl 2 rfl) ?_
    refine lv_iconst (v := nI 5) hx hb mD_Mo_great_23 (by decide) ?_
    refine lv_icmp_ne (tgt := 48) hx hb mD_Mo_great_24 rfl (fun h5 => ?_) (fun h5 => ?_)
    · skip
      refine lv_lload hx hb mD_Mo_great_48 (lv_at hl 0 rfl) ?_
      refine lv_ldc2 hx hb hown (htw _ ww_739) mD_Mo_great_50 ?_
      refine W.lcmp hx hb mD_Mo_great_53 ?_
      refine lv_if_lt (tgt := 61) hx hb mD_Mo_great_54 rfl (fun h7 => ?_) (fun h7 => ?_)
      · skip
        refine lv_iconst (v := nI 0) hx hb mD_Mo_great_61 (by decide) ?_
        exact gw_zret hx hb hr hlocks hP hS rfl (⟨rfl, by first | exact Or.inr ⟨rfl, (tl_far2 e1 e2 l1 l2 (by first | exact Or.inl ((nI_eq (by omega) (by omega)).mp h4) | exact Or.inr ((nI_eq (by omega) (by omega)).mp h5))).mp h7⟩ | exact Or.inl ⟨rfl, Classical.not_not.mp (fun q => h7 ((tl_far2 e1 e2 l1 l2 (by first | exact Or.inl ((nI_eq (by omega) (by omega)).mp h4) | exact Or.inr ((nI_eq (by omega) (by omega)).mp h5))).mpr q))⟩ | exact Or.inr ⟨rfl, (tl_far1 e1 e2 l1 l2 (fun q => by rcases q with q | q; exact h4 (by rw [q]); exact h5 (by rw [q]))).mp h7⟩ | exact Or.inl ⟨rfl, Classical.not_not.mp (fun q => h7 ((tl_far1 e1 e2 l1 l2 (fun q => by rcases q with q | q; exact h4 (by rw [q]); exact h5 (by rw [q]))).mpr q))⟩⟩) mD_Mo_great_62 (Nat.zero_le _) (Nat.zero_le _)
      · skip
        refine lv_iconst (v := nI 1) hx hb mD_Mo_great_57 (by decide) ?_
        refine lv_goto (tgt := 62) hx hb mD_Mo_great_58 rfl ?_
        exact gw_zret hx hb hr hlocks hP hS rfl (⟨rfl, by first | exact Or.inr ⟨rfl, (tl_far2 e1 e2 l1 l2 (by first | exact Or.inl ((nI_eq (by omega) (by omega)).mp h4) | exact Or.inr ((nI_eq (by omega) (by omega)).mp h5))).mp h7⟩ | exact Or.inl ⟨rfl, Classical.not_not.mp (fun q => h7 ((tl_far2 e1 e2 l1 l2 (by first | exact Or.inl ((nI_eq (by omega) (by omega)).mp h4) | exact Or.inr ((nI_eq (by omega) (by omega)).mp h5))).mpr q))⟩ | exact Or.inr ⟨rfl, (tl_far1 e1 e2 l1 l2 (fun q => by rcases q with q | q; exact h4 (by rw [q]); exact h5 (by rw [q]))).mp h7⟩ | exact Or.inl ⟨rfl, Classical.not_not.mp (fun q => h7 ((tl_far1 e1 e2 l1 l2 (fun q => by rcases q with q | q; exact h4 (by rw [q]); exact h5 (by rw [q]))).mpr q))⟩⟩) mD_Mo_great_62 (Nat.zero_le _) (Nat.zero_le _)
    · skip
      refine lv_ldc2 hx hb hown (htw _ ww_737) mD_Mo_great_27 ?_
      refine lv_lload hx hb mD_Mo_great_30 (lv_at hl 0 rfl) ?_
      refine lv_lmul hx hb mD_Mo_great_32 ?_
      refine lv_ldc2 hx hb hown (htw _ ww_738) mD_Mo_great_33 ?_
      refine W.lcmp hx hb mD_Mo_great_36 ?_
      refine lv_if_lt (tgt := 44) hx hb mD_Mo_great_37 rfl (fun h7 => ?_) (fun h7 => ?_)
      · skip
        refine lv_iconst (v := nI 0) hx hb mD_Mo_great_44 (by decide) ?_
        refine lv_goto (tgt := 62) hx hb mD_Mo_great_45 rfl ?_
        exact gw_zret hx hb hr hlocks hP hS rfl (⟨rfl, by first | exact Or.inr ⟨rfl, (tl_far2 e1 e2 l1 l2 (by first | exact Or.inl ((nI_eq (by omega) (by omega)).mp h4) | exact Or.inr ((nI_eq (by omega) (by omega)).mp h5))).mp h7⟩ | exact Or.inl ⟨rfl, Classical.not_not.mp (fun q => h7 ((tl_far2 e1 e2 l1 l2 (by first | exact Or.inl ((nI_eq (by omega) (by omega)).mp h4) | exact Or.inr ((nI_eq (by omega) (by omega)).mp h5))).mpr q))⟩ | exact Or.inr ⟨rfl, (tl_far1 e1 e2 l1 l2 (fun q => by rcases q with q | q; exact h4 (by rw [q]); exact h5 (by rw [q]))).mp h7⟩ | exact Or.inl ⟨rfl, Classical.not_not.mp (fun q => h7 ((tl_far1 e1 e2 l1 l2 (fun q => by rcases q with q | q; exact h4 (by rw [q]); exact h5 (by rw [q]))).mpr q))⟩⟩) mD_Mo_great_62 (Nat.zero_le _) (Nat.zero_le _)
      · skip
        refine lv_iconst (v := nI 1) hx hb mD_Mo_great_40 (by decide) ?_
        refine lv_goto (tgt := 62) hx hb mD_Mo_great_41 rfl ?_
        exact gw_zret hx hb hr hlocks hP hS rfl (⟨rfl, by first | exact Or.inr ⟨rfl, (tl_far2 e1 e2 l1 l2 (by first | exact Or.inl ((nI_eq (by omega) (by omega)).mp h4) | exact Or.inr ((nI_eq (by omega) (by omega)).mp h5))).mp h7⟩ | exact Or.inl ⟨rfl, Classical.not_not.mp (fun q => h7 ((tl_far2 e1 e2 l1 l2 (by first | exact Or.inl ((nI_eq (by omega) (by omega)).mp h4) | exact Or.inr ((nI_eq (by omega) (by omega)).mp h5))).mpr q))⟩ | exact Or.inr ⟨rfl, (tl_far1 e1 e2 l1 l2 (fun q => by rcases q with q | q; exact h4 (by rw [q]); exact h5 (by rw [q]))).mp h7⟩ | exact Or.inl ⟨rfl, Classical.not_not.mp (fun q => h7 ((tl_far1 e1 e2 l1 l2 (fun q => by rcases q with q | q; exact h4 (by rw [q]); exact h5 (by rw [q]))).mpr q))⟩⟩) mD_Mo_great_62 (Nat.zero_le _) (Nat.zero_le _)

set_option maxHeartbeats 4000000 in
set_option maxRecDepth 100000 in
theorem k_Mo_isGate (l : Launch) (D : va_G) (ct : Nat → ClassId) (ad : Nat → Nat) (hI : gw_inj 8 ad) (x : mS) {q : Nat} (hq : q < 8) : gMi l mY_Mo_isGate mB_Mo_isGate 1 (some .boolean) (rF 0 0) D (tT ct) gZ0 8 ad (mD ct ad) [.int (nI q)] x (fun r x' => x' = x ∧ r = nI 1) := by
  refine gMi_enter (by decide) (Nat.le_of_ble_eq_true rfl) ?_
  intro p e s m below meth c ls hx hb hr htw hown hlocks hml hl hP hK hZ hS
  have hA : ∀ k, k < 8 → gA 8 ad s.heap.size (ad k) := fun _ h => gA_in h
  have hl : lv_has ls 1 [(0, .int (nI q))] := hl
  refine lv_iload_n hx hb mD_Mo_isGate_0 rfl (lv_at hl 0 rfl) ?_
  refine lv_if_lt (tgt := 14) hx hb mD_Mo_isGate_1 rfl (fun hc => ?_) (fun hc => ?_)
  · skip
    exfalso; exact nI_pos (by omega) hc
  · skip
    refine lv_iload_n hx hb mD_Mo_isGate_4 rfl (lv_at hl 0 rfl) ?_
    refine lv_bipush (v := nI 7) hx hb mD_Mo_isGate_5 (by decide) ?_
    refine lv_icmp_gt (tgt := 14) hx hb mD_Mo_isGate_7 rfl (fun hc => ?_) (fun hc => ?_)
    · skip
      exfalso; exact nI_nlt (by omega) (by omega) hc
    · skip
      refine lv_iconst (v := nI 1) hx hb mD_Mo_isGate_10 (by decide) ?_
      refine lv_goto (tgt := 15) hx hb mD_Mo_isGate_11 rfl ?_
      exact gw_zret hx hb hr hlocks hP hS rfl (⟨rfl, rfl⟩) mD_Mo_isGate_15 (Nat.zero_le _) (Nat.zero_le _)

set_option maxHeartbeats 4000000 in
set_option maxRecDepth 100000 in
theorem n_Mo_isGate (l : Launch) (D : va_G) (ct : Nat → ClassId) (ad : Nat → Nat) (hI : gw_inj 8 ad) (x : mS) (a : Int32) (hh : ¬ ∃ q, q < 8 ∧ a = nI q) : gMi l mY_Mo_isGate mB_Mo_isGate 1 (some .boolean) (rF 0 0) D (tT ct) gZ0 8 ad (mD ct ad) [.int a] x (fun r x' => x' = x ∧ r = nI 0) := by
  refine gMi_enter (by decide) (Nat.le_of_ble_eq_true rfl) ?_
  intro p e s m below meth c ls hx hb hr htw hown hlocks hml hl hP hK hZ hS
  have hA : ∀ k, k < 8 → gA 8 ad s.heap.size (ad k) := fun _ h => gA_in h
  have hl : lv_has ls 1 [(0, .int a)] := hl
  refine lv_iload_n hx hb mD_Mo_isGate_0 rfl (lv_at hl 0 rfl) ?_
  refine lv_if_lt (tgt := 14) hx hb mD_Mo_isGate_1 rfl (fun a0 => ?_) (fun a0 => ?_)
  · skip
    refine lv_iconst (v := nI 0) hx hb mD_Mo_isGate_14 (by decide) ?_
    exact gw_zret hx hb hr hlocks hP hS rfl (⟨rfl, rfl⟩) mD_Mo_isGate_15 (Nat.zero_le _) (Nat.zero_le _)
  · skip
    refine lv_iload_n hx hb mD_Mo_isGate_4 rfl (lv_at hl 0 rfl) ?_
    refine lv_bipush (v := nI 7) hx hb mD_Mo_isGate_5 (by decide) ?_
    refine lv_icmp_gt (tgt := 14) hx hb mD_Mo_isGate_7 rfl (fun a1 => ?_) (fun a1 => ?_)
    · skip
      refine lv_iconst (v := nI 0) hx hb mD_Mo_isGate_14 (by decide) ?_
      exact gw_zret hx hb hr hlocks hP hS rfl (⟨rfl, rfl⟩) mD_Mo_isGate_15 (Nat.zero_le _) (Nat.zero_le _)
    · skip
      exfalso; obtain ⟨q, z1, z2⟩ := tk_rng (N := 7) (by decide) a0 (Int32.not_lt.mp a1); exact hh ⟨q, by omega, z2⟩

set_option maxHeartbeats 4000000 in
set_option maxRecDepth 100000 in
theorem k_Mo_isAhead (l : Launch) (D : va_G) (ct : Nat → ClassId) (ad : Nat → Nat) (hI : gw_inj 8 ad) (x : mS) {q : Nat} {sz : Nat} (hsz : x 0 6 = nI sz) (hs24 : sz ≤ 24) (hq : q < 8 + sz) : gMi l mY_Mo_isAhead mB_Mo_isAhead 2 (some .boolean) (rF 0 0) D (tT ct) gZ0 8 ad (mD ct ad) [.ref (ad 0), .int (nI q)] x (fun r x' => x' = x ∧ r = nI 1) := by
  refine gMi_enter (by decide) (Nat.le_of_ble_eq_true rfl) ?_
  intro p e s m below meth c ls hx hb hr htw hown hlocks hml hl hP hK hZ hS
  have hA : ∀ k, k < 8 → gA 8 ad s.heap.size (ad k) := fun _ h => gA_in h
  have hl : lv_has ls 2 [(0, .ref (ad 0)), (1, .int (nI q))] := hl
  refine lv_iload_n hx hb mD_Mo_isAhead_0 rfl (lv_at hl 1 rfl) ?_
  refine lv_if_lt (tgt := 19) hx hb mD_Mo_isAhead_1 rfl (fun hc => ?_) (fun hc => ?_)
  · skip
    exfalso; exact nI_pos (by omega) hc
  · skip
    refine lv_iload_n hx hb mD_Mo_isAhead_4 rfl (lv_at hl 1 rfl) ?_
    refine lv_bipush (v := nI 8) hx hb mD_Mo_isAhead_5 (by decide) ?_
    refine lv_aload_n hx hb mD_Mo_isAhead_7 rfl (lv_at hl 0 rfl) ?_
    refine m_get (C := cN_Mo) (T := cF_Mo) (N := 11) (ci := 8) hx hb htw wU_Mo hown hK hP 0 (by decide) rfl rfl 6 (by decide) rfl ww_646 rfl mD_Mo_isAhead_8 ?_
    refine lv_iadd hx hb mD_Mo_isAhead_11 ?_
    refine lv_icmp_ge (tgt := 19) hx hb mD_Mo_isAhead_12 rfl (fun hc => ?_) (fun hc => ?_)
    · skip
      exfalso; rw [hsz, nI_add] at hc; have := (nI_leI (by omega) (by omega)).mp hc; omega
    · skip
      refine lv_iconst (v := nI 1) hx hb mD_Mo_isAhead_15 (by decide) ?_
      refine lv_goto (tgt := 20) hx hb mD_Mo_isAhead_16 rfl ?_
      exact gw_zret hx hb hr hlocks hP hS rfl (⟨rfl, rfl⟩) mD_Mo_isAhead_20 (Nat.zero_le _) (Nat.zero_le _)

set_option maxHeartbeats 4000000 in
set_option maxRecDepth 100000 in
theorem n_Mo_isAhead (l : Launch) (D : va_G) (ct : Nat → ClassId) (ad : Nat → Nat) (hI : gw_inj 8 ad) (x : mS) (a : Int32) {sz : Nat} (hsz : x 0 6 = nI sz) (hs24 : sz ≤ 24) (hh : ¬ ∃ q, q < 8 + sz ∧ a = nI q) : gMi l mY_Mo_isAhead mB_Mo_isAhead 2 (some .boolean) (rF 0 0) D (tT ct) gZ0 8 ad (mD ct ad) [.ref (ad 0), .int a] x (fun r x' => x' = x ∧ r = nI 0) := by
  refine gMi_enter (by decide) (Nat.le_of_ble_eq_true rfl) ?_
  intro p e s m below meth c ls hx hb hr htw hown hlocks hml hl hP hK hZ hS
  have hA : ∀ k, k < 8 → gA 8 ad s.heap.size (ad k) := fun _ h => gA_in h
  have hl : lv_has ls 2 [(0, .ref (ad 0)), (1, .int a)] := hl
  refine lv_iload_n hx hb mD_Mo_isAhead_0 rfl (lv_at hl 1 rfl) ?_
  refine lv_if_lt (tgt := 19) hx hb mD_Mo_isAhead_1 rfl (fun a0 => ?_) (fun a0 => ?_)
  · skip
    refine lv_iconst (v := nI 0) hx hb mD_Mo_isAhead_19 (by decide) ?_
    exact gw_zret hx hb hr hlocks hP hS rfl (⟨rfl, rfl⟩) mD_Mo_isAhead_20 (Nat.zero_le _) (Nat.zero_le _)
  · skip
    refine lv_iload_n hx hb mD_Mo_isAhead_4 rfl (lv_at hl 1 rfl) ?_
    refine lv_bipush (v := nI 8) hx hb mD_Mo_isAhead_5 (by decide) ?_
    refine lv_aload_n hx hb mD_Mo_isAhead_7 rfl (lv_at hl 0 rfl) ?_
    refine m_get (C := cN_Mo) (T := cF_Mo) (N := 11) (ci := 8) hx hb htw wU_Mo hown hK hP 0 (by decide) rfl rfl 6 (by decide) rfl ww_646 rfl mD_Mo_isAhead_8 ?_
    refine lv_iadd hx hb mD_Mo_isAhead_11 ?_
    refine lv_icmp_ge (tgt := 19) hx hb mD_Mo_isAhead_12 rfl (fun a1 => ?_) (fun a1 => ?_)
    · skip
      refine lv_iconst (v := nI 0) hx hb mD_Mo_isAhead_19 (by decide) ?_
      exact gw_zret hx hb hr hlocks hP hS rfl (⟨rfl, rfl⟩) mD_Mo_isAhead_20 (Nat.zero_le _) (Nat.zero_le _)
    · skip
      exfalso; rw [hsz, nI_add] at a1; exact hh (tb_idx (by omega) a0 a1)
