/-! Ring.addTurned. Laid by wip/whole/part_ring.py. -/
theorem tU_U {x : tS} {k : Nat} {f g : Nat → Int32} : tU (tU x k f) k g = tU x k g := by
  unfold tU
  rw [bx_uu]
theorem tU_self {x : tS} {k : Nat} : tU x k (x.1 k) = x := by
  unfold tU
  have h : va_up x.1 k (x.1 k) = x.1 := by
    funext j
    by_cases h : j = k
    · rw [h, va_up_self]
    · rw [va_up_ne _ _ h]
  rw [h]
/-- what the first loop has done, up to n; what the second -/
def ta_1 (o F g : Nat → Int32) (c : Int32) (t fs ts n : Nat) : Prop := ∀ j, g j = if ts + t ≤ j ∧ j < ts + t + (n - fs) then o j + c * F (j - ts - t) else o j
def ta_2 (o F g : Nat → Int32) (c : Int32) (t fs ts n : Nat) : Prop := ∀ j, g j = if ts + t ≤ j ∧ j < ts + 32 then o j + c * F (j - ts - t) else if ts ≤ j ∧ j < ts + (n - (fs + 32 - t)) then o j - c * F (j - ts + 32 - t) else o j
theorem ta_1s {o F g : Nat → Int32} {c : Int32} {t fs ts n : Nat} (h : ta_1 o F g c t fs ts n) (hn : fs ≤ n) {v : Int32} (hv : v = g (ts + t + (n - fs)) + c * F (n - fs)) : ta_1 o F (upd g (ts + t + (n - fs)) v) c t fs ts (n + 1) := by
  intro j
  by_cases hj : j = ts + t + (n - fs)
  · subst hj
    rw [pk_us, hv, h _, if_neg (by omega), if_pos (by omega)]
    congr 3
    omega
  · rw [pk_un hj, h j]
    by_cases h1 : ts + t ≤ j ∧ j < ts + t + (n - fs)
    · rw [if_pos h1, if_pos (by omega)]
    · rw [if_neg h1, if_neg (by omega)]
theorem ta_2s {o F g : Nat → Int32} {c : Int32} {t fs ts n : Nat} (h : ta_2 o F g c t fs ts n) (ht : t ≤ 32) (hn : fs + 32 - t ≤ n) (hn2 : n < fs + 32) {v : Int32} (hv : v = g (ts + (n - (fs + 32 - t))) - c * F (n - fs)) : ta_2 o F (upd g (ts + (n - (fs + 32 - t))) v) c t fs ts (n + 1) := by
  intro j
  by_cases hj : j = ts + (n - (fs + 32 - t))
  · subst hj
    rw [pk_us, hv, h _, if_neg (by omega), if_neg (by omega), if_neg (by omega), if_pos (by omega)]
    congr 3
    omega
  · rw [pk_un hj, h j]
    by_cases h1 : ts + t ≤ j ∧ j < ts + 32
    · rw [if_pos h1, if_pos h1]
    · rw [if_neg h1, if_neg h1]
      by_cases h2 : ts ≤ j ∧ j < ts + (n - (fs + 32 - t))
      · rw [if_pos h2, if_pos (by omega)]
      · rw [if_neg h2, if_neg (by omega)]
theorem ta_12 {o F g : Nat → Int32} {c : Int32} {t fs ts : Nat} (ht : t ≤ 32) (h : ta_1 o F g c t fs ts (fs + 32 - t)) : ta_2 o F g c t fs ts (fs + 32 - t) := by
  intro j
  rw [h j]
  by_cases h1 : ts + t ≤ j ∧ j < ts + 32
  · rw [if_pos (by omega), if_pos h1]
  · rw [if_neg (by omega), if_neg h1, if_neg (by omega)]
/-- what addTurned makes of the numbers it adds to -/
def ta_ok (o F g : Nat → Int32) (c : Int32) (t ts : Nat) : Prop := (∀ i : Nat, i < 32 → g (ts + i) = o (ts + i) + c * tp_ext F ((i : Int) - t)) ∧ ∀ j, (j < ts ∨ ts + 32 ≤ j) → g j = o j
theorem ta_end {o F g : Nat → Int32} {c : Int32} {t fs ts : Nat} (ht : t < 32) (h : ta_2 o F g c t fs ts (fs + 32)) : ta_ok o F g c t ts := by
  refine ⟨fun i hi => ?_, fun j hj => ?_⟩
  · rw [h (ts + i)]
    unfold tp_ext
    by_cases h1 : t ≤ i
    · rw [if_pos (by omega), if_pos (by omega)]
      congr 3
      omega
    · rw [if_neg (by omega), if_pos (by omega), if_neg (by omega), show ts + i - ts + 32 - t = (((i : Int) - t) % 64 - 32).toNat by omega]
      grind
  · rw [h j, if_neg (by omega), if_neg (by omega)]

theorem ta_lo1 {o F g : Nat → Int32} {c : Int32} {t fs ts n : Nat} (h : ta_1 o F g c t fs ts n) : ∀ j, j < ts → g j = o j := fun j hj => by rw [h j, if_neg (by omega)]
theorem ta_lo2 {o F g : Nat → Int32} {c : Int32} {t fs ts n : Nat} (h : ta_2 o F g c t fs ts n) : ∀ j, j < ts → g j = o j := fun j hj => by rw [h j, if_neg (by omega), if_neg (by omega)]

theorem tn_back {n a r : Nat} (h : 32 ≤ n + a) (hr : n + a - 32 = r) : nI n + (nI a - nI 32) = nI r := by
  have e : nI n + (nI a - nI 32) = nI n + nI a - nI 32 := by grind
  rw [e, nI_add, pk_sub h, hr]

set_option maxHeartbeats 4000000 in
set_option maxRecDepth 100000 in
theorem k_Ri_addTurned (l : Launch) (D : va_G) (ct : Nat → ClassId) (ad : Nat → Nat) (hI : gw_inj 424 ad) (x : tS) (tm : Int32) {t kf fs kt ts : Nat} (ht : t < 32) (hkf : tPair kf) (hkt : tPair kt) (hfs : fs + 32 ≤ 64) (hts : ts + 32 ≤ 64) (hle : fs ≤ ts) (hsep : kf ≠ kt ∨ fs + 32 ≤ ts) : gMv l mY_Ri_addTurned mB_Ri_addTurned 11 none (rF 0 0) D (tT ct) gZ0 424 ad (tD ct ad) [.int tm, .int (nI t), .ref (ad kf), .int (nI fs), .ref (ad kt), .int (nI ts)] x (fun x' => ∃ g, x' = tU x kt g ∧ ta_ok (x.1 kt) (fun j => x.1 kf (fs + j)) g tm t ts) := by
  refine gMv_enter (by decide) (Nat.le_of_ble_eq_true rfl) ?_
  intro p e s m below meth c ls hx hb hr htw hown hlocks hml hl hP hK hZ hS
  have hA : ∀ k, k < 424 → gA 424 ad s.heap.size (ad k) := fun _ h => gA_in h
  have hl : lv_has ls 11 [(0, .int tm), (1, .int (nI t)), (2, .ref (ad kf)), (3, .int (nI fs)), (4, .ref (ad kt)), (5, .int (nI ts))] := hl
  have hfr : ∀ (g : Nat → Int32) (n : Nat), fs ≤ n → n < fs + 32 → (∀ j, j < ts → g j = x.1 kt j) → (tU x kt g).1 kf n = x.1 kf n := fun g n h1 h2 h3 => by
    by_cases hq : kf = kt
    · subst hq; rw [tU_1]; exact h3 n (by rcases hsep with h | h; exact absurd rfl h; omega)
    · rw [tU_n hq]
  refine gw_nmQ (fun Q hQ => ?_)
  refine lv_iload_n hx hb mD_Ri_addTurned_0 rfl (lv_at hl 3 rfl) ?_
  refine lv_bipush (v := nI 32) hx hb mD_Ri_addTurned_1 (by decide) ?_
  refine lv_iadd hx hb mD_Ri_addTurned_3 ?_
  refine lv_topi (fun v_ hv_ => ?_)
  rw [show ((nI fs) + (nI 32) : Int32) = nI (fs + 32) from nI_add _ _] at hv_
  subst hv_
  refine lv_istore (lv' := [(6, .int (nI (fs + 32))), (0, .int tm), (1, .int (nI t)), (2, .ref (ad kf)), (3, .int (nI fs)), (4, .ref (ad kt)), (5, .int (nI ts))]) hx hb mD_Ri_addTurned_4 hl (by decide) rfl (fun ls hl => ?_)
  refine lv_iload hx hb mD_Ri_addTurned_6 (lv_at hl 0 rfl) ?_
  refine lv_iload_n hx hb mD_Ri_addTurned_8 rfl (lv_at hl 2 rfl) ?_
  refine lv_isub hx hb mD_Ri_addTurned_9 ?_
  refine lv_topi (fun v_ hv_ => ?_)
  rw [show ((nI (fs + 32)) - (nI t) : Int32) = nI (fs + 32 - t) from pk_sub (by omega)] at hv_
  subst hv_
  refine lv_istore (lv' := [(7, .int (nI (fs + 32 - t))), (6, .int (nI (fs + 32))), (0, .int tm), (1, .int (nI t)), (2, .ref (ad kf)), (3, .int (nI fs)), (4, .ref (ad kt)), (5, .int (nI ts))]) hx hb mD_Ri_addTurned_10 hl (by decide) rfl (fun ls hl => ?_)
  refine lv_iload hx hb mD_Ri_addTurned_12 (lv_at hl 7 rfl) ?_
  refine lv_iload_n hx hb mD_Ri_addTurned_14 rfl (lv_at hl 5 rfl) ?_
  refine lv_isub hx hb mD_Ri_addTurned_15 ?_
  refine lv_iload_n hx hb mD_Ri_addTurned_16 rfl (lv_at hl 3 rfl) ?_
  refine lv_iadd hx hb mD_Ri_addTurned_17 ?_
  refine lv_topi (fun v_ hv_ => ?_)
  rw [show (((nI ts) - (nI fs)) + (nI t) : Int32) = nI (ts - fs + t) from by rw [pk_sub (by omega), nI_add]] at hv_
  subst hv_
  refine lv_istore (lv' := [(8, .int (nI (ts - fs + t))), (7, .int (nI (fs + 32 - t))), (6, .int (nI (fs + 32))), (0, .int tm), (1, .int (nI t)), (2, .ref (ad kf)), (3, .int (nI fs)), (4, .ref (ad kt)), (5, .int (nI ts))]) hx hb mD_Ri_addTurned_18 hl (by decide) rfl (fun ls hl => ?_)
  refine lv_iload hx hb mD_Ri_addTurned_20 (lv_at hl 0 rfl) ?_
  refine lv_bipush (v := nI 32) hx hb mD_Ri_addTurned_22 (by decide) ?_
  refine lv_isub hx hb mD_Ri_addTurned_24 ?_
  refine lv_istore (lv' := [(9, .int ((nI (ts - fs + t)) - (nI 32))), (8, .int (nI (ts - fs + t))), (7, .int (nI (fs + 32 - t))), (6, .int (nI (fs + 32))), (0, .int tm), (1, .int (nI t)), (2, .ref (ad kf)), (3, .int (nI fs)), (4, .ref (ad kt)), (5, .int (nI ts))]) hx hb mD_Ri_addTurned_25 hl (by decide) rfl (fun ls hl => ?_)
  refine lv_iload_n hx hb mD_Ri_addTurned_27 rfl (lv_at hl 7 rfl) ?_
  refine lv_istore (lv' := [(10, .int (nI fs)), (9, .int ((nI (ts - fs + t)) - (nI 32))), (8, .int (nI (ts - fs + t))), (7, .int (nI (fs + 32 - t))), (6, .int (nI (fs + 32))), (0, .int tm), (1, .int (nI t)), (2, .ref (ad kf)), (3, .int (nI fs)), (4, .ref (ad kt)), (5, .int (nI ts))]) hx hb mD_Ri_addTurned_28 hl (by decide) rfl (fun ls hl => ?_)
  have loop1 : ∀ (d : Nat) (n : Nat) (g : Nat → Int32) (H : Heap) (locs : List Loc) (ls : Array Slot), n + d = fs + 32 - t → lv_has ls 11 [(10, .int (nI n)), (9, .int (nI (ts - fs + t) - nI 32)), (8, .int (nI (ts - fs + t))), (7, .int (nI (fs + 32 - t))), (6, .int (nI (fs + 32))), (0, .int tm), (1, .int (nI t)), (2, .ref (ad kf)), (3, .int (nI fs)), (4, .ref (ad kt)), (5, .int (nI ts))] → va_P D cL (gw 424 ad (tD ct ad (tU x kt g))) H → va_S (gA 424 ad s.heap.size) s.heap H locs → (fs ≤ n ∧ ta_1 (x.1 kt) (fun j => x.1 kf (fs + j)) g tm t fs ts n) → W p l e (rF 0 0) s m [.int tm, .int (nI t), .ref (ad kf), .int (nI fs), .ref (ad kt), .int (nI ts)].toArray below meth c H locs 0 0 Q (F0 m 30 ls []) := by
    intro d
    induction d using Nat.strongRecOn with
    | ind d ih =>
      intro n g H locs ls hd hl hP hS hinv
      refine lv_iload hx hb mD_Ri_addTurned_30 (lv_at hl 0 rfl) ?_
      refine lv_iload hx hb mD_Ri_addTurned_32 (lv_at hl 3 rfl) ?_
      refine lv_icmp_ge (tgt := 60) hx hb mD_Ri_addTurned_34 rfl (fun hc => ?_) (fun hc => ?_)
      · skip
        have hn : n = fs + 32 - t := by have := (nI_leI (by omega) (by omega)).mp hc; omega
        subst hn
        refine lv_iload hx hb mD_Ri_addTurned_60 (lv_at hl 3 rfl) ?_
        refine lv_istore (lv' := [(10, .int (nI (fs + 32 - t))), (9, .int (nI (ts - fs + t) - nI 32)), (8, .int (nI (ts - fs + t))), (7, .int (nI (fs + 32 - t))), (6, .int (nI (fs + 32))), (0, .int tm), (1, .int (nI t)), (2, .ref (ad kf)), (3, .int (nI fs)), (4, .ref (ad kt)), (5, .int (nI ts))]) hx hb mD_Ri_addTurned_62 hl (by decide) rfl (fun ls hl => ?_)
        have loop2 : ∀ (d : Nat) (n : Nat) (g : Nat → Int32) (H : Heap) (locs : List Loc) (ls : Array Slot), n + d = fs + 32 → lv_has ls 11 [(10, .int (nI n)), (9, .int (nI (ts - fs + t) - nI 32)), (8, .int (nI (ts - fs + t))), (7, .int (nI (fs + 32 - t))), (6, .int (nI (fs + 32))), (0, .int tm), (1, .int (nI t)), (2, .ref (ad kf)), (3, .int (nI fs)), (4, .ref (ad kt)), (5, .int (nI ts))] → va_P D cL (gw 424 ad (tD ct ad (tU x kt g))) H → va_S (gA 424 ad s.heap.size) s.heap H locs → (fs + 32 - t ≤ n ∧ ta_2 (x.1 kt) (fun j => x.1 kf (fs + j)) g tm t fs ts n) → W p l e (rF 0 0) s m [.int tm, .int (nI t), .ref (ad kf), .int (nI fs), .ref (ad kt), .int (nI ts)].toArray below meth c H locs 0 0 Q (F0 m 64 ls []) := by
          intro d
          induction d using Nat.strongRecOn with
          | ind d ih2 =>
            intro n g H locs ls hd hl hP hS hinv
            refine lv_iload hx hb mD_Ri_addTurned_64 (lv_at hl 0 rfl) ?_
            refine lv_iload hx hb mD_Ri_addTurned_66 (lv_at hl 4 rfl) ?_
            refine lv_icmp_ge (tgt := 94) hx hb mD_Ri_addTurned_68 rfl (fun hc => ?_) (fun hc => ?_)
            · skip
              have hn : n = fs + 32 := by have := (nI_leI (by omega) (by omega)).mp hc; omega
              subst hn
              subst hQ
              exact gw_vret hx hb hr hlocks hP hS (⟨g, rfl, ta_end ht hinv.2⟩) mD_Ri_addTurned_94 (Nat.zero_le _) (Nat.zero_le _)
            · skip
              have hn : n < fs + 32 := Nat.not_le.mp (fun q => hc ((nI_leI (by omega) (by omega)).mpr q))
              refine lv_aload hx hb mD_Ri_addTurned_71 (lv_at hl 9 rfl) ?_
              refine lv_iload hx hb mD_Ri_addTurned_73 (lv_at hl 0 rfl) ?_
              refine lv_iload hx hb mD_Ri_addTurned_75 (lv_at hl 1 rfl) ?_
              refine lv_iadd hx hb mD_Ri_addTurned_77 ?_
              refine lv_dup2_11 hx hb mD_Ri_addTurned_78 rfl rfl ?_
              refine t_iald hx hb hK hP kt 64 (tPair_lt hkt) (tE_pair hkt) ((ts + (n - (fs + 32 - t)))) (tn_back (by omega) (by omega)) (by omega) (by decide) mD_Ri_addTurned_79 ?_
              refine lv_iload_n hx hb mD_Ri_addTurned_80 rfl (lv_at hl 5 rfl) ?_
              refine lv_aload_n hx hb mD_Ri_addTurned_81 rfl (lv_at hl 7 rfl) ?_
              refine lv_iload hx hb mD_Ri_addTurned_82 (lv_at hl 0 rfl) ?_
              refine t_iald hx hb hK hP kf 64 (tPair_lt hkf) (tE_pair hkf) n rfl (by omega) (by decide) mD_Ri_addTurned_84 ?_
              refine lv_imul hx hb mD_Ri_addTurned_85 ?_
              refine lv_isub hx hb mD_Ri_addTurned_86 ?_
              refine t_iast hx hb hK hI hA hP hS kt 64 (tPair_lt hkt) (fun _ => tE_pair hkt) ((ts + (n - (fs + 32 - t)))) (tn_back (by omega) (by omega)) (by omega) (by decide) mD_Ri_addTurned_87 (fun H locs hP hS => ?_)
              obtain ⟨x1, hx1⟩ : ∃ z, z = tU (tU x kt g) kt (upd ((tU x kt g).1 kt) ((ts + (n - (fs + 32 - t)))) (((tU x kt g).1 kt ((ts + (n - (fs + 32 - t))))) - (tm * ((tU x kt g).1 kf n)))) := ⟨_, rfl⟩
              rw [← hx1] at hP
              refine lv_iinc (k := 0) (v := nI (n + 1)) (lv' := [(10, .int (nI (n + 1))), (9, .int (nI (ts - fs + t) - nI 32)), (8, .int (nI (ts - fs + t))), (7, .int (nI (fs + 32 - t))), (6, .int (nI (fs + 32))), (0, .int tm), (1, .int (nI t)), (2, .ref (ad kf)), (3, .int (nI fs)), (4, .ref (ad kt)), (5, .int (nI ts))]) hx hb mD_Ri_addTurned_88 hl rfl (by rw [lit1, nI_1]) (by decide) rfl (fun ls hl => ?_)
              refine lv_goto (tgt := 64) hx hb mD_Ri_addTurned_91 rfl ?_
              exact ih2 (d - 1) (by omega) (n + 1) (upd g (ts + (n - (fs + 32 - t))) (g (ts + (n - (fs + 32 - t))) - tm * x.1 kf (fs + (n - fs)))) H locs ls (by omega) (lv_sub hl [0, 1, 2, 3, 4, 5, 6, 7, 8, 9, 10] rfl) (by rw [hx1, tU_U, tU_1, hfr g n (by omega) (by omega) (ta_lo2 hinv.2)] at hP; rw [show fs + (n - fs) = n by omega]; exact hP) hS ⟨by omega, ta_2s hinv.2 (by omega) hinv.1 (by omega) rfl⟩
        exact loop2 t (fs + 32 - t) g H locs ls (by omega) hl hP hS ⟨Nat.le_refl _, ta_12 (by omega) hinv.2⟩
      · skip
        have hn : n < fs + 32 - t := Nat.not_le.mp (fun q => hc ((nI_leI (by omega) (by omega)).mpr q))
        refine lv_aload hx hb mD_Ri_addTurned_37 (lv_at hl 9 rfl) ?_
        refine lv_iload hx hb mD_Ri_addTurned_39 (lv_at hl 0 rfl) ?_
        refine lv_iload hx hb mD_Ri_addTurned_41 (lv_at hl 2 rfl) ?_
        refine lv_iadd hx hb mD_Ri_addTurned_43 ?_
        refine lv_dup2_11 hx hb mD_Ri_addTurned_44 rfl rfl ?_
        refine t_iald hx hb hK hP kt 64 (tPair_lt hkt) (tE_pair hkt) ((ts + t + (n - fs))) (by rw [nI_add]; congr 1; omega) (by omega) (by decide) mD_Ri_addTurned_45 ?_
        refine lv_iload_n hx hb mD_Ri_addTurned_46 rfl (lv_at hl 5 rfl) ?_
        refine lv_aload_n hx hb mD_Ri_addTurned_47 rfl (lv_at hl 7 rfl) ?_
        refine lv_iload hx hb mD_Ri_addTurned_48 (lv_at hl 0 rfl) ?_
        refine t_iald hx hb hK hP kf 64 (tPair_lt hkf) (tE_pair hkf) n rfl (by omega) (by decide) mD_Ri_addTurned_50 ?_
        refine lv_imul hx hb mD_Ri_addTurned_51 ?_
        refine lv_iadd hx hb mD_Ri_addTurned_52 ?_
        refine t_iast hx hb hK hI hA hP hS kt 64 (tPair_lt hkt) (fun _ => tE_pair hkt) ((ts + t + (n - fs))) (by rw [nI_add]; congr 1; omega) (by omega) (by decide) mD_Ri_addTurned_53 (fun H locs hP hS => ?_)
        obtain ⟨x2, hx2⟩ : ∃ z, z = tU (tU x kt g) kt (upd ((tU x kt g).1 kt) ((ts + t + (n - fs))) (((tU x kt g).1 kt ((ts + t + (n - fs)))) + (tm * ((tU x kt g).1 kf n)))) := ⟨_, rfl⟩
        rw [← hx2] at hP
        refine lv_iinc (k := 0) (v := nI (n + 1)) (lv' := [(10, .int (nI (n + 1))), (9, .int (nI (ts - fs + t) - nI 32)), (8, .int (nI (ts - fs + t))), (7, .int (nI (fs + 32 - t))), (6, .int (nI (fs + 32))), (0, .int tm), (1, .int (nI t)), (2, .ref (ad kf)), (3, .int (nI fs)), (4, .ref (ad kt)), (5, .int (nI ts))]) hx hb mD_Ri_addTurned_54 hl rfl (by rw [lit1, nI_1]) (by decide) rfl (fun ls hl => ?_)
        refine lv_goto (tgt := 30) hx hb mD_Ri_addTurned_57 rfl ?_
        exact ih (d - 1) (by omega) (n + 1) (upd g (ts + t + (n - fs)) (g (ts + t + (n - fs)) + tm * x.1 kf (fs + (n - fs)))) H locs ls (by omega) (lv_sub hl [0, 1, 2, 3, 4, 5, 6, 7, 8, 9, 10] rfl) (by rw [hx2, tU_U, tU_1, hfr g n hinv.1 (by omega) (ta_lo1 hinv.2)] at hP; rw [show fs + (n - fs) = n by omega]; exact hP) hS ⟨by omega, ta_1s hinv.2 hinv.1 rfl⟩
  exact loop1 (32 - t) fs (x.1 kt) _ _ _ (by omega) hl (by rw [tU_self]; exact hP) hS ⟨Nat.le_refl _, fun j => by rw [if_neg (by omega)]⟩
