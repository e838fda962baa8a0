/-! TorusGates' own private methods. Laid by wip/whole/part_tg1.py. -/
def tBi (z : Bool) : Int32 := if z then 1 else 0
theorem tBi_bit (z : Bool) : tp_bit (tBi z) := by
  cases z
  · exact Or.inl rfl
  · exact Or.inr rfl
theorem tBi_inj {a b : Bool} (h : tBi a = tBi b) : a = b := by
  cases a <;> cases b <;> first | rfl | (exact absurd h (by decide))
theorem tl_lt (x y : Int64) : lg_cmp x y < 0 ↔ x.toInt < y.toInt := by
  have h := lg_cmp_ge x y
  rw [← Int64.lt_iff_toInt_lt]
  constructor
  · intro q
    exact Int64.not_le.mp (fun z => Int32.not_le.mpr q (h.mpr z))
  · intro q
    exact Int32.not_le.mp (fun z => Int64.not_le.mpr q (h.mp z))
theorem tl_toInt {n : Nat} (h : n < 2 ^ 62) : (lN n).toInt = (n : Int) := lg_ofNat_toInt (by omega)
theorem tl_ltn {n m : Nat} {y : Int64} (h : n < 2 ^ 62) (hy : y.toInt = (m : Int)) : lg_cmp (lN n) y < 0 ↔ n < m := by
  rw [tl_lt, tl_toInt h, hy]
  omega
theorem tl_far2 {g b1 b2 : Nat} {v1 v2 : Int32} (e1 : v1 = nI b1) (e2 : v2 = nI b2) (l1 : b1 < 1073741824) (l2 : b2 < 1073741824) (hg : g = 4 ∨ g = 5) : lg_cmp ((2 : Int64) * (v1.toInt64 + v2.toInt64)) (771751936 : Int64) < 0 ↔ ¬ tp_far g b1 b2 := by
  rw [e1, e2, nI_l (by omega), nI_l (by omega), lN_add, show (2 : Int64) = lN 2 from rfl, lN_mul, tl_ltn (m := 771751936) (by omega) (by decide)]
  unfold tp_far
  rw [if_pos hg]
  omega
theorem tl_far1 {g b1 b2 : Nat} {v1 v2 : Int32} (e1 : v1 = nI b1) (e2 : v2 = nI b2) (l1 : b1 < 1073741824) (l2 : b2 < 1073741824) (hg : ¬ (g = 4 ∨ g = 5)) : lg_cmp (v1.toInt64 + v2.toInt64) (234881024 : Int64) < 0 ↔ ¬ tp_far g b1 b2 := by
  rw [e1, e2, nI_l (by omega), nI_l (by omega), lN_add, tl_ltn (m := 234881024) (by omega) (by decide)]
  unfold tp_far
  rw [if_neg hg]
  omega

set_option maxHeartbeats 4000000 in
set_option maxRecDepth 100000 in
theorem k_TG_placeFor (l : Launch) (D : va_G) (ct : Nat → ClassId) (ad : Nat → Nat) (hI : gw_inj 424 ad) (x : tS) (z : Bool) : gMi l mY_TG_placeFor mB_TG_placeFor 1 (some .int) (rF 0 0) D (tT ct) gZ0 424 ad (tD ct ad) [.int (tBi z)] x (fun r x' => x' = x ∧ r = tp_pl z) := by
  refine gMi_enter (by decide) (Nat.le_of_ble_eq_true rfl) ?_
  intro p e s m below meth c ls hx hb hr htw hown hlocks hml hl hP hK hZ hS
  have hA : ∀ k, k < 424 → gA 424 ad s.heap.size (ad k) := fun _ h => gA_in h
  have hl : lv_has ls 1 [(0, .int (tBi z))] := hl
  refine lv_iload_n hx hb mD_TG_placeFor_0 rfl (lv_at hl 0 rfl) ?_
  refine lv_if_eq (tgt := 10) hx hb mD_TG_placeFor_1 rfl (fun hc => ?_) (fun hc => ?_)
  · skip
    have hz : z = false := by cases z; rfl; exact absurd hc (by decide)
    subst hz
    refine lv_ldcw hx hb hown (htw _ ww_371) mD_TG_placeFor_10 ?_
    exact gw_iret hx hb hr hlocks hP hS (⟨rfl, rfl⟩) mD_TG_placeFor_13 (Nat.zero_le _) (Nat.zero_le _)
  · skip
    have hz : z = true := by cases z; exact absurd rfl hc; rfl
    subst hz
    refine lv_ldcw hx hb hown (htw _ ww_370) mD_TG_placeFor_4 ?_
    refine lv_goto (tgt := 13) hx hb mD_TG_placeFor_7 rfl ?_
    exact gw_iret hx hb hr hlocks hP hS (⟨rfl, rfl⟩) mD_TG_placeFor_13 (Nat.zero_le _) (Nat.zero_le _)

set_option maxHeartbeats 4000000 in
set_option maxRecDepth 100000 in
theorem k_TG_truth (l : Launch) (D : va_G) (ct : Nat → ClassId) (ad : Nat → Nat) (hI : gw_inj 424 ad) (x : tS) {gt : Nat} (hgt : gt < 8) (z1 z2 : Bool) : gMi l mY_TG_truth mB_TG_truth 3 (some .boolean) (rF 0 0) D (tT ct) gZ0 424 ad (tD ct ad) [.int (nI gt), .int (tBi z1), .int (tBi z2)] x (fun r x' => x' = x ∧ r = tBi (tp_truth gt z1 z2)) := by
  refine gMi_enter (by decide) (Nat.le_of_ble_eq_true rfl) ?_
  intro p e s m below meth c ls hx hb hr htw hown hlocks hml hl hP hK hZ hS
  have hA : ∀ k, k < 424 → gA 424 ad s.heap.size (ad k) := fun _ h => gA_in h
  have hl : lv_has ls 3 [(0, .int (nI gt)), (1, .int (tBi z1)), (2, .int (tBi z2))] := hl
  refine lv_iload_n hx hb mD_TG_truth_0 rfl (lv_at hl 0 rfl) ?_
  rcases (show gt = 0 ∨ gt = 1 ∨ gt = 2 ∨ gt = 3 ∨ gt = 4 ∨ gt = 5 ∨ gt = 6 ∨ gt = 7 by omega) with rfl | rfl | rfl | rfl | rfl | rfl | rfl | rfl
  · skip
    refine lv_tableIn (tgt := 44) hx hb mD_TG_truth_1 (by decide) (by decide) rfl rfl ?_
    refine lv_iload_n hx hb mD_TG_truth_44 rfl (lv_at hl 1 rfl) ?_
    refine lv_if_eq (tgt := 56) hx hb mD_TG_truth_45 rfl (fun h45 => ?_) (fun h45 => ?_)
    · skip
      refine lv_iconst (v := nI 0) hx hb mD_TG_truth_56 (by decide) ?_
      exact gw_zret hx hb hr hlocks hP hS rfl (⟨rfl, by cases z1 <;> cases z2 <;> simp_all [tBi, tp_truth, nI]⟩) mD_TG_truth_57 (Nat.zero_le _) (Nat.zero_le _)
    · skip
      refine lv_iload_n hx hb mD_TG_truth_48 rfl (lv_at hl 2 rfl) ?_
      refine lv_if_eq (tgt := 56) hx hb mD_TG_truth_49 rfl (fun h49 => ?_) (fun h49 => ?_)
      · skip
        refine lv_iconst (v := nI 0) hx hb mD_TG_truth_56 (by decide) ?_
        exact gw_zret hx hb hr hlocks hP hS rfl (⟨rfl, by cases z1 <;> cases z2 <;> simp_all [tBi, tp_truth, nI]⟩) mD_TG_truth_57 (Nat.zero_le _) (Nat.zero_le _)
      · skip
        refine lv_iconst (v := nI 1) hx hb mD_TG_truth_52 (by decide) ?_
        refine lv_goto (tgt := 57) hx hb mD_TG_truth_53 rfl ?_
        exact gw_zret hx hb hr hlocks hP hS rfl (⟨rfl, by cases z1 <;> cases z2 <;> simp_all [tBi, tp_truth, nI]⟩) mD_TG_truth_57 (Nat.zero_le _) (Nat.zero_le _)
  · skip
    refine lv_tableIn (tgt := 58) hx hb mD_TG_truth_1 (by decide) (by decide) rfl rfl ?_
    refine lv_iload_n hx hb mD_TG_truth_58 rfl (lv_at hl 1 rfl) ?_
    refine lv_if_ne (tgt := 66) hx hb mD_TG_truth_59 rfl (fun h59 => ?_) (fun h59 => ?_)
    · skip
      refine lv_iconst (v := nI 1) hx hb mD_TG_truth_66 (by decide) ?_
      refine lv_goto (tgt := 71) hx hb mD_TG_truth_67 rfl ?_
      exact gw_zret hx hb hr hlocks hP hS rfl (⟨rfl, by cases z1 <;> cases z2 <;> simp_all [tBi, tp_truth, nI]⟩) mD_TG_truth_71 (Nat.zero_le _) (Nat.zero_le _)
    · skip
      refine lv_iload_n hx hb mD_TG_truth_62 rfl (lv_at hl 2 rfl) ?_
      refine lv_if_eq (tgt := 70) hx hb mD_TG_truth_63 rfl (fun h63 => ?_) (fun h63 => ?_)
      · skip
        refine lv_iconst (v := nI 0) hx hb mD_TG_truth_70 (by decide) ?_
        exact gw_zret hx hb hr hlocks hP hS rfl (⟨rfl, by cases z1 <;> cases z2 <;> simp_all [tBi, tp_truth, nI]⟩) mD_TG_truth_71 (Nat.zero_le _) (Nat.zero_le _)
      · skip
        refine lv_iconst (v := nI 1) hx hb mD_TG_truth_66 (by decide) ?_
        refine lv_goto (tgt := 71) hx hb mD_TG_truth_67 rfl ?_
        exact gw_zret hx hb hr hlocks hP hS rfl (⟨rfl, by cases z1 <;> cases z2 <;> simp_all [tBi, tp_truth, nI]⟩) mD_TG_truth_71 (Nat.zero_le _) (Nat.zero_le _)
  · skip
    refine lv_tableIn (tgt := 72) hx hb mD_TG_truth_1 (by decide) (by decide) rfl rfl ?_
    refine lv_iload_n hx hb mD_TG_truth_72 rfl (lv_at hl 1 rfl) ?_
    refine lv_if_eq (tgt := 80) hx hb mD_TG_truth_73 rfl (fun h73 => ?_) (fun h73 => ?_)
    · skip
      refine lv_iconst (v := nI 1) hx hb mD_TG_truth_80 (by decide) ?_
      refine lv_goto (tgt := 85) hx hb mD_TG_truth_81 rfl ?_
      exact gw_zret hx hb hr hlocks hP hS rfl (⟨rfl, by cases z1 <;> cases z2 <;> simp_all [tBi, tp_truth, nI]⟩) mD_TG_truth_85 (Nat.zero_le _) (Nat.zero_le _)
    · skip
      refine lv_iload_n hx hb mD_TG_truth_76 rfl (lv_at hl 2 rfl) ?_
      refine lv_if_ne (tgt := 84) hx hb mD_TG_truth_77 rfl (fun h77 => ?_) (fun h77 => ?_)
      · skip
        refine lv_iconst (v := nI 0) hx hb mD_TG_truth_84 (by decide) ?_
        exact gw_zret hx hb hr hlocks hP hS rfl (⟨rfl, by cases z1 <;> cases z2 <;> simp_all [tBi, tp_truth, nI]⟩) mD_TG_truth_85 (Nat.zero_le _) (Nat.zero_le _)
      · skip
        refine lv_iconst (v := nI 1) hx hb mD_TG_truth_80 (by decide) ?_
        refine lv_goto (tgt := 85) hx hb mD_TG_truth_81 rfl ?_
        exact gw_zret hx hb hr hlocks hP hS rfl (⟨rfl, by cases z1 <;> cases z2 <;> simp_all [tBi, tp_truth, nI]⟩) mD_TG_truth_85 (Nat.zero_le _) (Nat.zero_le _)
  · skip
    refine lv_tableIn (tgt := 86) hx hb mD_TG_truth_1 (by decide) (by decide) rfl rfl ?_
    refine lv_iload_n hx hb mD_TG_truth_86 rfl (lv_at hl 1 rfl) ?_
    refine lv_if_ne (tgt := 98) hx hb mD_TG_truth_87 rfl (fun h87 => ?_) (fun h87 => ?_)
    · skip
      refine lv_iconst (v := nI 0) hx hb mD_TG_truth_98 (by decide) ?_
      exact gw_zret hx hb hr hlocks hP hS rfl (⟨rfl, by cases z1 <;> cases z2 <;> simp_all [tBi, tp_truth, nI]⟩) mD_TG_truth_99 (Nat.zero_le _) (Nat.zero_le _)
    · skip
      refine lv_iload_n hx hb mD_TG_truth_90 rfl (lv_at hl 2 rfl) ?_
      refine lv_if_ne (tgt := 98) hx hb mD_TG_truth_91 rfl (fun h91 => ?_) (fun h91 => ?_)
      · skip
        refine lv_iconst (v := nI 0) hx hb mD_TG_truth_98 (by decide) ?_
        exact gw_zret hx hb hr hlocks hP hS rfl (⟨rfl, by cases z1 <;> cases z2 <;> simp_all [tBi, tp_truth, nI]⟩) mD_TG_truth_99 (Nat.zero_le _) (Nat.zero_le _)
      · skip
        refine lv_iconst (v := nI 1) hx hb mD_TG_truth_94 (by decide) ?_
        refine lv_goto (tgt := 99) hx hb mD_TG_truth_95 rfl ?_
        exact gw_zret hx hb hr hlocks hP hS rfl (⟨rfl, by cases z1 <;> cases z2 <;> simp_all [tBi, tp_truth, nI]⟩) mD_TG_truth_99 (Nat.zero_le _) (Nat.zero_le _)
  · skip
    refine lv_tableIn (tgt := 100) hx hb mD_TG_truth_1 (by decide) (by decide) rfl rfl ?_
    refine lv_iload_n hx hb mD_TG_truth_100 rfl (lv_at hl 1 rfl) ?_
    refine lv_iload_n hx hb mD_TG_truth_101 rfl (lv_at hl 2 rfl) ?_
    refine lv_icmp_eq (tgt := 109) hx hb mD_TG_truth_102 rfl (fun h102 => ?_) (fun h102 => ?_)
    · skip
      refine lv_iconst (v := nI 0) hx hb mD_TG_truth_109 (by decide) ?_
      exact gw_zret hx hb hr hlocks hP hS rfl (⟨rfl, by cases z1 <;> cases z2 <;> simp_all [tBi, tp_truth, nI]⟩) mD_TG_truth_110 (Nat.zero_le _) (Nat.zero_le _)
    · skip
      refine lv_iconst (v := nI 1) hx hb mD_TG_truth_105 (by decide) ?_
      refine lv_goto (tgt := 110) hx hb mD_TG_truth_106 rfl ?_
      exact gw_zret hx hb hr hlocks hP hS rfl (⟨rfl, by cases z1 <;> cases z2 <;> simp_all [tBi, tp_truth, nI]⟩) mD_TG_truth_110 (Nat.zero_le _) (Nat.zero_le _)
  · skip
    refine lv_tableIn (tgt := 111) hx hb mD_TG_truth_1 (by decide) (by decide) rfl rfl ?_
    refine lv_iload_n hx hb mD_TG_truth_111 rfl (lv_at hl 1 rfl) ?_
    refine lv_iload_n hx hb mD_TG_truth_112 rfl (lv_at hl 2 rfl) ?_
    refine lv_icmp_ne (tgt := 120) hx hb mD_TG_truth_113 rfl (fun h113 => ?_) (fun h113 => ?_)
    · skip
      refine lv_iconst (v := nI 0) hx hb mD_TG_truth_120 (by decide) ?_
      exact gw_zret hx hb hr hlocks hP hS rfl (⟨rfl, by cases z1 <;> cases z2 <;> simp_all [tBi, tp_truth, nI]⟩) mD_TG_truth_121 (Nat.zero_le _) (Nat.zero_le _)
    · skip
      refine lv_iconst (v := nI 1) hx hb mD_TG_truth_116 (by decide) ?_
      refine lv_goto (tgt := 121) hx hb mD_TG_truth_117 rfl ?_
      exact gw_zret hx hb hr hlocks hP hS rfl (⟨rfl, by cases z1 <;> cases z2 <;> simp_all [tBi, tp_truth, nI]⟩) mD_TG_truth_121 (Nat.zero_le _) (Nat.zero_le _)
  · skip
    refine lv_tableIn (tgt := 122) hx hb mD_TG_truth_1 (by decide) (by decide) rfl rfl ?_
    refine lv_iload_n hx hb mD_TG_truth_122 rfl (lv_at hl 1 rfl) ?_
    refine lv_if_eq (tgt := 134) hx hb mD_TG_truth_123 rfl (fun h123 => ?_) (fun h123 => ?_)
    · skip
      refine lv_iconst (v := nI 0) hx hb mD_TG_truth_134 (by decide) ?_
      exact gw_zret hx hb hr hlocks hP hS rfl (⟨rfl, by cases z1 <;> cases z2 <;> simp_all [tBi, tp_truth, nI]⟩) mD_TG_truth_135 (Nat.zero_le _) (Nat.zero_le _)
    · skip
      refine lv_iload_n hx hb mD_TG_truth_126 rfl (lv_at hl 2 rfl) ?_
      refine lv_if_ne (tgt := 134) hx hb mD_TG_truth_127 rfl (fun h127 => ?_) (fun h127 => ?_)
      · skip
        refine lv_iconst (v := nI 0) hx hb mD_TG_truth_134 (by decide) ?_
        exact gw_zret hx hb hr hlocks hP hS rfl (⟨rfl, by cases z1 <;> cases z2 <;> simp_all [tBi, tp_truth, nI]⟩) mD_TG_truth_135 (Nat.zero_le _) (Nat.zero_le _)
      · skip
        refine lv_iconst (v := nI 1) hx hb mD_TG_truth_130 (by decide) ?_
        refine lv_goto (tgt := 135) hx hb mD_TG_truth_131 rfl ?_
        exact gw_zret hx hb hr hlocks hP hS rfl (⟨rfl, by cases z1 <;> cases z2 <;> simp_all [tBi, tp_truth, nI]⟩) mD_TG_truth_135 (Nat.zero_le _) (Nat.zero_le _)
  · skip
    refine lv_tableOut (tgt := 136) hx hb mD_TG_truth_1 (by decide) rfl ?_
    refine lv_iload_n hx hb mD_TG_truth_136 rfl (lv_at hl 1 rfl) ?_
    refine lv_if_ne (tgt := 144) hx hb mD_TG_truth_137 rfl (fun h137 => ?_) (fun h137 => ?_)
    · skip
      refine lv_iconst (v := nI 1) hx hb mD_TG_truth_144 (by decide) ?_
      refine lv_goto (tgt := 149) hx hb mD_TG_truth_145 rfl ?_
      exact gw_zret hx hb hr hlocks hP hS rfl (⟨rfl, by cases z1 <;> cases z2 <;> simp_all [tBi, tp_truth, nI]⟩) mD_TG_truth_149 (Nat.zero_le _) (Nat.zero_le _)
    · skip
      refine lv_iload_n hx hb mD_TG_truth_140 rfl (lv_at hl 2 rfl) ?_
      refine lv_if_ne (tgt := 148) hx hb mD_TG_truth_141 rfl (fun h141 => ?_) (fun h141 => ?_)
      · skip
        refine lv_iconst (v := nI 0) hx hb mD_TG_truth_148 (by decide) ?_
        exact gw_zret hx hb hr hlocks hP hS rfl (⟨rfl, by cases z1 <;> cases z2 <;> simp_all [tBi, tp_truth, nI]⟩) mD_TG_truth_149 (Nat.zero_le _) (Nat.zero_le _)
      · skip
        refine lv_iconst (v := nI 1) hx hb mD_TG_truth_144 (by decide) ?_
        refine lv_goto (tgt := 149) hx hb mD_TG_truth_145 rfl ?_
        exact gw_zret hx hb hr hlocks hP hS rfl (⟨rfl, by cases z1 <;> cases z2 <;> simp_all [tBi, tp_truth, nI]⟩) mD_TG_truth_149 (Nat.zero_le _) (Nat.zero_le _)

set_option maxHeartbeats 4000000 in
set_option maxRecDepth 100000 in
theorem k_TG_isTooFar (l : Launch) (D : va_G) (ct : Nat → ClassId) (ad : Nat → Nat) (hI : gw_inj 424 ad) (x : tS) {gt k1 k2 b1 b2 : Nat} (hgt : gt < 8) (hk1 : tCe k1) (hk2 : tCe k2) (e1 : x.1 k1 1 = nI b1) (e2 : x.1 k2 1 = nI b2) (l1 : b1 < 1073741824) (l2 : b2 < 1073741824) : gMi l mY_TG_isTooFar mB_TG_isTooFar 5 (some .boolean) (rF 0 0) D (tT ct) gZ0 424 ad (tD ct ad) [.int (nI gt), .ref (ad k1), .ref (ad k2)] x (fun r x' => x' = x ∧ ((r = nI 1 ∧ tp_far gt b1 b2) ∨ (r = nI 0 ∧ ¬ tp_far gt b1 b2))) := by
  refine gMi_enter (by decide) (Nat.le_of_ble_eq_true rfl) ?_
  intro p e s m below meth c ls hx hb hr htw hown hlocks hml hl hP hK hZ hS
  have hA : ∀ k, k < 424 → gA 424 ad s.heap.size (ad k) := fun _ h => gA_in h
  have hl : lv_has ls 5 [(0, .int (nI gt)), (1, .ref (ad k1)), (2, .ref (ad k2))] := hl
  refine lv_aload_n hx hb mD_TG_isTooFar_0 rfl (lv_at hl 1 rfl) ?_
  refine t_get (C := cN_Ce) (T := cF_Ce) (N := 4) (ci := 0) hx hb htw wU_Ce hown hK hP k1 (tCe_lt hk1) (tE_cell hk1) rfl 1 (by decide) rfl ww_125 rfl mD_TG_isTooFar_1 ?_
  refine lv_i2l hx hb mD_TG_isTooFar_4 rfl ?_
  refine lv_aload_n hx hb mD_TG_isTooFar_5 rfl (lv_at hl 2 rfl) ?_
  refine t_get (C := cN_Ce) (T := cF_Ce) (N := 4) (ci := 0) hx hb htw wU_Ce hown hK hP k2 (tCe_lt hk2) (tE_cell hk2) rfl 1 (by decide) rfl ww_125 rfl mD_TG_isTooFar_6 ?_
  refine lv_i2l hx hb mD_TG_isTooFar_9 rfl ?_
  refine lv_ladd hx hb mD_TG_isTooFar_10 ?_
  refine lv_lstore_n (lv' := [(3, .long (((x.1 k1 1).toInt64) + ((x.1 k2 1).toInt64))), (0, .int (nI gt)), (1, .ref (ad k1)), (2, .ref (ad k2))]) hx hb mD_TG_isTooFar_11 rfl hl (by decide) rfl (fun ls hl => ?_)
  refine lv_iload_n hx hb mD_TG_isTooFar_12 rfl (lv_at hl 1 rfl) ?_
  refine lv_iconst (v := nI 4) hx hb mD_TG_isTooFar_13 (by decide) ?_
  refine lv_icmp_eq (tgt := 22) hx hb mD_TG_isTooFar_14 rfl (fun h4 => ?_) (fun h4 => ?_)
  · skip
    refine lv_ldc2 hx hb hown (htw _ ww_493) mD_TG_isTooFar_22 ?_
    refine lv_lload_n hx hb mD_TG_isTooFar_25 rfl (lv_at hl 0 rfl) ?_
    refine lv_lmul hx hb mD_TG_isTooFar_26 ?_
    refine lv_ldc2 hx hb hown (htw _ ww_494) mD_TG_isTooFar_27 ?_
    refine W.lcmp hx hb mD_TG_isTooFar_30 ?_
    refine lv_if_lt (tgt := 38) hx hb mD_TG_isTooFar_31 rfl (fun h7 => ?_) (fun h7 => ?_)
    · skip
      refine lv_iconst (v := nI 0) hx hb mD_TG_isTooFar_38 (by decide) ?_
      exact gw_zret hx hb hr hlocks hP hS rfl (⟨rfl, by first | exact Or.inr ⟨rfl, (tl_far2 e1 e2 l1 l2 (by first | exact Or.inl ((nI_eq (by omega) (by omega)).mp h4) | exact Or.inr ((nI_eq (by omega) (by omega)).mp h5))).mp h7⟩ | exact Or.inl ⟨rfl, Classical.not_not.mp (fun q => h7 ((tl_far2 e1 e2 l1 l2 (by first | exact Or.inl ((nI_eq (by omega) (by omega)).mp h4) | exact Or.inr ((nI_eq (by omega) (by omega)).mp h5))).mpr q))⟩⟩) mD_TG_isTooFar_39 (Nat.zero_le _) (Nat.zero_le _)
    · skip
      refine lv_iconst (v := nI 1) hx hb mD_TG_isTooFar_34 (by decide) ?_
      refine lv_goto (tgt := 39) hx hb mD_TG_isTooFar_35 rfl ?_
      exact gw_zret hx hb hr hlocks hP hS rfl (⟨rfl, by first | exact Or.inr ⟨rfl, (tl_far2 e1 e2 l1 l2 (by first | exact Or.inl ((nI_eq (by omega) (by omega)).mp h4) | exact Or.inr ((nI_eq (by omega) (by omega)).mp h5))).mp h7⟩ | exact Or.inl ⟨rfl, Classical.not_not.mp (fun q => h7 ((tl_far2 e1 e2 l1 l2 (by first | exact Or.inl ((nI_eq (by omega) (by omega)).mp h4) | exact Or.inr ((nI_eq (by omega) (by omega)).mp h5))).mpr q))⟩⟩) mD_TG_isTooFar_39 (Nat.zero_le _) (Nat.zero_le _)
  · skip
    refine lv_iload_n hx hb mD_TG_isTooFar_17 rfl (lv_at hl 1 rfl) ?_
    refine lv_iconst (v := nI 5) hx hb mD_TG_isTooFar_18 (by decide) ?_
    refine lv_icmp_ne (tgt := 40) hx hb mD_TG_isTooFar_19 rfl (fun h5 => ?_) (fun h5 => ?_)
    · skip
      refine lv_lload_n hx hb mD_TG_isTooFar_40 rfl (lv_at hl 0 rfl) ?_
      refine lv_ldc2 hx hb hown (htw _ ww_495) mD_TG_isTooFar_41 ?_
      refine W.lcmp hx hb mD_TG_isTooFar_44 ?_
      refine lv_if_lt (tgt := 52) hx hb mD_TG_isTooFar_45 rfl (fun h7 => ?_) (fun h7 => ?_)
      · skip
        refine lv_iconst (v := nI 0) hx hb mD_TG_isTooFar_52 (by decide) ?_
        exact gw_zret hx hb hr hlocks hP hS rfl (⟨rfl, by first | exact Or.inr ⟨rfl, (tl_far1 e1 e2 l1 l2 (fun q => by rcases q with q | q; exact h4 (by rw [q]); exact h5 (by rw [q]))).mp h7⟩ | exact Or.inl ⟨rfl, Classical.not_not.mp (fun q => h7 ((tl_far1 e1 e2 l1 l2 (fun q => by rcases q with q | q; exact h4 (by rw [q]); exact h5 (by rw [q]))).mpr q))⟩⟩) mD_TG_isTooFar_53 (Nat.zero_le _) (Nat.zero_le _)
      · skip
        refine lv_iconst (v := nI 1) hx hb mD_TG_isTooFar_48 (by decide) ?_
        refine lv_goto (tgt := 53) hx hb mD_TG_isTooFar_49 rfl ?_
        exact gw_zret hx hb hr hlocks hP hS rfl (⟨rfl, by first | exact Or.inr ⟨rfl, (tl_far1 e1 e2 l1 l2 (fun q => by rcases q with q | q; exact h4 (by rw [q]); exact h5 (by rw [q]))).mp h7⟩ | exact Or.inl ⟨rfl, Classical.not_not.mp (fun q => h7 ((tl_far1 e1 e2 l1 l2 (fun q => by rcases q with q | q; exact h4 (by rw [q]); exact h5 (by rw [q]))).mpr q))⟩⟩) mD_TG_isTooFar_53 (Nat.zero_le _) (Nat.zero_le _)
    · skip
      refine lv_ldc2 hx hb hown (htw _ ww_493) mD_TG_isTooFar_22 ?_
      refine lv_lload_n hx hb mD_TG_isTooFar_25 rfl (lv_at hl 0 rfl) ?_
      refine lv_lmul hx hb mD_TG_isTooFar_26 ?_
      refine lv_ldc2 hx hb hown (htw _ ww_494) mD_TG_isTooFar_27 ?_
      refine W.lcmp hx hb mD_TG_isTooFar_30 ?_
      refine lv_if_lt (tgt := 38) hx hb mD_TG_isTooFar_31 rfl (fun h7 => ?_) (fun h7 => ?_)
      · skip
        refine lv_iconst (v := nI 0) hx hb mD_TG_isTooFar_38 (by decide) ?_
        exact gw_zret hx hb hr hlocks hP hS rfl (⟨rfl, by first | exact Or.inr ⟨rfl, (tl_far2 e1 e2 l1 l2 (by first | exact Or.inl ((nI_eq (by omega) (by omega)).mp h4) | exact Or.inr ((nI_eq (by omega) (by omega)).mp h5))).mp h7⟩ | exact Or.inl ⟨rfl, Classical.not_not.mp (fun q => h7 ((tl_far2 e1 e2 l1 l2 (by first | exact Or.inl ((nI_eq (by omega) (by omega)).mp h4) | exact Or.inr ((nI_eq (by omega) (by omega)).mp h5))).mpr q))⟩⟩) mD_TG_isTooFar_39 (Nat.zero_le _) (Nat.zero_le _)
      · skip
        refine lv_iconst (v := nI 1) hx hb mD_TG_isTooFar_34 (by decide) ?_
        refine lv_goto (tgt := 39) hx hb mD_TG_isTooFar_35 rfl ?_
        exact gw_zret hx hb hr hlocks hP hS rfl (⟨rfl, by first | exact Or.inr ⟨rfl, (tl_far2 e1 e2 l1 l2 (by first | exact Or.inl ((nI_eq (by omega) (by omega)).mp h4) | exact Or.inr ((nI_eq (by omega) (by omega)).mp h5))).mp h7⟩ | exact Or.inl ⟨rfl, Classical.not_not.mp (fun q => h7 ((tl_far2 e1 e2 l1 l2 (by first | exact Or.inl ((nI_eq (by omega) (by omega)).mp h4) | exact Or.inr ((nI_eq (by omega) (by omega)).mp h5))).mpr q))⟩⟩) mD_TG_isTooFar_39 (Nat.zero_le _) (Nat.zero_le _)

set_option maxHeartbeats 4000000 in
set_option maxRecDepth 100000 in
theorem k_TG_makeKey (l : Launch) (D : va_G) (ct : Nat → ClassId) (ad : Nat → Nat) (hI : gw_inj 424 ad) (x : tS) (a : Int32) : gMv l mY_TG_makeKey mB_TG_makeKey 2 none (rF 5 117) D (tT ct) gZ0 424 ad (tD ct ad) [.ref (ad 0), .int a] x (fun x' => tKey x'.1 ∧ ∀ k, (k < 3 ∨ 104 ≤ k) → x'.1 k = x.1 k) := by
  refine gMv_enter (by decide) (Nat.le_of_ble_eq_true rfl) ?_
  intro p e s m below meth c ls hx hb hr htw hown hlocks hml hl hP hK hZ hS
  have hA : ∀ k, k < 424 → gA 424 ad s.heap.size (ad k) := fun _ h => gA_in h
  have hl : lv_has ls 2 [(0, .ref (ad 0)), (1, .int a)] := hl
  refine lv_aload_n hx hb mD_TG_makeKey_0 rfl (lv_at hl 0 rfl) ?_
  refine t_get (C := cN_TG) (T := cF_TG) (N := 12) (ci := 7) hx hb htw wU_TG hown hK hP 0 (by decide) rfl rfl 0 (by decide) rfl ww_222 rfl mD_TG_makeKey_1 ?_
  refine lv_iload_n hx hb mD_TG_makeKey_4 rfl (lv_at hl 1 rfl) ?_
  refine gc_Vv (As := [.int a]) (rest := []) hx hb hml hown htw hK hP hS 1 (k_So_restart l D ct ad hI x a) gZ0_ok (fun _ _ _ => trivial) (gA_mono hS.1) (by decide) rfl rfl ww_177 ww_178 ww_179 ww_24 wC_So_restart mP_So_restart (by decide) rfl hl.1 rfl (Nat.le_of_ble_eq_true rfl) mD_TG_makeKey_5 ⟨Nat.le_of_ble_eq_true rfl, Nat.le_of_ble_eq_true rfl⟩ (fun x1 H locs hp1 hP _ _ hS => ?_)
  have e1 : x1.1 = x.1 := hp1
  refine lv_aload_n hx hb mD_TG_makeKey_8 rfl (lv_at hl 0 rfl) ?_
  refine t_get (C := cN_TG) (T := cF_TG) (N := 12) (ci := 7) hx hb htw wU_TG hown hK hP 0 (by decide) rfl rfl 1 (by decide) rfl ww_223 rfl mD_TG_makeKey_9 ?_
  refine lv_aload_n hx hb mD_TG_makeKey_12 rfl (lv_at hl 0 rfl) ?_
  refine t_get (C := cN_TG) (T := cF_TG) (N := 12) (ci := 7) hx hb htw wU_TG hown hK hP 0 (by decide) rfl rfl 0 (by decide) rfl ww_222 rfl mD_TG_makeKey_13 ?_
  refine gc_Vv (As := [.ref (ad 1)]) (rest := []) hx hb hml hown htw hK hP hS 2 (k_Se_renew l D ct ad hI x1) gZ0_ok (fun _ _ _ => trivial) (gA_mono hS.1) (by decide) rfl rfl ww_181 ww_182 ww_183 ww_25 wC_Se_renew mP_Se_renew (by decide) rfl hl.1 rfl (Nat.le_of_ble_eq_true rfl) mD_TG_makeKey_16 ⟨Nat.le_of_ble_eq_true rfl, Nat.le_of_ble_eq_true rfl⟩ (fun x3 H locs hp3 hP _ _ hS => ?_)
  obtain ⟨g3, g4, e2, hb3, hb4⟩ := hp3
  refine lv_aload_n hx hb mD_TG_makeKey_19 rfl (lv_at hl 0 rfl) ?_
  refine t_get (C := cN_TG) (T := cF_TG) (N := 12) (ci := 7) hx hb htw wU_TG hown hK hP 0 (by decide) rfl rfl 2 (by decide) rfl ww_224 rfl mD_TG_makeKey_20 ?_
  refine lv_aload_n hx hb mD_TG_makeKey_23 rfl (lv_at hl 0 rfl) ?_
  refine t_get (C := cN_TG) (T := cF_TG) (N := 12) (ci := 7) hx hb htw wU_TG hown hK hP 0 (by decide) rfl rfl 1 (by decide) rfl ww_223 rfl mD_TG_makeKey_24 ?_
  refine lv_aload_n hx hb mD_TG_makeKey_27 rfl (lv_at hl 0 rfl) ?_
  refine t_get (C := cN_TG) (T := cF_TG) (N := 12) (ci := 7) hx hb htw wU_TG hown hK hP 0 (by decide) rfl rfl 0 (by decide) rfl ww_222 rfl mD_TG_makeKey_28 ?_
  refine gc_Vv (As := [.ref (ad 2), .ref (ad 1)]) (rest := []) hx hb hml hown htw hK hP hS 5 (k_Re_renew l D ct ad hI x3) gZ0_ok (fun _ _ _ => trivial) (gA_mono hS.1) (by decide) rfl rfl ww_195 ww_196 ww_197 ww_26 wC_Re_renew mP_Re_renew (by decide) rfl hl.1 rfl (Nat.le_of_ble_eq_true rfl) mD_TG_makeKey_31 ⟨Nat.le_of_ble_eq_true rfl, Nat.le_of_ble_eq_true rfl⟩ (fun x5 H locs hp5 hP _ _ hS => ?_)
  obtain ⟨e3, hs, hw⟩ := hp5
  exact gw_vret hx hb hr hlocks hP hS (⟨⟨fun i hi => by rw [e3 3 (Or.inl (by decide)), e2, va_up_ne _ _ (by decide), va_up_self]; exact hb3 i hi, fun i hi => by rw [e3 4 (Or.inl (by decide)), e2, va_up_self]; exact hb4 i hi, hs, hw⟩, fun k hk => by rw [e3 k (by omega), e2, va_up_ne _ _ (by omega), va_up_ne _ _ (by omega), e1]⟩) mD_TG_makeKey_34 (Nat.zero_le _) (Nat.zero_le _)

set_option maxHeartbeats 4000000 in
set_option maxRecDepth 100000 in
theorem k_TG_fillNew (l : Launch) (D : va_G) (ct : Nat → ClassId) (ad : Nat → Nat) (hI : gw_inj 424 ad) (x : tS) {kc : Nat} (hkc : tCe kc) (z : Bool) : gMv l mY_TG_fillNew mB_TG_fillNew 3 none (rF 3 69) D (tT ct) gZ0 424 ad (tD ct ad) [.ref (ad 0), .ref (ad kc), .int (tBi z)] x (fun x' => ∃ g, x'.1 = va_up (va_up x.1 (kc + 1) g) kc (upd (upd (x.1 kc) 1 (nI 16)) 2 (tBi z)) ∧ tp_near (x.1 3) g z 16) := by
  refine gMv_enter (by decide) (Nat.le_of_ble_eq_true rfl) ?_
  intro p e s m below meth c ls hx hb hr htw hown hlocks hml hl hP hK hZ hS
  have hA : ∀ k, k < 424 → gA 424 ad s.heap.size (ad k) := fun _ h => gA_in h
  have hl : lv_has ls 3 [(0, .ref (ad 0)), (1, .ref (ad kc)), (2, .int (tBi z))] := hl
  refine lv_aload_n hx hb mD_TG_fillNew_0 rfl (lv_at hl 0 rfl) ?_
  refine t_get (C := cN_TG) (T := cF_TG) (N := 12) (ci := 7) hx hb htw wU_TG hown hK hP 0 (by decide) rfl rfl 1 (by decide) rfl ww_223 rfl mD_TG_fillNew_1 ?_
  refine lv_iload_n hx hb mD_TG_fillNew_4 rfl (lv_at hl 2 rfl) ?_
  refine gc_Si (As := [.int (tBi z)]) (rest := [.ref (ad 2)]) hx hb hml hown htw hK hP hS (k_TG_placeFor l D ct ad hI x z) gZ0_ok (fun _ _ _ => trivial) (gA_mono hS.1) ww_367 ww_368 ww_23 wC_TG_placeFor mP_TG_placeFor (by decide) rfl hl.1 rfl (Nat.le_of_ble_eq_true rfl) mD_TG_fillNew_5 ⟨Nat.le_of_ble_eq_true rfl, Nat.le_of_ble_eq_true rfl⟩ (fun r2 x1 H locs hp1 hP _ _ hS => ?_)
  obtain ⟨hq_, rfl⟩ := hp1
  rw [hq_] at hP
  refine lv_aload_n hx hb mD_TG_fillNew_8 rfl (lv_at hl 1 rfl) ?_
  refine t_get (C := cN_Ce) (T := cF_Ce) (N := 4) (ci := 0) hx hb htw wU_Ce hown hK hP kc (tCe_lt hkc) (tE_cell hkc) rfl 0 (by decide) rfl ww_123 rfl mD_TG_fillNew_9 ?_
  refine lv_iconst (v := nI 5) hx hb mD_TG_fillNew_12 (by decide) ?_
  refine lv_aload_n hx hb mD_TG_fillNew_13 rfl (lv_at hl 0 rfl) ?_
  refine t_get (C := cN_TG) (T := cF_TG) (N := 12) (ci := 7) hx hb htw wU_TG hown hK hP 0 (by decide) rfl rfl 0 (by decide) rfl ww_222 rfl mD_TG_fillNew_14 ?_
  refine gc_Vv (As := [.int (tp_pl z), .ref (ad ((kc + 1))), .int (nI 5), .ref (ad 1)]) (rest := []) hx hb hml hown htw hK hP hS 2 (k_Se_hide5 l D ct ad hI x (tp_pl z) (k := kc + 1) (tCe_row hkc)) gZ0_ok (fun _ _ _ => trivial) (gA_mono hS.1) (by decide) rfl rfl ww_372 ww_219 ww_220 ww_25 wC_Se_hide mP_Se_hide (by decide) rfl hl.1 rfl (Nat.le_of_ble_eq_true rfl) mD_TG_fillNew_17 ⟨Nat.le_of_ble_eq_true rfl, Nat.le_of_ble_eq_true rfl⟩ (fun x3 H locs hp3 hP _ _ hS => ?_)
  obtain ⟨g, eg, hg⟩ := hp3
  refine lv_aload_n hx hb mD_TG_fillNew_20 rfl (lv_at hl 1 rfl) ?_
  refine lv_bipush (v := nI 16) hx hb mD_TG_fillNew_21 (by decide) ?_
  refine t_put (C := cN_Ce) (T := cF_Ce) (N := 4) (ci := 0) hx hb htw wU_Ce cT_Ce cO_Ce cM_Ce hown hK hI hA hP hS kc (tCe_lt hkc) (tE_cell hkc) rfl 1 (by decide) rfl ww_125 rfl rfl rfl (Nat.le_of_ble_eq_true rfl) (by rw [tE_cell hkc]; rfl) mD_TG_fillNew_23 (fun H locs hP hS => ?_)
  obtain ⟨x5, hx5⟩ : ∃ z_, z_ = tU x3 kc (upd (x3.1 kc) 1 (nI 16)) := ⟨_, rfl⟩
  rw [← hx5] at hP
  refine lv_aload_n hx hb mD_TG_fillNew_26 rfl (lv_at hl 1 rfl) ?_
  refine lv_iload_n hx hb mD_TG_fillNew_27 rfl (lv_at hl 2 rfl) ?_
  refine t_put (C := cN_Ce) (T := cF_Ce) (N := 4) (ci := 0) hx hb htw wU_Ce cT_Ce cO_Ce cM_Ce hown hK hI hA hP hS kc (tCe_lt hkc) (tE_cell hkc) rfl 2 (by decide) rfl ww_128 rfl (tb_nar (tBi_bit z)).1 (tb_nar (tBi_bit z)).2 (Nat.le_of_ble_eq_true rfl) (by rw [tE_cell hkc]; rfl) mD_TG_fillNew_28 (fun H locs hP hS => ?_)
  obtain ⟨x6, hx6⟩ : ∃ z_, z_ = tU x5 kc (upd (x5.1 kc) 2 (tBi z)) := ⟨_, rfl⟩
  rw [← hx6] at hP
  exact gw_vret hx hb hr hlocks hP hS (⟨g, by rw [hx6, tU_f, hx5, tU_f, bx_uu, va_up_self, eg, va_up_ne _ _ (tb_cr hkc hkc)], hg⟩) mD_TG_fillNew_31 (Nat.zero_le _) (Nat.zero_le _)
