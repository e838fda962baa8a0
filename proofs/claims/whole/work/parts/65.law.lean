/-! the law's body: one call of the script. Laid by wip/whole/part_law.py. -/
/-- what stands over the whole run -/
def lCx (p : Program) (l : Launch) (s : State) (m : MethodId) (c : Code) (b L : Nat) (xs : Nat → Int32) (D : va_G) (ct : Nat → ClassId) (ad am zt : Nat → Nat) : Prop :=
  p.tables.exec = Jvm.exec ∧ c.code = code ∧ c.maxLocals = 7 ∧ s.vm.findClass cN_La = some m.cls ∧ (∀ w ∈ wW, w.before #[Value.ref b] s = true) ∧ va_X b L xs s s.heap ∧ b < s.heap.size ∧ L ≤ 2048 ∧ l.stackTraces = false ∧ tO s zt ∧ tOC s ∧ va_K D cL (tT ct) s ∧ gw_inj 425 ad ∧ gw_inj 8 am ∧ (∀ k, k < 425 → s.heap.size ≤ ad k) ∧ (∀ k, k < 8 → s.heap.size ≤ am k) ∧ ∀ k j, k < 425 → j < 8 → ad k ≠ am j
theorem l_gT {s : State} {n sz : Nat} {ad : Nat → Nat} (h : ∀ k, k < n → s.heap.size ≤ ad k) (hs : s.heap.size ≤ sz) : ∀ q, gA n ad sz q → tB s q := fun q hq => by
  rcases hq with ⟨k, hk, e⟩ | hq
  · rw [e]; exact h k hk
  · exact Nat.le_trans hs hq
theorem l_keep {D : va_G} {n m : Nat} {ad am : Nat → Nat} {E : Nat → va_E} {H H1 : Heap} (hd : ∀ k j, k < n → j < m → ad k ≠ am j) (hP : va_P D cL (gw m am E) H) (hk : ∀ q : Nat, q < H.size → ¬ gA n ad H.size q → H1[q]? = H[q]?) : va_P D cL (gw m am E) H1 :=
  hP.kept (fun k q hq => by
    obtain ⟨h1, rfl⟩ := gw_inv hq
    refine hk _ (gw_lt hP h1) (fun z => ?_)
    rcases z with ⟨i, hi, e⟩ | z
    · exact hd i k hi h1 e.symm
    · exact absurd (gw_lt hP h1) (Nat.not_lt.mpr z))
theorem lc_same (x : Int64) : lg_cmp x x = 0 := by simp [lg_cmp]
theorem tZ_self (s : State) : tZ s (tB s) s := ⟨State.WarmedH.refl s, fun a ha => ⟨Nat.not_le.mpr ha, rfl⟩⟩
section LWR
variable {p : Program} {l : Launch} {e : Env} {R : Room} {s : State} {m : MethodId} {args : Array Value} {below : List Frame} {meth : Method} {c : Code} {H : Heap} {locs : List Loc} {cells slots : Nat} {Q : State → Prop}
variable {cc : ByteArray} {pc : Nat} {ls : Array Slot} {rest : List Value} {D : va_G} {ct : Nat → ClassId} {ad : Nat → Nat}
theorem l_sld (hx : p.tables.exec = Jvm.exec) (hb : c.code = cc) {b L : Nat} {xs : Nat → Int32} (hX : va_X b L xs s s.heap) (hbl : b < s.heap.size) (hL : L ≤ 2048) (hS : va_S (tB s) s.heap H locs) (i : Nat) (hi : i < L) (hdg : decode cc pc = .ok (.iaload, 1))
    (kk : W p l e R s m args below meth c H locs cells slots Q (F0 m (pc + 1) ls (.int (xs i) :: rest))) : W p l e R s m args below meth c H locs cells slots Q (F0 m pc ls (.int (nI i) :: .ref b :: rest)) :=
  va_sld hx hb hX hbl (Nat.not_le.mpr hbl) hS (vp_in_nI hi (by omega)) hdg (by rw [nI_clamp (by omega)]; exact kk)
theorem l_lald (hx : p.tables.exec = Jvm.exec) (hb : c.code = cc) {x : lS} (hK : va_K D cL (tT ct) s) (hP : va_P D cL (gw 425 ad (lD ct ad x)) H) (hdg : decode cc pc = .ok (.laload, 1))
    (kk : W p l e R s m args below meth c H locs cells slots Q (F0 m (pc + 1) ls (.long x.2 :: rest))) : W p l e R s m args below meth c H locs cells slots Q (F0 m pc ls (.int (nI 0) :: .ref (ad 424) :: rest)) :=
  gw_lald (f := fun _ => x.2) hx hb hK hP 424 4 (by decide) (if_pos rfl) rfl 0 rfl (by decide) (by decide) hdg kk
end LWR

set_option maxHeartbeats 4000000 in
theorem lc_bit {p : Program} {l : Launch} {e : Env} {s : State} {m : MethodId} {below : List Frame} {meth : Method} {c : Code} {b L : Nat} {xs : Nat → Int32} {D : va_G} {ct : Nat → ClassId} {ad am zt : Nat → Nat} (C : lCx p l s m c b L xs D ct ad am zt) {Q : State → Prop} {j : Nat} (hj : 4 * j + 3 < L) {z : lS} {y : mS} {α : tA} {t : Int32} (hR : tR α z.1.1) (hM : mR α t y) {H : Heap} {locs : List Loc} {ls : Array Slot} (hl : lv_has ls 7 [(4, .int (nI (4 * j))), (0, .ref b), (1, .ref (ad 0)), (2, .ref (am 0)), (3, .ref (ad 424))]) (hP : va_P D cL (gw 425 ad (lD ct ad z)) H) (hPm : va_P D cL (gw 8 am (mD ct am y)) H) (hS : va_S (tB s) s.heap H locs) (again : ∀ (z : lS) (y : mS) (α : tA) (t : Int32) (H : Heap) (locs : List Loc) (ls : Array Slot), tR α z.1.1 → mR α t y → lv_has ls 7 [(4, .int (nI (4 * j))), (0, .ref b), (1, .ref (ad 0)), (2, .ref (am 0)), (3, .ref (ad 424))] → va_P D cL (gw 425 ad (lD ct ad z)) H → va_P D cL (gw 8 am (mD ct am y)) H → va_S (tB s) s.heap H locs → W p l e room_1 s m #[.ref b] below meth c H locs (433 + (j + 1)) (5635 + 6 * (j + 1)) Q (F0 m 1009 ls [])) : W p l e room_1 s m #[.ref b] below meth c H locs (433 + j) (5635 + 6 * j) Q (F0 m 137 ls []) := by
  obtain ⟨hx, hb, hml, hown, htw, hX, hbl, hL, hls, h0, hC, hK, hI, hJ, hT, hU, hd⟩ := C
  have hZ := tZ_self s
  rcases Classical.em (xs (4 * j + 1) = 0) with hbz | hbz
  · skip
    obtain ⟨k, v, α1, rm, ⟨hk3, hfr, hlo, hcl, hsl⟩, hH, hMo⟩ := p_bit l D ct ad am hI hJ hls h0 hC z y α t hR hM false
    refine lv_aload_n hx hb mD_La_law_137 rfl (lv_at hl 2 rfl) ?_
    refine lv_aload_n hx hb mD_La_law_138 rfl (lv_at hl 1 rfl) ?_
    refine lv_iload hx hb mD_La_law_139 (lv_at hl 0 rfl) ?_
    refine lv_iconst (v := nI 1) hx hb mD_La_law_141 (by decide) ?_
    refine lv_iadd hx hb mD_La_law_142 ?_
    rw [nI_add]
    refine l_sld hx hb hX hbl hL hS (4 * j + 1) (by omega) mD_La_law_143 ?_
    refine lv_if_eq (tgt := 151) hx hb mD_La_law_144 rfl (fun _ => ?_) (fun hc => absurd hbz hc)
    refine lv_iconst (v := nI 0) hx hb mD_La_law_151 (by decide) ?_
    rw [show nI 0 = tBi false from rfl]
    refine lv_aload_n hx hb mD_La_law_152 rfl (lv_at hl 4 rfl) ?_
    refine gc_Hi (As := [.ref (ad 0), .int (tBi false), .ref (ad 424)]) (rest := []) hx hb hml hown htw hK hP hS hH (tZ_ok s) (tZ_in hZ hS (l_gT hT hS.1)) (l_gT hT hS.1) ww_275 ww_276 ww_22 wH_La_bit mP_La_bit ⟨hfr, hlo⟩ rfl hl.1 rfl (Nat.le_of_ble_eq_true rfl) mD_La_law_153 ⟨by show 433 + j + rm.cells ≤ 601024; omega, by show 5635 + 6 * j + rm.slots ≤ 7293034; omega⟩ (fun r1 z1 H locs hp hP hz1 hk1 hS => ?_)
    have hPm := l_keep hd hPm hk1
    obtain ⟨rfl, hR1, ho1⟩ := hp
    refine lv_istore (lv' := [(5, .int (nI k)), (4, .int (nI (4 * j))), (0, .ref b), (1, .ref (ad 0)), (2, .ref (am 0)), (3, .ref (ad 424))]) hx hb mD_La_law_156 hl (by decide) rfl (fun ls hl => ?_)
    refine lv_aload_n hx hb mD_La_law_158 rfl (lv_at hl 4 rfl) ?_
    refine lv_aload_n hx hb mD_La_law_159 rfl (lv_at hl 2 rfl) ?_
    refine lv_iload hx hb mD_La_law_160 (lv_at hl 1 rfl) ?_
    refine lv_iconst (v := nI 1) hx hb mD_La_law_162 (by decide) ?_
    refine lv_iadd hx hb mD_La_law_163 ?_
    rw [nI_add]
    refine l_sld hx hb hX hbl hL hS (4 * j + 1) (by omega) mD_La_law_164 ?_
    refine lv_if_eq (tgt := 172) hx hb mD_La_law_165 rfl (fun _ => ?_) (fun hc => absurd hbz hc)
    refine lv_iconst (v := nI 0) hx hb mD_La_law_172 (by decide) ?_
    rw [show nI 0 = tBi false from rfl]
    refine gc_Vi (As := [.int (tBi false)]) (rest := []) hx hb hml hown htw hK hPm hS 0 hMo gZ0_ok (fun _ _ _ => trivial) (l_gT hU hS.1) (by decide) rfl rfl ww_687 ww_688 ww_689 ww_33 wC_Mo_bit mP_Mo_bit ⟨(Nat.le_of_ble_eq_true rfl), (Nat.le_of_ble_eq_true rfl)⟩ rfl hl.1 rfl (Nat.le_of_ble_eq_true rfl) mD_La_law_173 ⟨by show 433 + j + rm.cells + 0 ≤ 601024; omega, by show 5635 + 6 * j + rm.slots + 0 ≤ 7293034; omega⟩ (fun r2 y1 H locs hp hPm hz2 hk2 hS => ?_)
    have hP := l_keep (fun k j_ h1 h2 e_ => hd j_ k h2 h1 e_.symm) hP hk2
    obtain ⟨hM1, hv1⟩ := hp
    refine lv_istore (lv' := [(6, .int r2), (5, .int (nI k)), (4, .int (nI (4 * j))), (0, .ref b), (1, .ref (ad 0)), (2, .ref (am 0)), (3, .ref (ad 424))]) hx hb mD_La_law_176 hl (by decide) rfl (fun ls hl => ?_)
    refine lv_aload_n hx hb mD_La_law_178 rfl (lv_at hl 5 rfl) ?_
    refine gc_Vi (As := []) (rest := []) hx hb hml hown htw hK hPm hS 0 (k_Mo_thrown l D ct am hJ y1) gZ0_ok (fun _ _ _ => trivial) (l_gT hU hS.1) (by decide) rfl rfl ww_675 ww_676 ww_677 ww_33 wC_Mo_thrown mP_Mo_thrown ⟨(Nat.le_of_ble_eq_true rfl), (Nat.le_of_ble_eq_true rfl)⟩ rfl hl.1 rfl (Nat.le_of_ble_eq_true rfl) mD_La_law_179 ⟨by show 433 + j + rm.cells + 0 + 0 ≤ 601024; omega, by show 5635 + 6 * j + rm.slots + 0 + 0 ≤ 7293034; omega⟩ (fun r3 y2 H locs hp hPm hz2 hk2 hS => ?_)
    have hP := l_keep (fun k j_ h1 h2 e_ => hd j_ k h2 h1 e_.symm) hP hk2
    obtain ⟨hq_, rfl⟩ := hp
    rw [hq_] at hPm
    refine lv_iload hx hb mD_La_law_182 (lv_at hl 1 rfl) ?_
    refine lv_icmp_eq (tgt := 189) hx hb mD_La_law_184 rfl (fun hc => ?_) (fun hc => absurd hM1.2.2.2.2.2 hc)
    refine lv_iload hx hb mD_La_law_189 (lv_at hl 1 rfl) ?_
    refine lv_if_ne (tgt := 206) hx hb mD_La_law_191 rfl (fun hc => ?_) (fun hc => ?_)
    · skip
      refine lv_goto (tgt := 1009) hx hb mD_La_law_206 rfl ?_
      exact W.widen (by show 433 + j + rm.cells + 0 + 0 ≤ 433 + (j + 1); omega) (by show 5635 + 6 * j + rm.slots + 0 + 0 ≤ 5635 + 6 * (j + 1); omega) (again z1 y1 α1 (nI k) _ _ _ hR1 hM1 (lv_sub hl [2, 3, 4, 5, 6] rfl) hP hPm hS)
    · have hk0 : k = 0 := (nI_eq (by omega) (by decide)).mp hc
      have hv2 := hv1 hk0
      have ho2 := ho1 hk0
      refine lv_aload_n hx hb mD_La_law_194 rfl (lv_at hl 6 rfl) ?_
      refine lv_iconst (v := nI 0) hx hb mD_La_law_195 (by decide) ?_
      refine l_lald hx hb hK hP mD_La_law_196 ?_
      refine lv_iload hx hb mD_La_law_197 (lv_at hl 0 rfl) ?_
      refine lv_i2l hx hb mD_La_law_199 rfl ?_
      refine W.lcmp hx hb mD_La_law_200 ?_
      refine lv_if_eq (tgt := 206) hx hb mD_La_law_201 rfl (fun hc => ?_) (fun hc => absurd (by rw [ho2, hv2]; exact lc_same _) hc)
      refine lv_goto (tgt := 1009) hx hb mD_La_law_206 rfl ?_
      exact W.widen (by show 433 + j + rm.cells + 0 + 0 ≤ 433 + (j + 1); omega) (by show 5635 + 6 * j + rm.slots + 0 + 0 ≤ 5635 + 6 * (j + 1); omega) (again z1 y1 α1 (nI k) _ _ _ hR1 hM1 (lv_sub hl [2, 3, 4, 5, 6] rfl) hP hPm hS)
  · skip
    obtain ⟨k, v, α1, rm, ⟨hk3, hfr, hlo, hcl, hsl⟩, hH, hMo⟩ := p_bit l D ct ad am hI hJ hls h0 hC z y α t hR hM true
    refine lv_aload_n hx hb mD_La_law_137 rfl (lv_at hl 2 rfl) ?_
    refine lv_aload_n hx hb mD_La_law_138 rfl (lv_at hl 1 rfl) ?_
    refine lv_iload hx hb mD_La_law_139 (lv_at hl 0 rfl) ?_
    refine lv_iconst (v := nI 1) hx hb mD_La_law_141 (by decide) ?_
    refine lv_iadd hx hb mD_La_law_142 ?_
    rw [nI_add]
    refine l_sld hx hb hX hbl hL hS (4 * j + 1) (by omega) mD_La_law_143 ?_
    refine lv_if_eq (tgt := 151) hx hb mD_La_law_144 rfl (fun hc => absurd hc hbz) (fun _ => ?_)
    refine lv_iconst (v := nI 1) hx hb mD_La_law_147 (by decide) ?_
    refine lv_goto (tgt := 152) hx hb mD_La_law_148 rfl ?_
    rw [show nI 1 = tBi true from rfl]
    refine lv_aload_n hx hb mD_La_law_152 rfl (lv_at hl 4 rfl) ?_
    refine gc_Hi (As := [.ref (ad 0), .int (tBi true), .ref (ad 424)]) (rest := []) hx hb hml hown htw hK hP hS hH (tZ_ok s) (tZ_in hZ hS (l_gT hT hS.1)) (l_gT hT hS.1) ww_275 ww_276 ww_22 wH_La_bit mP_La_bit ⟨hfr, hlo⟩ rfl hl.1 rfl (Nat.le_of_ble_eq_true rfl) mD_La_law_153 ⟨by show 433 + j + rm.cells ≤ 601024; omega, by show 5635 + 6 * j + rm.slots ≤ 7293034; omega⟩ (fun r1 z1 H locs hp hP hz1 hk1 hS => ?_)
    have hPm := l_keep hd hPm hk1
    obtain ⟨rfl, hR1, ho1⟩ := hp
    refine lv_istore (lv' := [(5, .int (nI k)), (4, .int (nI (4 * j))), (0, .ref b), (1, .ref (ad 0)), (2, .ref (am 0)), (3, .ref (ad 424))]) hx hb mD_La_law_156 hl (by decide) rfl (fun ls hl => ?_)
    refine lv_aload_n hx hb mD_La_law_158 rfl (lv_at hl 4 rfl) ?_
    refine lv_aload_n hx hb mD_La_law_159 rfl (lv_at hl 2 rfl) ?_
    refine lv_iload hx hb mD_La_law_160 (lv_at hl 1 rfl) ?_
    refine lv_iconst (v := nI 1) hx hb mD_La_law_162 (by decide) ?_
    refine lv_iadd hx hb mD_La_law_163 ?_
    rw [nI_add]
    refine l_sld hx hb hX hbl hL hS (4 * j + 1) (by omega) mD_La_law_164 ?_
    refine lv_if_eq (tgt := 172) hx hb mD_La_law_165 rfl (fun hc => absurd hc hbz) (fun _ => ?_)
    refine lv_iconst (v := nI 1) hx hb mD_La_law_168 (by decide) ?_
    refine lv_goto (tgt := 173) hx hb mD_La_law_169 rfl ?_
    rw [show nI 1 = tBi true from rfl]
    refine gc_Vi (As := [.int (tBi true)]) (rest := []) hx hb hml hown htw hK hPm hS 0 hMo gZ0_ok (fun _ _ _ => trivial) (l_gT hU hS.1) (by decide) rfl rfl ww_687 ww_688 ww_689 ww_33 wC_Mo_bit mP_Mo_bit ⟨(Nat.le_of_ble_eq_true rfl), (Nat.le_of_ble_eq_true rfl)⟩ rfl hl.1 rfl (Nat.le_of_ble_eq_true rfl) mD_La_law_173 ⟨by show 433 + j + rm.cells + 0 ≤ 601024; omega, by show 5635 + 6 * j + rm.slots + 0 ≤ 7293034; omega⟩ (fun r2 y1 H locs hp hPm hz2 hk2 hS => ?_)
    have hP := l_keep (fun k j_ h1 h2 e_ => hd j_ k h2 h1 e_.symm) hP hk2
    obtain ⟨hM1, hv1⟩ := hp
    refine lv_istore (lv' := [(6, .int r2), (5, .int (nI k)), (4, .int (nI (4 * j))), (0, .ref b), (1, .ref (ad 0)), (2, .ref (am 0)), (3, .ref (ad 424))]) hx hb mD_La_law_176 hl (by decide) rfl (fun ls hl => ?_)
    refine lv_aload_n hx hb mD_La_law_178 rfl (lv_at hl 5 rfl) ?_
    refine gc_Vi (As := []) (rest := []) hx hb hml hown htw hK hPm hS 0 (k_Mo_thrown l D ct am hJ y1) gZ0_ok (fun _ _ _ => trivial) (l_gT hU hS.1) (by decide) rfl rfl ww_675 ww_676 ww_677 ww_33 wC_Mo_thrown mP_Mo_thrown ⟨(Nat.le_of_ble_eq_true rfl), (Nat.le_of_ble_eq_true rfl)⟩ rfl hl.1 rfl (Nat.le_of_ble_eq_true rfl) mD_La_law_179 ⟨by show 433 + j + rm.cells + 0 + 0 ≤ 601024; omega, by show 5635 + 6 * j + rm.slots + 0 + 0 ≤ 7293034; omega⟩ (fun r3 y2 H locs hp hPm hz2 hk2 hS => ?_)
    have hP := l_keep (fun k j_ h1 h2 e_ => hd j_ k h2 h1 e_.symm) hP hk2
    obtain ⟨hq_, rfl⟩ := hp
    rw [hq_] at hPm
    refine lv_iload hx hb mD_La_law_182 (lv_at hl 1 rfl) ?_
    refine lv_icmp_eq (tgt := 189) hx hb mD_La_law_184 rfl (fun hc => ?_) (fun hc => absurd hM1.2.2.2.2.2 hc)
    refine lv_iload hx hb mD_La_law_189 (lv_at hl 1 rfl) ?_
    refine lv_if_ne (tgt := 206) hx hb mD_La_law_191 rfl (fun hc => ?_) (fun hc => ?_)
    · skip
      refine lv_goto (tgt := 1009) hx hb mD_La_law_206 rfl ?_
      exact W.widen (by show 433 + j + rm.cells + 0 + 0 ≤ 433 + (j + 1); omega) (by show 5635 + 6 * j + rm.slots + 0 + 0 ≤ 5635 + 6 * (j + 1); omega) (again z1 y1 α1 (nI k) _ _ _ hR1 hM1 (lv_sub hl [2, 3, 4, 5, 6] rfl) hP hPm hS)
    · have hk0 : k = 0 := (nI_eq (by omega) (by decide)).mp hc
      have hv2 := hv1 hk0
      have ho2 := ho1 hk0
      refine lv_aload_n hx hb mD_La_law_194 rfl (lv_at hl 6 rfl) ?_
      refine lv_iconst (v := nI 0) hx hb mD_La_law_195 (by decide) ?_
      refine l_lald hx hb hK hP mD_La_law_196 ?_
      refine lv_iload hx hb mD_La_law_197 (lv_at hl 0 rfl) ?_
      refine lv_i2l hx hb mD_La_law_199 rfl ?_
      refine W.lcmp hx hb mD_La_law_200 ?_
      refine lv_if_eq (tgt := 206) hx hb mD_La_law_201 rfl (fun hc => ?_) (fun hc => absurd (by rw [ho2, hv2]; exact lc_same _) hc)
      refine lv_goto (tgt := 1009) hx hb mD_La_law_206 rfl ?_
      exact W.widen (by show 433 + j + rm.cells + 0 + 0 ≤ 433 + (j + 1); omega) (by show 5635 + 6 * j + rm.slots + 0 + 0 ≤ 5635 + 6 * (j + 1); omega) (again z1 y1 α1 (nI k) _ _ _ hR1 hM1 (lv_sub hl [2, 3, 4, 5, 6] rfl) hP hPm hS)

set_option maxHeartbeats 4000000 in
theorem lc_drop {p : Program} {l : Launch} {e : Env} {s : State} {m : MethodId} {below : List Frame} {meth : Method} {c : Code} {b L : Nat} {xs : Nat → Int32} {D : va_G} {ct : Nat → ClassId} {ad am zt : Nat → Nat} (C : lCx p l s m c b L xs D ct ad am zt) {Q : State → Prop} {j : Nat} (hj : 4 * j + 3 < L) {z : lS} {y : mS} {α : tA} {t : Int32} (hR : tR α z.1.1) (hM : mR α t y) {H : Heap} {locs : List Loc} {ls : Array Slot} (hl : lv_has ls 7 [(4, .int (nI (4 * j))), (0, .ref b), (1, .ref (ad 0)), (2, .ref (am 0)), (3, .ref (ad 424))]) (hP : va_P D cL (gw 425 ad (lD ct ad z)) H) (hPm : va_P D cL (gw 8 am (mD ct am y)) H) (hS : va_S (tB s) s.heap H locs) (again : ∀ (z : lS) (y : mS) (α : tA) (t : Int32) (H : Heap) (locs : List Loc) (ls : Array Slot), tR α z.1.1 → mR α t y → lv_has ls 7 [(4, .int (nI (4 * j))), (0, .ref b), (1, .ref (ad 0)), (2, .ref (am 0)), (3, .ref (ad 424))] → va_P D cL (gw 425 ad (lD ct ad z)) H → va_P D cL (gw 8 am (mD ct am y)) H → va_S (tB s) s.heap H locs → W p l e room_1 s m #[.ref b] below meth c H locs (433 + (j + 1)) (5635 + 6 * (j + 1)) Q (F0 m 1009 ls [])) : W p l e room_1 s m #[.ref b] below meth c H locs (433 + j) (5635 + 6 * j) Q (F0 m 209 ls []) := by
  obtain ⟨hx, hb, hml, hown, htw, hX, hbl, hL, hls, h0, hC, hK, hI, hJ, hT, hU, hd⟩ := C
  have hZ := tZ_self s
  obtain ⟨k, v, α1, rm, ⟨hk3, hfr, hlo, hcl, hsl⟩, hH, hMo⟩ := p_drop l D ct ad am hI hJ hls h0 hC z y α t hR hM (xs (4 * j + 1))
  refine lv_aload_n hx hb mD_La_law_209 rfl (lv_at hl 2 rfl) ?_
  refine lv_aload_n hx hb mD_La_law_210 rfl (lv_at hl 1 rfl) ?_
  refine lv_iload hx hb mD_La_law_211 (lv_at hl 0 rfl) ?_
  refine lv_iconst (v := nI 1) hx hb mD_La_law_213 (by decide) ?_
  refine lv_iadd hx hb mD_La_law_214 ?_
  rw [nI_add]
  refine l_sld hx hb hX hbl hL hS (4 * j + 1) (by omega) mD_La_law_215 ?_
  refine lv_aload_n hx hb mD_La_law_216 rfl (lv_at hl 4 rfl) ?_
  refine gc_Hi (As := [.ref (ad 0), .int (xs (4 * j + 1)), .ref (ad 424)]) (rest := []) hx hb hml hown htw hK hP hS hH (tZ_ok s) (tZ_in hZ hS (l_gT hT hS.1)) (l_gT hT hS.1) ww_373 ww_374 ww_22 wH_La_drop mP_La_drop ⟨hfr, hlo⟩ rfl hl.1 rfl (Nat.le_of_ble_eq_true rfl) mD_La_law_217 ⟨by show 433 + j + rm.cells ≤ 601024; omega, by show 5635 + 6 * j + rm.slots ≤ 7293034; omega⟩ (fun r1 z1 H locs hp hP hz1 hk1 hS => ?_)
  have hPm := l_keep hd hPm hk1
  obtain ⟨rfl, hR1, ho1⟩ := hp
  refine lv_istore (lv' := [(5, .int (nI k)), (4, .int (nI (4 * j))), (0, .ref b), (1, .ref (ad 0)), (2, .ref (am 0)), (3, .ref (ad 424))]) hx hb mD_La_law_220 hl (by decide) rfl (fun ls hl => ?_)
  refine lv_aload_n hx hb mD_La_law_222 rfl (lv_at hl 4 rfl) ?_
  refine lv_aload_n hx hb mD_La_law_223 rfl (lv_at hl 2 rfl) ?_
  refine lv_iload hx hb mD_La_law_224 (lv_at hl 1 rfl) ?_
  refine lv_iconst (v := nI 1) hx hb mD_La_law_226 (by decide) ?_
  refine lv_iadd hx hb mD_La_law_227 ?_
  rw [nI_add]
  refine l_sld hx hb hX hbl hL hS (4 * j + 1) (by omega) mD_La_law_228 ?_
  refine gc_Vi (As := [.int (xs (4 * j + 1))]) (rest := []) hx hb hml hown htw hK hPm hS 0 hMo gZ0_ok (fun _ _ _ => trivial) (l_gT hU hS.1) (by decide) rfl rfl ww_699 ww_700 ww_701 ww_33 wC_Mo_drop mP_Mo_drop ⟨(Nat.le_of_ble_eq_true rfl), (Nat.le_of_ble_eq_true rfl)⟩ rfl hl.1 rfl (Nat.le_of_ble_eq_true rfl) mD_La_law_229 ⟨by show 433 + j + rm.cells + 0 ≤ 601024; omega, by show 5635 + 6 * j + rm.slots + 0 ≤ 7293034; omega⟩ (fun r2 y1 H locs hp hPm hz2 hk2 hS => ?_)
  have hP := l_keep (fun k j_ h1 h2 e_ => hd j_ k h2 h1 e_.symm) hP hk2
  obtain ⟨hM1, hv1⟩ := hp
  refine lv_istore (lv' := [(6, .int r2), (5, .int (nI k)), (4, .int (nI (4 * j))), (0, .ref b), (1, .ref (ad 0)), (2, .ref (am 0)), (3, .ref (ad 424))]) hx hb mD_La_law_232 hl (by decide) rfl (fun ls hl => ?_)
  refine lv_aload_n hx hb mD_La_law_234 rfl (lv_at hl 5 rfl) ?_
  refine gc_Vi (As := []) (rest := []) hx hb hml hown htw hK hPm hS 0 (k_Mo_thrown l D ct am hJ y1) gZ0_ok (fun _ _ _ => trivial) (l_gT hU hS.1) (by decide) rfl rfl ww_675 ww_676 ww_677 ww_33 wC_Mo_thrown mP_Mo_thrown ⟨(Nat.le_of_ble_eq_true rfl), (Nat.le_of_ble_eq_true rfl)⟩ rfl hl.1 rfl (Nat.le_of_ble_eq_true rfl) mD_La_law_235 ⟨by show 433 + j + rm.cells + 0 + 0 ≤ 601024; omega, by show 5635 + 6 * j + rm.slots + 0 + 0 ≤ 7293034; omega⟩ (fun r3 y2 H locs hp hPm hz2 hk2 hS => ?_)
  have hP := l_keep (fun k j_ h1 h2 e_ => hd j_ k h2 h1 e_.symm) hP hk2
  obtain ⟨hq_, rfl⟩ := hp
  rw [hq_] at hPm
  refine lv_iload hx hb mD_La_law_238 (lv_at hl 1 rfl) ?_
  refine lv_icmp_eq (tgt := 245) hx hb mD_La_law_240 rfl (fun hc => ?_) (fun hc => absurd hM1.2.2.2.2.2 hc)
  refine lv_iload hx hb mD_La_law_245 (lv_at hl 1 rfl) ?_
  refine lv_if_ne (tgt := 262) hx hb mD_La_law_247 rfl (fun hc => ?_) (fun hc => ?_)
  · skip
    refine lv_goto (tgt := 1009) hx hb mD_La_law_262 rfl ?_
    exact W.widen (by show 433 + j + rm.cells + 0 + 0 ≤ 433 + (j + 1); omega) (by show 5635 + 6 * j + rm.slots + 0 + 0 ≤ 5635 + 6 * (j + 1); omega) (again z1 y1 α1 (nI k) _ _ _ hR1 hM1 (lv_sub hl [2, 3, 4, 5, 6] rfl) hP hPm hS)
  · have hk0 : k = 0 := (nI_eq (by omega) (by decide)).mp hc
    have hv2 := hv1 hk0
    have ho2 := ho1 hk0
    refine lv_aload_n hx hb mD_La_law_250 rfl (lv_at hl 6 rfl) ?_
    refine lv_iconst (v := nI 0) hx hb mD_La_law_251 (by decide) ?_
    refine l_lald hx hb hK hP mD_La_law_252 ?_
    refine lv_iload hx hb mD_La_law_253 (lv_at hl 0 rfl) ?_
    refine lv_i2l hx hb mD_La_law_255 rfl ?_
    refine W.lcmp hx hb mD_La_law_256 ?_
    refine lv_if_eq (tgt := 262) hx hb mD_La_law_257 rfl (fun hc => ?_) (fun hc => absurd (by rw [ho2, hv2]; exact lc_same _) hc)
    refine lv_goto (tgt := 1009) hx hb mD_La_law_262 rfl ?_
    exact W.widen (by show 433 + j + rm.cells + 0 + 0 ≤ 433 + (j + 1); omega) (by show 5635 + 6 * j + rm.slots + 0 + 0 ≤ 5635 + 6 * (j + 1); omega) (again z1 y1 α1 (nI k) _ _ _ hR1 hM1 (lv_sub hl [2, 3, 4, 5, 6] rfl) hP hPm hS)

set_option maxHeartbeats 4000000 in
theorem lc_not {p : Program} {l : Launch} {e : Env} {s : State} {m : MethodId} {below : List Frame} {meth : Method} {c : Code} {b L : Nat} {xs : Nat → Int32} {D : va_G} {ct : Nat → ClassId} {ad am zt : Nat → Nat} (C : lCx p l s m c b L xs D ct ad am zt) {Q : State → Prop} {j : Nat} (hj : 4 * j + 3 < L) {z : lS} {y : mS} {α : tA} {t : Int32} (hR : tR α z.1.1) (hM : mR α t y) {H : Heap} {locs : List Loc} {ls : Array Slot} (hl : lv_has ls 7 [(4, .int (nI (4 * j))), (0, .ref b), (1, .ref (ad 0)), (2, .ref (am 0)), (3, .ref (ad 424))]) (hP : va_P D cL (gw 425 ad (lD ct ad z)) H) (hPm : va_P D cL (gw 8 am (mD ct am y)) H) (hS : va_S (tB s) s.heap H locs) (again : ∀ (z : lS) (y : mS) (α : tA) (t : Int32) (H : Heap) (locs : List Loc) (ls : Array Slot), tR α z.1.1 → mR α t y → lv_has ls 7 [(4, .int (nI (4 * j))), (0, .ref b), (1, .ref (ad 0)), (2, .ref (am 0)), (3, .ref (ad 424))] → va_P D cL (gw 425 ad (lD ct ad z)) H → va_P D cL (gw 8 am (mD ct am y)) H → va_S (tB s) s.heap H locs → W p l e room_1 s m #[.ref b] below meth c H locs (433 + (j + 1)) (5635 + 6 * (j + 1)) Q (F0 m 1009 ls [])) : W p l e room_1 s m #[.ref b] below meth c H locs (433 + j) (5635 + 6 * j) Q (F0 m 265 ls []) := by
  obtain ⟨hx, hb, hml, hown, htw, hX, hbl, hL, hls, h0, hC, hK, hI, hJ, hT, hU, hd⟩ := C
  have hZ := tZ_self s
  obtain ⟨k, v, α1, rm, ⟨hk3, hfr, hlo, hcl, hsl⟩, hH, hMo⟩ := p_not l D ct ad am hI hJ hls h0 hC z y α t hR hM (xs (4 * j + 1))
  refine lv_aload_n hx hb mD_La_law_265 rfl (lv_at hl 2 rfl) ?_
  refine lv_aload_n hx hb mD_La_law_266 rfl (lv_at hl 1 rfl) ?_
  refine lv_iload hx hb mD_La_law_267 (lv_at hl 0 rfl) ?_
  refine lv_iconst (v := nI 1) hx hb mD_La_law_269 (by decide) ?_
  refine lv_iadd hx hb mD_La_law_270 ?_
  rw [nI_add]
  refine l_sld hx hb hX hbl hL hS (4 * j + 1) (by omega) mD_La_law_271 ?_
  refine lv_aload_n hx hb mD_La_law_272 rfl (lv_at hl 4 rfl) ?_
  refine gc_Hi (As := [.ref (ad 0), .int (xs (4 * j + 1)), .ref (ad 424)]) (rest := []) hx hb hml hown htw hK hP hS hH (tZ_ok s) (tZ_in hZ hS (l_gT hT hS.1)) (l_gT hT hS.1) ww_409 ww_410 ww_22 wH_La_not mP_La_not ⟨hfr, hlo⟩ rfl hl.1 rfl (Nat.le_of_ble_eq_true rfl) mD_La_law_273 ⟨by show 433 + j + rm.cells ≤ 601024; omega, by show 5635 + 6 * j + rm.slots ≤ 7293034; omega⟩ (fun r1 z1 H locs hp hP hz1 hk1 hS => ?_)
  have hPm := l_keep hd hPm hk1
  obtain ⟨rfl, hR1, ho1⟩ := hp
  refine lv_istore (lv' := [(5, .int (nI k)), (4, .int (nI (4 * j))), (0, .ref b), (1, .ref (ad 0)), (2, .ref (am 0)), (3, .ref (ad 424))]) hx hb mD_La_law_276 hl (by decide) rfl (fun ls hl => ?_)
  refine lv_aload_n hx hb mD_La_law_278 rfl (lv_at hl 4 rfl) ?_
  refine lv_aload_n hx hb mD_La_law_279 rfl (lv_at hl 2 rfl) ?_
  refine lv_iload hx hb mD_La_law_280 (lv_at hl 1 rfl) ?_
  refine lv_iconst (v := nI 1) hx hb mD_La_law_282 (by decide) ?_
  refine lv_iadd hx hb mD_La_law_283 ?_
  rw [nI_add]
  refine l_sld hx hb hX hbl hL hS (4 * j + 1) (by omega) mD_La_law_284 ?_
  refine gc_Vi (As := [.int (xs (4 * j + 1))]) (rest := []) hx hb hml hown htw hK hPm hS 0 hMo gZ0_ok (fun _ _ _ => trivial) (l_gT hU hS.1) (by decide) rfl rfl ww_707 ww_708 ww_709 ww_33 wC_Mo_not mP_Mo_not ⟨(Nat.le_of_ble_eq_true rfl), (Nat.le_of_ble_eq_true rfl)⟩ rfl hl.1 rfl (Nat.le_of_ble_eq_true rfl) mD_La_law_285 ⟨by show 433 + j + rm.cells + 0 ≤ 601024; omega, by show 5635 + 6 * j + rm.slots + 0 ≤ 7293034; omega⟩ (fun r2 y1 H locs hp hPm hz2 hk2 hS => ?_)
  have hP := l_keep (fun k j_ h1 h2 e_ => hd j_ k h2 h1 e_.symm) hP hk2
  obtain ⟨hM1, hv1⟩ := hp
  refine lv_istore (lv' := [(6, .int r2), (5, .int (nI k)), (4, .int (nI (4 * j))), (0, .ref b), (1, .ref (ad 0)), (2, .ref (am 0)), (3, .ref (ad 424))]) hx hb mD_La_law_288 hl (by decide) rfl (fun ls hl => ?_)
  refine lv_aload_n hx hb mD_La_law_290 rfl (lv_at hl 5 rfl) ?_
  refine gc_Vi (As := []) (rest := []) hx hb hml hown htw hK hPm hS 0 (k_Mo_thrown l D ct am hJ y1) gZ0_ok (fun _ _ _ => trivial) (l_gT hU hS.1) (by decide) rfl rfl ww_675 ww_676 ww_677 ww_33 wC_Mo_thrown mP_Mo_thrown ⟨(Nat.le_of_ble_eq_true rfl), (Nat.le_of_ble_eq_true rfl)⟩ rfl hl.1 rfl (Nat.le_of_ble_eq_true rfl) mD_La_law_291 ⟨by show 433 + j + rm.cells + 0 + 0 ≤ 601024; omega, by show 5635 + 6 * j + rm.slots + 0 + 0 ≤ 7293034; omega⟩ (fun r3 y2 H locs hp hPm hz2 hk2 hS => ?_)
  have hP := l_keep (fun k j_ h1 h2 e_ => hd j_ k h2 h1 e_.symm) hP hk2
  obtain ⟨hq_, rfl⟩ := hp
  rw [hq_] at hPm
  refine lv_iload hx hb mD_La_law_294 (lv_at hl 1 rfl) ?_
  refine lv_icmp_eq (tgt := 301) hx hb mD_La_law_296 rfl (fun hc => ?_) (fun hc => absurd hM1.2.2.2.2.2 hc)
  refine lv_iload hx hb mD_La_law_301 (lv_at hl 1 rfl) ?_
  refine lv_if_ne (tgt := 318) hx hb mD_La_law_303 rfl (fun hc => ?_) (fun hc => ?_)
  · skip
    refine lv_goto (tgt := 1009) hx hb mD_La_law_318 rfl ?_
    exact W.widen (by show 433 + j + rm.cells + 0 + 0 ≤ 433 + (j + 1); omega) (by show 5635 + 6 * j + rm.slots + 0 + 0 ≤ 5635 + 6 * (j + 1); omega) (again z1 y1 α1 (nI k) _ _ _ hR1 hM1 (lv_sub hl [2, 3, 4, 5, 6] rfl) hP hPm hS)
  · have hk0 : k = 0 := (nI_eq (by omega) (by decide)).mp hc
    have hv2 := hv1 hk0
    have ho2 := ho1 hk0
    refine lv_aload_n hx hb mD_La_law_306 rfl (lv_at hl 6 rfl) ?_
    refine lv_iconst (v := nI 0) hx hb mD_La_law_307 (by decide) ?_
    refine l_lald hx hb hK hP mD_La_law_308 ?_
    refine lv_iload hx hb mD_La_law_309 (lv_at hl 0 rfl) ?_
    refine lv_i2l hx hb mD_La_law_311 rfl ?_
    refine W.lcmp hx hb mD_La_law_312 ?_
    refine lv_if_eq (tgt := 318) hx hb mD_La_law_313 rfl (fun hc => ?_) (fun hc => absurd (by rw [ho2, hv2]; exact lc_same _) hc)
    refine lv_goto (tgt := 1009) hx hb mD_La_law_318 rfl ?_
    exact W.widen (by show 433 + j + rm.cells + 0 + 0 ≤ 433 + (j + 1); omega) (by show 5635 + 6 * j + rm.slots + 0 + 0 ≤ 5635 + 6 * (j + 1); omega) (again z1 y1 α1 (nI k) _ _ _ hR1 hM1 (lv_sub hl [2, 3, 4, 5, 6] rfl) hP hPm hS)

set_option maxHeartbeats 4000000 in
theorem lc_blur {p : Program} {l : Launch} {e : Env} {s : State} {m : MethodId} {below : List Frame} {meth : Method} {c : Code} {b L : Nat} {xs : Nat → Int32} {D : va_G} {ct : Nat → ClassId} {ad am zt : Nat → Nat} (C : lCx p l s m c b L xs D ct ad am zt) {Q : State → Prop} {j : Nat} (hj : 4 * j + 3 < L) {z : lS} {y : mS} {α : tA} {t : Int32} (hR : tR α z.1.1) (hM : mR α t y) {H : Heap} {locs : List Loc} {ls : Array Slot} (hl : lv_has ls 7 [(4, .int (nI (4 * j))), (0, .ref b), (1, .ref (ad 0)), (2, .ref (am 0)), (3, .ref (ad 424))]) (hP : va_P D cL (gw 425 ad (lD ct ad z)) H) (hPm : va_P D cL (gw 8 am (mD ct am y)) H) (hS : va_S (tB s) s.heap H locs) (again : ∀ (z : lS) (y : mS) (α : tA) (t : Int32) (H : Heap) (locs : List Loc) (ls : Array Slot), tR α z.1.1 → mR α t y → lv_has ls 7 [(4, .int (nI (4 * j))), (0, .ref b), (1, .ref (ad 0)), (2, .ref (am 0)), (3, .ref (ad 424))] → va_P D cL (gw 425 ad (lD ct ad z)) H → va_P D cL (gw 8 am (mD ct am y)) H → va_S (tB s) s.heap H locs → W p l e room_1 s m #[.ref b] below meth c H locs (433 + (j + 1)) (5635 + 6 * (j + 1)) Q (F0 m 1009 ls [])) : W p l e room_1 s m #[.ref b] below meth c H locs (433 + j) (5635 + 6 * j) Q (F0 m 321 ls []) := by
  obtain ⟨hx, hb, hml, hown, htw, hX, hbl, hL, hls, h0, hC, hK, hI, hJ, hT, hU, hd⟩ := C
  have hZ := tZ_self s
  obtain ⟨k, v, α1, rm, ⟨hk3, hfr, hlo, hcl, hsl⟩, hH, hMo⟩ := p_blur l D ct ad am hI hJ hls h0 hC z y α t hR hM (xs (4 * j + 1)) (xs (4 * j + 2))
  refine lv_aload_n hx hb mD_La_law_321 rfl (lv_at hl 2 rfl) ?_
  refine lv_aload_n hx hb mD_La_law_322 rfl (lv_at hl 1 rfl) ?_
  refine lv_iload hx hb mD_La_law_323 (lv_at hl 0 rfl) ?_
  refine lv_iconst (v := nI 1) hx hb mD_La_law_325 (by decide) ?_
  refine lv_iadd hx hb mD_La_law_326 ?_
  rw [nI_add]
  refine l_sld hx hb hX hbl hL hS (4 * j + 1) (by omega) mD_La_law_327 ?_
  refine lv_aload_n hx hb mD_La_law_328 rfl (lv_at hl 1 rfl) ?_
  refine lv_iload hx hb mD_La_law_329 (lv_at hl 0 rfl) ?_
  refine lv_iconst (v := nI 2) hx hb mD_La_law_331 (by decide) ?_
  refine lv_iadd hx hb mD_La_law_332 ?_
  rw [nI_add]
  refine l_sld hx hb hX hbl hL hS (4 * j + 2) (by omega) mD_La_law_333 ?_
  refine lv_aload_n hx hb mD_La_law_334 rfl (lv_at hl 4 rfl) ?_
  refine gc_Hi (As := [.ref (ad 0), .int (xs (4 * j + 1)), .int (xs (4 * j + 2)), .ref (ad 424)]) (rest := []) hx hb hml hown htw hK hP hS hH (tZ_ok s) (tZ_in hZ hS (l_gT hT hS.1)) (l_gT hT hS.1) ww_431 ww_432 ww_22 wH_La_blur mP_La_blur ⟨hfr, hlo⟩ rfl hl.1 rfl (Nat.le_of_ble_eq_true rfl) mD_La_law_335 ⟨by show 433 + j + rm.cells ≤ 601024; omega, by show 5635 + 6 * j + rm.slots ≤ 7293034; omega⟩ (fun r1 z1 H locs hp hP hz1 hk1 hS => ?_)
  have hPm := l_keep hd hPm hk1
  obtain ⟨rfl, hR1, ho1⟩ := hp
  refine lv_istore (lv' := [(5, .int (nI k)), (4, .int (nI (4 * j))), (0, .ref b), (1, .ref (ad 0)), (2, .ref (am 0)), (3, .ref (ad 424))]) hx hb mD_La_law_338 hl (by decide) rfl (fun ls hl => ?_)
  refine lv_aload_n hx hb mD_La_law_340 rfl (lv_at hl 4 rfl) ?_
  refine lv_aload_n hx hb mD_La_law_341 rfl (lv_at hl 2 rfl) ?_
  refine lv_iload hx hb mD_La_law_342 (lv_at hl 1 rfl) ?_
  refine lv_iconst (v := nI 1) hx hb mD_La_law_344 (by decide) ?_
  refine lv_iadd hx hb mD_La_law_345 ?_
  rw [nI_add]
  refine l_sld hx hb hX hbl hL hS (4 * j + 1) (by omega) mD_La_law_346 ?_
  refine lv_aload_n hx hb mD_La_law_347 rfl (lv_at hl 2 rfl) ?_
  refine lv_iload hx hb mD_La_law_348 (lv_at hl 1 rfl) ?_
  refine lv_iconst (v := nI 2) hx hb mD_La_law_350 (by decide) ?_
  refine lv_iadd hx hb mD_La_law_351 ?_
  rw [nI_add]
  refine l_sld hx hb hX hbl hL hS (4 * j + 2) (by omega) mD_La_law_352 ?_
  refine gc_Vi (As := [.int (xs (4 * j + 1)), .int (xs (4 * j + 2))]) (rest := []) hx hb hml hown htw hK hPm hS 0 hMo gZ0_ok (fun _ _ _ => trivial) (l_gT hU hS.1) (by decide) rfl rfl ww_711 ww_712 ww_713 ww_33 wC_Mo_blur mP_Mo_blur ⟨(Nat.le_of_ble_eq_true rfl), (Nat.le_of_ble_eq_true rfl)⟩ rfl hl.1 rfl (Nat.le_of_ble_eq_true rfl) mD_La_law_353 ⟨by show 433 + j + rm.cells + 0 ≤ 601024; omega, by show 5635 + 6 * j + rm.slots + 0 ≤ 7293034; omega⟩ (fun r2 y1 H locs hp hPm hz2 hk2 hS => ?_)
  have hP := l_keep (fun k j_ h1 h2 e_ => hd j_ k h2 h1 e_.symm) hP hk2
  obtain ⟨hM1, hv1⟩ := hp
  refine lv_istore (lv' := [(6, .int r2), (5, .int (nI k)), (4, .int (nI (4 * j))), (0, .ref b), (1, .ref (ad 0)), (2, .ref (am 0)), (3, .ref (ad 424))]) hx hb mD_La_law_356 hl (by decide) rfl (fun ls hl => ?_)
  refine lv_aload_n hx hb mD_La_law_358 rfl (lv_at hl 5 rfl) ?_
  refine gc_Vi (As := []) (rest := []) hx hb hml hown htw hK hPm hS 0 (k_Mo_thrown l D ct am hJ y1) gZ0_ok (fun _ _ _ => trivial) (l_gT hU hS.1) (by decide) rfl rfl ww_675 ww_676 ww_677 ww_33 wC_Mo_thrown mP_Mo_thrown ⟨(Nat.le_of_ble_eq_true rfl), (Nat.le_of_ble_eq_true rfl)⟩ rfl hl.1 rfl (Nat.le_of_ble_eq_true rfl) mD_La_law_359 ⟨by show 433 + j + rm.cells + 0 + 0 ≤ 601024; omega, by show 5635 + 6 * j + rm.slots + 0 + 0 ≤ 7293034; omega⟩ (fun r3 y2 H locs hp hPm hz2 hk2 hS => ?_)
  have hP := l_keep (fun k j_ h1 h2 e_ => hd j_ k h2 h1 e_.symm) hP hk2
  obtain ⟨hq_, rfl⟩ := hp
  rw [hq_] at hPm
  refine lv_iload hx hb mD_La_law_362 (lv_at hl 1 rfl) ?_
  refine lv_icmp_eq (tgt := 369) hx hb mD_La_law_364 rfl (fun hc => ?_) (fun hc => absurd hM1.2.2.2.2.2 hc)
  refine lv_iload hx hb mD_La_law_369 (lv_at hl 1 rfl) ?_
  refine lv_if_ne (tgt := 386) hx hb mD_La_law_371 rfl (fun hc => ?_) (fun hc => ?_)
  · skip
    refine lv_goto (tgt := 1009) hx hb mD_La_law_386 rfl ?_
    exact W.widen (by show 433 + j + rm.cells + 0 + 0 ≤ 433 + (j + 1); omega) (by show 5635 + 6 * j + rm.slots + 0 + 0 ≤ 5635 + 6 * (j + 1); omega) (again z1 y1 α1 (nI k) _ _ _ hR1 hM1 (lv_sub hl [2, 3, 4, 5, 6] rfl) hP hPm hS)
  · have hk0 : k = 0 := (nI_eq (by omega) (by decide)).mp hc
    have hv2 := hv1 hk0
    have ho2 := ho1 hk0
    refine lv_aload_n hx hb mD_La_law_374 rfl (lv_at hl 6 rfl) ?_
    refine lv_iconst (v := nI 0) hx hb mD_La_law_375 (by decide) ?_
    refine l_lald hx hb hK hP mD_La_law_376 ?_
    refine lv_iload hx hb mD_La_law_377 (lv_at hl 0 rfl) ?_
    refine lv_i2l hx hb mD_La_law_379 rfl ?_
    refine W.lcmp hx hb mD_La_law_380 ?_
    refine lv_if_eq (tgt := 386) hx hb mD_La_law_381 rfl (fun hc => ?_) (fun hc => absurd (by rw [ho2, hv2]; exact lc_same _) hc)
    refine lv_goto (tgt := 1009) hx hb mD_La_law_386 rfl ?_
    exact W.widen (by show 433 + j + rm.cells + 0 + 0 ≤ 433 + (j + 1); omega) (by show 5635 + 6 * j + rm.slots + 0 + 0 ≤ 5635 + 6 * (j + 1); omega) (again z1 y1 α1 (nI k) _ _ _ hR1 hM1 (lv_sub hl [2, 3, 4, 5, 6] rfl) hP hPm hS)

set_option maxHeartbeats 4000000 in
theorem lc_pile {p : Program} {l : Launch} {e : Env} {s : State} {m : MethodId} {below : List Frame} {meth : Method} {c : Code} {b L : Nat} {xs : Nat → Int32} {D : va_G} {ct : Nat → ClassId} {ad am zt : Nat → Nat} (C : lCx p l s m c b L xs D ct ad am zt) {Q : State → Prop} {j : Nat} (hj : 4 * j + 3 < L) {z : lS} {y : mS} {α : tA} {t : Int32} (hR : tR α z.1.1) (hM : mR α t y) {H : Heap} {locs : List Loc} {ls : Array Slot} (hl : lv_has ls 7 [(4, .int (nI (4 * j))), (0, .ref b), (1, .ref (ad 0)), (2, .ref (am 0)), (3, .ref (ad 424))]) (hP : va_P D cL (gw 425 ad (lD ct ad z)) H) (hPm : va_P D cL (gw 8 am (mD ct am y)) H) (hS : va_S (tB s) s.heap H locs) (again : ∀ (z : lS) (y : mS) (α : tA) (t : Int32) (H : Heap) (locs : List Loc) (ls : Array Slot), tR α z.1.1 → mR α t y → lv_has ls 7 [(4, .int (nI (4 * j))), (0, .ref b), (1, .ref (ad 0)), (2, .ref (am 0)), (3, .ref (ad 424))] → va_P D cL (gw 425 ad (lD ct ad z)) H → va_P D cL (gw 8 am (mD ct am y)) H → va_S (tB s) s.heap H locs → W p l e room_1 s m #[.ref b] below meth c H locs (433 + (j + 1)) (5635 + 6 * (j + 1)) Q (F0 m 1009 ls [])) : W p l e room_1 s m #[.ref b] below meth c H locs (433 + j) (5635 + 6 * j) Q (F0 m 389 ls []) := by
  obtain ⟨hx, hb, hml, hown, htw, hX, hbl, hL, hls, h0, hC, hK, hI, hJ, hT, hU, hd⟩ := C
  have hZ := tZ_self s
  obtain ⟨k, v, α1, rm, ⟨hk3, hfr, hlo, hcl, hsl⟩, hH, hMo⟩ := p_pile l D ct ad am hI hJ hls h0 hC z y α t hR hM (xs (4 * j + 1)) (xs (4 * j + 2))
  refine lv_aload_n hx hb mD_La_law_389 rfl (lv_at hl 2 rfl) ?_
  refine lv_aload_n hx hb mD_La_law_390 rfl (lv_at hl 1 rfl) ?_
  refine lv_iload hx hb mD_La_law_391 (lv_at hl 0 rfl) ?_
  refine lv_iconst (v := nI 1) hx hb mD_La_law_393 (by decide) ?_
  refine lv_iadd hx hb mD_La_law_394 ?_
  rw [nI_add]
  refine l_sld hx hb hX hbl hL hS (4 * j + 1) (by omega) mD_La_law_395 ?_
  refine lv_aload_n hx hb mD_La_law_396 rfl (lv_at hl 1 rfl) ?_
  refine lv_iload hx hb mD_La_law_397 (lv_at hl 0 rfl) ?_
  refine lv_iconst (v := nI 2) hx hb mD_La_law_399 (by decide) ?_
  refine lv_iadd hx hb mD_La_law_400 ?_
  rw [nI_add]
  refine l_sld hx hb hX hbl hL hS (4 * j + 2) (by omega) mD_La_law_401 ?_
  refine lv_aload_n hx hb mD_La_law_402 rfl (lv_at hl 4 rfl) ?_
  refine gc_Hi (As := [.ref (ad 0), .int (xs (4 * j + 1)), .int (xs (4 * j + 2)), .ref (ad 424)]) (rest := []) hx hb hml hown htw hK hP hS hH (tZ_ok s) (tZ_in hZ hS (l_gT hT hS.1)) (l_gT hT hS.1) ww_470 ww_471 ww_22 wH_La_pile mP_La_pile ⟨hfr, hlo⟩ rfl hl.1 rfl (Nat.le_of_ble_eq_true rfl) mD_La_law_403 ⟨by show 433 + j + rm.cells ≤ 601024; omega, by show 5635 + 6 * j + rm.slots ≤ 7293034; omega⟩ (fun r1 z1 H locs hp hP hz1 hk1 hS => ?_)
  have hPm := l_keep hd hPm hk1
  obtain ⟨rfl, hR1, ho1⟩ := hp
  refine lv_istore (lv' := [(5, .int (nI k)), (4, .int (nI (4 * j))), (0, .ref b), (1, .ref (ad 0)), (2, .ref (am 0)), (3, .ref (ad 424))]) hx hb mD_La_law_406 hl (by decide) rfl (fun ls hl => ?_)
  refine lv_aload_n hx hb mD_La_law_408 rfl (lv_at hl 4 rfl) ?_
  refine lv_aload_n hx hb mD_La_law_409 rfl (lv_at hl 2 rfl) ?_
  refine lv_iload hx hb mD_La_law_410 (lv_at hl 1 rfl) ?_
  refine lv_iconst (v := nI 1) hx hb mD_La_law_412 (by decide) ?_
  refine lv_iadd hx hb mD_La_law_413 ?_
  rw [nI_add]
  refine l_sld hx hb hX hbl hL hS (4 * j + 1) (by omega) mD_La_law_414 ?_
  refine lv_aload_n hx hb mD_La_law_415 rfl (lv_at hl 2 rfl) ?_
  refine lv_iload hx hb mD_La_law_416 (lv_at hl 1 rfl) ?_
  refine lv_iconst (v := nI 2) hx hb mD_La_law_418 (by decide) ?_
  refine lv_iadd hx hb mD_La_law_419 ?_
  rw [nI_add]
  refine l_sld hx hb hX hbl hL hS (4 * j + 2) (by omega) mD_La_law_420 ?_
  refine gc_Vi (As := [.int (xs (4 * j + 1)), .int (xs (4 * j + 2))]) (rest := []) hx hb hml hown htw hK hPm hS 0 hMo gZ0_ok (fun _ _ _ => trivial) (l_gT hU hS.1) (by decide) rfl rfl ww_721 ww_722 ww_723 ww_33 wC_Mo_pile mP_Mo_pile ⟨(Nat.le_of_ble_eq_true rfl), (Nat.le_of_ble_eq_true rfl)⟩ rfl hl.1 rfl (Nat.le_of_ble_eq_true rfl) mD_La_law_421 ⟨by show 433 + j + rm.cells + 0 ≤ 601024; omega, by show 5635 + 6 * j + rm.slots + 0 ≤ 7293034; omega⟩ (fun r2 y1 H locs hp hPm hz2 hk2 hS => ?_)
  have hP := l_keep (fun k j_ h1 h2 e_ => hd j_ k h2 h1 e_.symm) hP hk2
  obtain ⟨hM1, hv1⟩ := hp
  refine lv_istore (lv' := [(6, .int r2), (5, .int (nI k)), (4, .int (nI (4 * j))), (0, .ref b), (1, .ref (ad 0)), (2, .ref (am 0)), (3, .ref (ad 424))]) hx hb mD_La_law_424 hl (by decide) rfl (fun ls hl => ?_)
  refine lv_aload_n hx hb mD_La_law_426 rfl (lv_at hl 5 rfl) ?_
  refine gc_Vi (As := []) (rest := []) hx hb hml hown htw hK hPm hS 0 (k_Mo_thrown l D ct am hJ y1) gZ0_ok (fun _ _ _ => trivial) (l_gT hU hS.1) (by decide) rfl rfl ww_675 ww_676 ww_677 ww_33 wC_Mo_thrown mP_Mo_thrown ⟨(Nat.le_of_ble_eq_true rfl), (Nat.le_of_ble_eq_true rfl)⟩ rfl hl.1 rfl (Nat.le_of_ble_eq_true rfl) mD_La_law_427 ⟨by show 433 + j + rm.cells + 0 + 0 ≤ 601024; omega, by show 5635 + 6 * j + rm.slots + 0 + 0 ≤ 7293034; omega⟩ (fun r3 y2 H locs hp hPm hz2 hk2 hS => ?_)
  have hP := l_keep (fun k j_ h1 h2 e_ => hd j_ k h2 h1 e_.symm) hP hk2
  obtain ⟨hq_, rfl⟩ := hp
  rw [hq_] at hPm
  refine lv_iload hx hb mD_La_law_430 (lv_at hl 1 rfl) ?_
  refine lv_icmp_eq (tgt := 437) hx hb mD_La_law_432 rfl (fun hc => ?_) (fun hc => absurd hM1.2.2.2.2.2 hc)
  refine lv_iload hx hb mD_La_law_437 (lv_at hl 1 rfl) ?_
  refine lv_if_ne (tgt := 454) hx hb mD_La_law_439 rfl (fun hc => ?_) (fun hc => ?_)
  · skip
    refine lv_goto (tgt := 1009) hx hb mD_La_law_454 rfl ?_
    exact W.widen (by show 433 + j + rm.cells + 0 + 0 ≤ 433 + (j + 1); omega) (by show 5635 + 6 * j + rm.slots + 0 + 0 ≤ 5635 + 6 * (j + 1); omega) (again z1 y1 α1 (nI k) _ _ _ hR1 hM1 (lv_sub hl [2, 3, 4, 5, 6] rfl) hP hPm hS)
  · have hk0 : k = 0 := (nI_eq (by omega) (by decide)).mp hc
    have hv2 := hv1 hk0
    have ho2 := ho1 hk0
    refine lv_aload_n hx hb mD_La_law_442 rfl (lv_at hl 6 rfl) ?_
    refine lv_iconst (v := nI 0) hx hb mD_La_law_443 (by decide) ?_
    refine l_lald hx hb hK hP mD_La_law_444 ?_
    refine lv_iload hx hb mD_La_law_445 (lv_at hl 0 rfl) ?_
    refine lv_i2l hx hb mD_La_law_447 rfl ?_
    refine W.lcmp hx hb mD_La_law_448 ?_
    refine lv_if_eq (tgt := 454) hx hb mD_La_law_449 rfl (fun hc => ?_) (fun hc => absurd (by rw [ho2, hv2]; exact lc_same _) hc)
    refine lv_goto (tgt := 1009) hx hb mD_La_law_454 rfl ?_
    exact W.widen (by show 433 + j + rm.cells + 0 + 0 ≤ 433 + (j + 1); omega) (by show 5635 + 6 * j + rm.slots + 0 + 0 ≤ 5635 + 6 * (j + 1); omega) (again z1 y1 α1 (nI k) _ _ _ hR1 hM1 (lv_sub hl [2, 3, 4, 5, 6] rfl) hP hPm hS)

set_option maxHeartbeats 4000000 in
theorem lc_gate {p : Program} {l : Launch} {e : Env} {s : State} {m : MethodId} {below : List Frame} {meth : Method} {c : Code} {b L : Nat} {xs : Nat → Int32} {D : va_G} {ct : Nat → ClassId} {ad am zt : Nat → Nat} (C : lCx p l s m c b L xs D ct ad am zt) {Q : State → Prop} {j : Nat} (hj : 4 * j + 3 < L) {z : lS} {y : mS} {α : tA} {t : Int32} (hR : tR α z.1.1) (hM : mR α t y) {H : Heap} {locs : List Loc} {ls : Array Slot} (hl : lv_has ls 7 [(4, .int (nI (4 * j))), (0, .ref b), (1, .ref (ad 0)), (2, .ref (am 0)), (3, .ref (ad 424))]) (hP : va_P D cL (gw 425 ad (lD ct ad z)) H) (hPm : va_P D cL (gw 8 am (mD ct am y)) H) (hS : va_S (tB s) s.heap H locs) (again : ∀ (z : lS) (y : mS) (α : tA) (t : Int32) (H : Heap) (locs : List Loc) (ls : Array Slot), tR α z.1.1 → mR α t y → lv_has ls 7 [(4, .int (nI (4 * j))), (0, .ref b), (1, .ref (ad 0)), (2, .ref (am 0)), (3, .ref (ad 424))] → va_P D cL (gw 425 ad (lD ct ad z)) H → va_P D cL (gw 8 am (mD ct am y)) H → va_S (tB s) s.heap H locs → W p l e room_1 s m #[.ref b] below meth c H locs (433 + (j + 1)) (5635 + 6 * (j + 1)) Q (F0 m 1009 ls [])) : W p l e room_1 s m #[.ref b] below meth c H locs (433 + j) (5635 + 6 * j) Q (F0 m 457 ls []) := by
  obtain ⟨hx, hb, hml, hown, htw, hX, hbl, hL, hls, h0, hC, hK, hI, hJ, hT, hU, hd⟩ := C
  have hZ := tZ_self s
  obtain ⟨k, v, α1, rm, ⟨hk3, hfr, hlo, hcl, hsl⟩, hH, hMo⟩ := p_gate l D ct ad am hI hJ hls h0 hC z y α t hR hM (xs (4 * j + 1)) (xs (4 * j + 2)) (xs (4 * j + 3))
  refine lv_aload_n hx hb mD_La_law_457 rfl (lv_at hl 2 rfl) ?_
  refine lv_aload_n hx hb mD_La_law_458 rfl (lv_at hl 1 rfl) ?_
  refine lv_iload hx hb mD_La_law_459 (lv_at hl 0 rfl) ?_
  refine lv_iconst (v := nI 1) hx hb mD_La_law_461 (by decide) ?_
  refine lv_iadd hx hb mD_La_law_462 ?_
  rw [nI_add]
  refine l_sld hx hb hX hbl hL hS (4 * j + 1) (by omega) mD_La_law_463 ?_
  refine lv_aload_n hx hb mD_La_law_464 rfl (lv_at hl 1 rfl) ?_
  refine lv_iload hx hb mD_La_law_465 (lv_at hl 0 rfl) ?_
  refine lv_iconst (v := nI 2) hx hb mD_La_law_467 (by decide) ?_
  refine lv_iadd hx hb mD_La_law_468 ?_
  rw [nI_add]
  refine l_sld hx hb hX hbl hL hS (4 * j + 2) (by omega) mD_La_law_469 ?_
  refine lv_aload_n hx hb mD_La_law_470 rfl (lv_at hl 1 rfl) ?_
  refine lv_iload hx hb mD_La_law_471 (lv_at hl 0 rfl) ?_
  refine lv_iconst (v := nI 3) hx hb mD_La_law_473 (by decide) ?_
  refine lv_iadd hx hb mD_La_law_474 ?_
  rw [nI_add]
  refine l_sld hx hb hX hbl hL hS (4 * j + 3) (by omega) mD_La_law_475 ?_
  refine lv_aload_n hx hb mD_La_law_476 rfl (lv_at hl 4 rfl) ?_
  refine gc_Hi (As := [.ref (ad 0), .int (xs (4 * j + 1)), .int (xs (4 * j + 2)), .int (xs (4 * j + 3)), .ref (ad 424)]) (rest := []) hx hb hml hown htw hK hP hS hH (tZ_ok s) (tZ_in hZ hS (l_gT hT hS.1)) (l_gT hT hS.1) ww_478 ww_479 ww_22 wH_La_gate mP_La_gate ⟨hfr, hlo⟩ rfl hl.1 rfl (Nat.le_of_ble_eq_true rfl) mD_La_law_477 ⟨by show 433 + j + rm.cells ≤ 601024; omega, by show 5635 + 6 * j + rm.slots ≤ 7293034; omega⟩ (fun r1 z1 H locs hp hP hz1 hk1 hS => ?_)
  have hPm := l_keep hd hPm hk1
  obtain ⟨rfl, hR1, ho1⟩ := hp
  refine lv_istore (lv' := [(5, .int (nI k)), (4, .int (nI (4 * j))), (0, .ref b), (1, .ref (ad 0)), (2, .ref (am 0)), (3, .ref (ad 424))]) hx hb mD_La_law_480 hl (by decide) rfl (fun ls hl => ?_)
  refine lv_aload_n hx hb mD_La_law_482 rfl (lv_at hl 4 rfl) ?_
  refine lv_aload_n hx hb mD_La_law_483 rfl (lv_at hl 2 rfl) ?_
  refine lv_iload hx hb mD_La_law_484 (lv_at hl 1 rfl) ?_
  refine lv_iconst (v := nI 1) hx hb mD_La_law_486 (by decide) ?_
  refine lv_iadd hx hb mD_La_law_487 ?_
  rw [nI_add]
  refine l_sld hx hb hX hbl hL hS (4 * j + 1) (by omega) mD_La_law_488 ?_
  refine lv_aload_n hx hb mD_La_law_489 rfl (lv_at hl 2 rfl) ?_
  refine lv_iload hx hb mD_La_law_490 (lv_at hl 1 rfl) ?_
  refine lv_iconst (v := nI 2) hx hb mD_La_law_492 (by decide) ?_
  refine lv_iadd hx hb mD_La_law_493 ?_
  rw [nI_add]
  refine l_sld hx hb hX hbl hL hS (4 * j + 2) (by omega) mD_La_law_494 ?_
  refine lv_aload_n hx hb mD_La_law_495 rfl (lv_at hl 2 rfl) ?_
  refine lv_iload hx hb mD_La_law_496 (lv_at hl 1 rfl) ?_
  refine lv_iconst (v := nI 3) hx hb mD_La_law_498 (by decide) ?_
  refine lv_iadd hx hb mD_La_law_499 ?_
  rw [nI_add]
  refine l_sld hx hb hX hbl hL hS (4 * j + 3) (by omega) mD_La_law_500 ?_
  refine gc_Vi (As := [.int (xs (4 * j + 1)), .int (xs (4 * j + 2)), .int (xs (4 * j + 3))]) (rest := []) hx hb hml hown htw hK hPm hS 0 hMo gZ0_ok (fun _ _ _ => trivial) (l_gT hU hS.1) (by decide) rfl rfl ww_726 ww_727 ww_728 ww_33 wC_Mo_gate mP_Mo_gate ⟨(Nat.le_of_ble_eq_true rfl), (Nat.le_of_ble_eq_true rfl)⟩ rfl hl.1 rfl (Nat.le_of_ble_eq_true rfl) mD_La_law_501 ⟨by show 433 + j + rm.cells + 0 ≤ 601024; omega, by show 5635 + 6 * j + rm.slots + 0 ≤ 7293034; omega⟩ (fun r2 y1 H locs hp hPm hz2 hk2 hS => ?_)
  have hP := l_keep (fun k j_ h1 h2 e_ => hd j_ k h2 h1 e_.symm) hP hk2
  obtain ⟨hM1, hv1⟩ := hp
  refine lv_istore (lv' := [(6, .int r2), (5, .int (nI k)), (4, .int (nI (4 * j))), (0, .ref b), (1, .ref (ad 0)), (2, .ref (am 0)), (3, .ref (ad 424))]) hx hb mD_La_law_504 hl (by decide) rfl (fun ls hl => ?_)
  refine lv_aload_n hx hb mD_La_law_506 rfl (lv_at hl 5 rfl) ?_
  refine gc_Vi (As := []) (rest := []) hx hb hml hown htw hK hPm hS 0 (k_Mo_thrown l D ct am hJ y1) gZ0_ok (fun _ _ _ => trivial) (l_gT hU hS.1) (by decide) rfl rfl ww_675 ww_676 ww_677 ww_33 wC_Mo_thrown mP_Mo_thrown ⟨(Nat.le_of_ble_eq_true rfl), (Nat.le_of_ble_eq_true rfl)⟩ rfl hl.1 rfl (Nat.le_of_ble_eq_true rfl) mD_La_law_507 ⟨by show 433 + j + rm.cells + 0 + 0 ≤ 601024; omega, by show 5635 + 6 * j + rm.slots + 0 + 0 ≤ 7293034; omega⟩ (fun r3 y2 H locs hp hPm hz2 hk2 hS => ?_)
  have hP := l_keep (fun k j_ h1 h2 e_ => hd j_ k h2 h1 e_.symm) hP hk2
  obtain ⟨hq_, rfl⟩ := hp
  rw [hq_] at hPm
  refine lv_iload hx hb mD_La_law_510 (lv_at hl 1 rfl) ?_
  refine lv_icmp_eq (tgt := 517) hx hb mD_La_law_512 rfl (fun hc => ?_) (fun hc => absurd hM1.2.2.2.2.2 hc)
  refine lv_iload hx hb mD_La_law_517 (lv_at hl 1 rfl) ?_
  refine lv_if_ne (tgt := 534) hx hb mD_La_law_519 rfl (fun hc => ?_) (fun hc => ?_)
  · skip
    refine lv_goto (tgt := 1009) hx hb mD_La_law_534 rfl ?_
    exact W.widen (by show 433 + j + rm.cells + 0 + 0 ≤ 433 + (j + 1); omega) (by show 5635 + 6 * j + rm.slots + 0 + 0 ≤ 5635 + 6 * (j + 1); omega) (again z1 y1 α1 (nI k) _ _ _ hR1 hM1 (lv_sub hl [2, 3, 4, 5, 6] rfl) hP hPm hS)
  · have hk0 : k = 0 := (nI_eq (by omega) (by decide)).mp hc
    have hv2 := hv1 hk0
    have ho2 := ho1 hk0
    refine lv_aload_n hx hb mD_La_law_522 rfl (lv_at hl 6 rfl) ?_
    refine lv_iconst (v := nI 0) hx hb mD_La_law_523 (by decide) ?_
    refine l_lald hx hb hK hP mD_La_law_524 ?_
    refine lv_iload hx hb mD_La_law_525 (lv_at hl 0 rfl) ?_
    refine lv_i2l hx hb mD_La_law_527 rfl ?_
    refine W.lcmp hx hb mD_La_law_528 ?_
    refine lv_if_eq (tgt := 534) hx hb mD_La_law_529 rfl (fun hc => ?_) (fun hc => absurd (by rw [ho2, hv2]; exact lc_same _) hc)
    refine lv_goto (tgt := 1009) hx hb mD_La_law_534 rfl ?_
    exact W.widen (by show 433 + j + rm.cells + 0 + 0 ≤ 433 + (j + 1); omega) (by show 5635 + 6 * j + rm.slots + 0 + 0 ≤ 5635 + 6 * (j + 1); omega) (again z1 y1 α1 (nI k) _ _ _ hR1 hM1 (lv_sub hl [2, 3, 4, 5, 6] rfl) hP hPm hS)

set_option maxHeartbeats 4000000 in
theorem lc_choose {p : Program} {l : Launch} {e : Env} {s : State} {m : MethodId} {below : List Frame} {meth : Method} {c : Code} {b L : Nat} {xs : Nat → Int32} {D : va_G} {ct : Nat → ClassId} {ad am zt : Nat → Nat} (C : lCx p l s m c b L xs D ct ad am zt) {Q : State → Prop} {j : Nat} (hj : 4 * j + 3 < L) {z : lS} {y : mS} {α : tA} {t : Int32} (hR : tR α z.1.1) (hM : mR α t y) {H : Heap} {locs : List Loc} {ls : Array Slot} (hl : lv_has ls 7 [(4, .int (nI (4 * j))), (0, .ref b), (1, .ref (ad 0)), (2, .ref (am 0)), (3, .ref (ad 424))]) (hP : va_P D cL (gw 425 ad (lD ct ad z)) H) (hPm : va_P D cL (gw 8 am (mD ct am y)) H) (hS : va_S (tB s) s.heap H locs) (again : ∀ (z : lS) (y : mS) (α : tA) (t : Int32) (H : Heap) (locs : List Loc) (ls : Array Slot), tR α z.1.1 → mR α t y → lv_has ls 7 [(4, .int (nI (4 * j))), (0, .ref b), (1, .ref (ad 0)), (2, .ref (am 0)), (3, .ref (ad 424))] → va_P D cL (gw 425 ad (lD ct ad z)) H → va_P D cL (gw 8 am (mD ct am y)) H → va_S (tB s) s.heap H locs → W p l e room_1 s m #[.ref b] below meth c H locs (433 + (j + 1)) (5635 + 6 * (j + 1)) Q (F0 m 1009 ls [])) : W p l e room_1 s m #[.ref b] below meth c H locs (433 + j) (5635 + 6 * j) Q (F0 m 537 ls []) := by
  obtain ⟨hx, hb, hml, hown, htw, hX, hbl, hL, hls, h0, hC, hK, hI, hJ, hT, hU, hd⟩ := C
  have hZ := tZ_self s
  obtain ⟨k, v, α1, rm, ⟨hk3, hfr, hlo, hcl, hsl⟩, hH, hMo⟩ := p_choose l D ct ad am hI hJ hls h0 hC z y α t hR hM (xs (4 * j + 1)) (xs (4 * j + 2)) (xs (4 * j + 3))
  refine lv_aload_n hx hb mD_La_law_537 rfl (lv_at hl 2 rfl) ?_
  refine lv_aload_n hx hb mD_La_law_538 rfl (lv_at hl 1 rfl) ?_
  refine lv_iload hx hb mD_La_law_539 (lv_at hl 0 rfl) ?_
  refine lv_iconst (v := nI 1) hx hb mD_La_law_541 (by decide) ?_
  refine lv_iadd hx hb mD_La_law_542 ?_
  rw [nI_add]
  refine l_sld hx hb hX hbl hL hS (4 * j + 1) (by omega) mD_La_law_543 ?_
  refine lv_aload_n hx hb mD_La_law_544 rfl (lv_at hl 1 rfl) ?_
  refine lv_iload hx hb mD_La_law_545 (lv_at hl 0 rfl) ?_
  refine lv_iconst (v := nI 2) hx hb mD_La_law_547 (by decide) ?_
  refine lv_iadd hx hb mD_La_law_548 ?_
  rw [nI_add]
  refine l_sld hx hb hX hbl hL hS (4 * j + 2) (by omega) mD_La_law_549 ?_
  refine lv_aload_n hx hb mD_La_law_550 rfl (lv_at hl 1 rfl) ?_
  refine lv_iload hx hb mD_La_law_551 (lv_at hl 0 rfl) ?_
  refine lv_iconst (v := nI 3) hx hb mD_La_law_553 (by decide) ?_
  refine lv_iadd hx hb mD_La_law_554 ?_
  rw [nI_add]
  refine l_sld hx hb hX hbl hL hS (4 * j + 3) (by omega) mD_La_law_555 ?_
  refine lv_aload_n hx hb mD_La_law_556 rfl (lv_at hl 4 rfl) ?_
  refine gc_Hi (As := [.ref (ad 0), .int (xs (4 * j + 1)), .int (xs (4 * j + 2)), .int (xs (4 * j + 3)), .ref (ad 424)]) (rest := []) hx hb hml hown htw hK hP hS hH (tZ_ok s) (tZ_in hZ hS (l_gT hT hS.1)) (l_gT hT hS.1) ww_557 ww_558 ww_22 wH_La_choose mP_La_choose ⟨hfr, hlo⟩ rfl hl.1 rfl (Nat.le_of_ble_eq_true rfl) mD_La_law_557 ⟨by show 433 + j + rm.cells ≤ 601024; omega, by show 5635 + 6 * j + rm.slots ≤ 7293034; omega⟩ (fun r1 z1 H locs hp hP hz1 hk1 hS => ?_)
  have hPm := l_keep hd hPm hk1
  obtain ⟨rfl, hR1, ho1⟩ := hp
  refine lv_istore (lv' := [(5, .int (nI k)), (4, .int (nI (4 * j))), (0, .ref b), (1, .ref (ad 0)), (2, .ref (am 0)), (3, .ref (ad 424))]) hx hb mD_La_law_560 hl (by decide) rfl (fun ls hl => ?_)
  refine lv_aload_n hx hb mD_La_law_562 rfl (lv_at hl 4 rfl) ?_
  refine lv_aload_n hx hb mD_La_law_563 rfl (lv_at hl 2 rfl) ?_
  refine lv_iload hx hb mD_La_law_564 (lv_at hl 1 rfl) ?_
  refine lv_iconst (v := nI 1) hx hb mD_La_law_566 (by decide) ?_
  refine lv_iadd hx hb mD_La_law_567 ?_
  rw [nI_add]
  refine l_sld hx hb hX hbl hL hS (4 * j + 1) (by omega) mD_La_law_568 ?_
  refine lv_aload_n hx hb mD_La_law_569 rfl (lv_at hl 2 rfl) ?_
  refine lv_iload hx hb mD_La_law_570 (lv_at hl 1 rfl) ?_
  refine lv_iconst (v := nI 2) hx hb mD_La_law_572 (by decide) ?_
  refine lv_iadd hx hb mD_La_law_573 ?_
  rw [nI_add]
  refine l_sld hx hb hX hbl hL hS (4 * j + 2) (by omega) mD_La_law_574 ?_
  refine lv_aload_n hx hb mD_La_law_575 rfl (lv_at hl 2 rfl) ?_
  refine lv_iload hx hb mD_La_law_576 (lv_at hl 1 rfl) ?_
  refine lv_iconst (v := nI 3) hx hb mD_La_law_578 (by decide) ?_
  refine lv_iadd hx hb mD_La_law_579 ?_
  rw [nI_add]
  refine l_sld hx hb hX hbl hL hS (4 * j + 3) (by omega) mD_La_law_580 ?_
  refine gc_Vi (As := [.int (xs (4 * j + 1)), .int (xs (4 * j + 2)), .int (xs (4 * j + 3))]) (rest := []) hx hb hml hown htw hK hPm hS 0 hMo gZ0_ok (fun _ _ _ => trivial) (l_gT hU hS.1) (by decide) rfl rfl ww_744 ww_745 ww_746 ww_33 wC_Mo_choose mP_Mo_choose ⟨(Nat.le_of_ble_eq_true rfl), (Nat.le_of_ble_eq_true rfl)⟩ rfl hl.1 rfl (Nat.le_of_ble_eq_true rfl) mD_La_law_581 ⟨by show 433 + j + rm.cells + 0 ≤ 601024; omega, by show 5635 + 6 * j + rm.slots + 0 ≤ 7293034; omega⟩ (fun r2 y1 H locs hp hPm hz2 hk2 hS => ?_)
  have hP := l_keep (fun k j_ h1 h2 e_ => hd j_ k h2 h1 e_.symm) hP hk2
  obtain ⟨hM1, hv1⟩ := hp
  refine lv_istore (lv' := [(6, .int r2), (5, .int (nI k)), (4, .int (nI (4 * j))), (0, .ref b), (1, .ref (ad 0)), (2, .ref (am 0)), (3, .ref (ad 424))]) hx hb mD_La_law_584 hl (by decide) rfl (fun ls hl => ?_)
  refine lv_aload_n hx hb mD_La_law_586 rfl (lv_at hl 5 rfl) ?_
  refine gc_Vi (As := []) (rest := []) hx hb hml hown htw hK hPm hS 0 (k_Mo_thrown l D ct am hJ y1) gZ0_ok (fun _ _ _ => trivial) (l_gT hU hS.1) (by decide) rfl rfl ww_675 ww_676 ww_677 ww_33 wC_Mo_thrown mP_Mo_thrown ⟨(Nat.le_of_ble_eq_true rfl), (Nat.le_of_ble_eq_true rfl)⟩ rfl hl.1 rfl (Nat.le_of_ble_eq_true rfl) mD_La_law_587 ⟨by show 433 + j + rm.cells + 0 + 0 ≤ 601024; omega, by show 5635 + 6 * j + rm.slots + 0 + 0 ≤ 7293034; omega⟩ (fun r3 y2 H locs hp hPm hz2 hk2 hS => ?_)
  have hP := l_keep (fun k j_ h1 h2 e_ => hd j_ k h2 h1 e_.symm) hP hk2
  obtain ⟨hq_, rfl⟩ := hp
  rw [hq_] at hPm
  refine lv_iload hx hb mD_La_law_590 (lv_at hl 1 rfl) ?_
  refine lv_icmp_eq (tgt := 597) hx hb mD_La_law_592 rfl (fun hc => ?_) (fun hc => absurd hM1.2.2.2.2.2 hc)
  refine lv_iload hx hb mD_La_law_597 (lv_at hl 1 rfl) ?_
  refine lv_if_ne (tgt := 614) hx hb mD_La_law_599 rfl (fun hc => ?_) (fun hc => ?_)
  · skip
    refine lv_goto (tgt := 1009) hx hb mD_La_law_614 rfl ?_
    exact W.widen (by show 433 + j + rm.cells + 0 + 0 ≤ 433 + (j + 1); omega) (by show 5635 + 6 * j + rm.slots + 0 + 0 ≤ 5635 + 6 * (j + 1); omega) (again z1 y1 α1 (nI k) _ _ _ hR1 hM1 (lv_sub hl [2, 3, 4, 5, 6] rfl) hP hPm hS)
  · have hk0 : k = 0 := (nI_eq (by omega) (by decide)).mp hc
    have hv2 := hv1 hk0
    have ho2 := ho1 hk0
    refine lv_aload_n hx hb mD_La_law_602 rfl (lv_at hl 6 rfl) ?_
    refine lv_iconst (v := nI 0) hx hb mD_La_law_603 (by decide) ?_
    refine l_lald hx hb hK hP mD_La_law_604 ?_
    refine lv_iload hx hb mD_La_law_605 (lv_at hl 0 rfl) ?_
    refine lv_i2l hx hb mD_La_law_607 rfl ?_
    refine W.lcmp hx hb mD_La_law_608 ?_
    refine lv_if_eq (tgt := 614) hx hb mD_La_law_609 rfl (fun hc => ?_) (fun hc => absurd (by rw [ho2, hv2]; exact lc_same _) hc)
    refine lv_goto (tgt := 1009) hx hb mD_La_law_614 rfl ?_
    exact W.widen (by show 433 + j + rm.cells + 0 + 0 ≤ 433 + (j + 1); omega) (by show 5635 + 6 * j + rm.slots + 0 + 0 ≤ 5635 + 6 * (j + 1); omega) (again z1 y1 α1 (nI k) _ _ _ hR1 hM1 (lv_sub hl [2, 3, 4, 5, 6] rfl) hP hPm hS)

set_option maxHeartbeats 4000000 in
theorem lc_open {p : Program} {l : Launch} {e : Env} {s : State} {m : MethodId} {below : List Frame} {meth : Method} {c : Code} {b L : Nat} {xs : Nat → Int32} {D : va_G} {ct : Nat → ClassId} {ad am zt : Nat → Nat} (C : lCx p l s m c b L xs D ct ad am zt) {Q : State → Prop} {j : Nat} (hj : 4 * j + 3 < L) {z : lS} {y : mS} {α : tA} {t : Int32} (hR : tR α z.1.1) (hM : mR α t y) {H : Heap} {locs : List Loc} {ls : Array Slot} (hl : lv_has ls 7 [(4, .int (nI (4 * j))), (0, .ref b), (1, .ref (ad 0)), (2, .ref (am 0)), (3, .ref (ad 424))]) (hP : va_P D cL (gw 425 ad (lD ct ad z)) H) (hPm : va_P D cL (gw 8 am (mD ct am y)) H) (hS : va_S (tB s) s.heap H locs) (again : ∀ (z : lS) (y : mS) (α : tA) (t : Int32) (H : Heap) (locs : List Loc) (ls : Array Slot), tR α z.1.1 → mR α t y → lv_has ls 7 [(4, .int (nI (4 * j))), (0, .ref b), (1, .ref (ad 0)), (2, .ref (am 0)), (3, .ref (ad 424))] → va_P D cL (gw 425 ad (lD ct ad z)) H → va_P D cL (gw 8 am (mD ct am y)) H → va_S (tB s) s.heap H locs → W p l e room_1 s m #[.ref b] below meth c H locs (433 + (j + 1)) (5635 + 6 * (j + 1)) Q (F0 m 1009 ls [])) : W p l e room_1 s m #[.ref b] below meth c H locs (433 + j) (5635 + 6 * j) Q (F0 m 617 ls []) := by
  obtain ⟨hx, hb, hml, hown, htw, hX, hbl, hL, hls, h0, hC, hK, hI, hJ, hT, hU, hd⟩ := C
  have hZ := tZ_self s
  obtain ⟨k, v, α1, rm, ⟨hk3, hfr, hlo, hcl, hsl⟩, hH, hMo⟩ := p_open l D ct ad am hI hJ hls h0 hC z y α t hR hM (xs (4 * j + 1))
  refine lv_aload_n hx hb mD_La_law_617 rfl (lv_at hl 2 rfl) ?_
  refine lv_aload_n hx hb mD_La_law_618 rfl (lv_at hl 1 rfl) ?_
  refine lv_iload hx hb mD_La_law_619 (lv_at hl 0 rfl) ?_
  refine lv_iconst (v := nI 1) hx hb mD_La_law_621 (by decide) ?_
  refine lv_iadd hx hb mD_La_law_622 ?_
  rw [nI_add]
  refine l_sld hx hb hX hbl hL hS (4 * j + 1) (by omega) mD_La_law_623 ?_
  refine lv_aload_n hx hb mD_La_law_624 rfl (lv_at hl 4 rfl) ?_
  refine gc_Hi (As := [.ref (ad 0), .int (xs (4 * j + 1)), .ref (ad 424)]) (rest := []) hx hb hml hown htw hK hP hS hH (tZ_ok s) (tZ_in hZ hS (l_gT hT hS.1)) (l_gT hT hS.1) ww_564 ww_565 ww_22 wH_La_open mP_La_open ⟨hfr, hlo⟩ rfl hl.1 rfl (Nat.le_of_ble_eq_true rfl) mD_La_law_625 ⟨by show 433 + j + rm.cells ≤ 601024; omega, by show 5635 + 6 * j + rm.slots ≤ 7293034; omega⟩ (fun r1 z1 H locs hp hP hz1 hk1 hS => ?_)
  have hPm := l_keep hd hPm hk1
  obtain ⟨rfl, hR1, ho1⟩ := hp
  refine lv_istore (lv' := [(5, .int (nI k)), (4, .int (nI (4 * j))), (0, .ref b), (1, .ref (ad 0)), (2, .ref (am 0)), (3, .ref (ad 424))]) hx hb mD_La_law_628 hl (by decide) rfl (fun ls hl => ?_)
  refine lv_aload_n hx hb mD_La_law_630 rfl (lv_at hl 4 rfl) ?_
  refine lv_aload_n hx hb mD_La_law_631 rfl (lv_at hl 2 rfl) ?_
  refine lv_iload hx hb mD_La_law_632 (lv_at hl 1 rfl) ?_
  refine lv_iconst (v := nI 1) hx hb mD_La_law_634 (by decide) ?_
  refine lv_iadd hx hb mD_La_law_635 ?_
  rw [nI_add]
  refine l_sld hx hb hX hbl hL hS (4 * j + 1) (by omega) mD_La_law_636 ?_
  refine gc_Vi (As := [.int (xs (4 * j + 1))]) (rest := []) hx hb hml hown htw hK hPm hS 0 hMo gZ0_ok (fun _ _ _ => trivial) (l_gT hU hS.1) (by decide) rfl rfl ww_748 ww_749 ww_750 ww_33 wC_Mo_open mP_Mo_open ⟨(Nat.le_of_ble_eq_true rfl), (Nat.le_of_ble_eq_true rfl)⟩ rfl hl.1 rfl (Nat.le_of_ble_eq_true rfl) mD_La_law_637 ⟨by show 433 + j + rm.cells + 0 ≤ 601024; omega, by show 5635 + 6 * j + rm.slots + 0 ≤ 7293034; omega⟩ (fun r2 y1 H locs hp hPm hz2 hk2 hS => ?_)
  have hP := l_keep (fun k j_ h1 h2 e_ => hd j_ k h2 h1 e_.symm) hP hk2
  obtain ⟨hM1, hv1⟩ := hp
  refine lv_istore (lv' := [(6, .int r2), (5, .int (nI k)), (4, .int (nI (4 * j))), (0, .ref b), (1, .ref (ad 0)), (2, .ref (am 0)), (3, .ref (ad 424))]) hx hb mD_La_law_640 hl (by decide) rfl (fun ls hl => ?_)
  refine lv_aload_n hx hb mD_La_law_642 rfl (lv_at hl 5 rfl) ?_
  refine gc_Vi (As := []) (rest := []) hx hb hml hown htw hK hPm hS 0 (k_Mo_thrown l D ct am hJ y1) gZ0_ok (fun _ _ _ => trivial) (l_gT hU hS.1) (by decide) rfl rfl ww_675 ww_676 ww_677 ww_33 wC_Mo_thrown mP_Mo_thrown ⟨(Nat.le_of_ble_eq_true rfl), (Nat.le_of_ble_eq_true rfl)⟩ rfl hl.1 rfl (Nat.le_of_ble_eq_true rfl) mD_La_law_643 ⟨by show 433 + j + rm.cells + 0 + 0 ≤ 601024; omega, by show 5635 + 6 * j + rm.slots + 0 + 0 ≤ 7293034; omega⟩ (fun r3 y2 H locs hp hPm hz2 hk2 hS => ?_)
  have hP := l_keep (fun k j_ h1 h2 e_ => hd j_ k h2 h1 e_.symm) hP hk2
  obtain ⟨hq_, rfl⟩ := hp
  rw [hq_] at hPm
  refine lv_iload hx hb mD_La_law_646 (lv_at hl 1 rfl) ?_
  refine lv_icmp_eq (tgt := 653) hx hb mD_La_law_648 rfl (fun hc => ?_) (fun hc => absurd hM1.2.2.2.2.2 hc)
  refine lv_iload hx hb mD_La_law_653 (lv_at hl 1 rfl) ?_
  refine lv_if_ne (tgt := 670) hx hb mD_La_law_655 rfl (fun hc => ?_) (fun hc => ?_)
  · skip
    refine lv_goto (tgt := 1009) hx hb mD_La_law_670 rfl ?_
    exact W.widen (by show 433 + j + rm.cells + 0 + 0 ≤ 433 + (j + 1); omega) (by show 5635 + 6 * j + rm.slots + 0 + 0 ≤ 5635 + 6 * (j + 1); omega) (again z1 y1 α1 (nI k) _ _ _ hR1 hM1 (lv_sub hl [2, 3, 4, 5, 6] rfl) hP hPm hS)
  · have hk0 : k = 0 := (nI_eq (by omega) (by decide)).mp hc
    have hv2 := hv1 hk0
    have ho2 := ho1 hk0
    refine lv_aload_n hx hb mD_La_law_658 rfl (lv_at hl 6 rfl) ?_
    refine lv_iconst (v := nI 0) hx hb mD_La_law_659 (by decide) ?_
    refine l_lald hx hb hK hP mD_La_law_660 ?_
    refine lv_iload hx hb mD_La_law_661 (lv_at hl 0 rfl) ?_
    refine lv_i2l hx hb mD_La_law_663 rfl ?_
    refine W.lcmp hx hb mD_La_law_664 ?_
    refine lv_if_eq (tgt := 670) hx hb mD_La_law_665 rfl (fun hc => ?_) (fun hc => absurd (by rw [ho2, hv2]; exact lc_same _) hc)
    refine lv_goto (tgt := 1009) hx hb mD_La_law_670 rfl ?_
    exact W.widen (by show 433 + j + rm.cells + 0 + 0 ≤ 433 + (j + 1); omega) (by show 5635 + 6 * j + rm.slots + 0 + 0 ≤ 5635 + 6 * (j + 1); omega) (again z1 y1 α1 (nI k) _ _ _ hR1 hM1 (lv_sub hl [2, 3, 4, 5, 6] rfl) hP hPm hS)

set_option maxHeartbeats 4000000 in
theorem lc_bound {p : Program} {l : Launch} {e : Env} {s : State} {m : MethodId} {below : List Frame} {meth : Method} {c : Code} {b L : Nat} {xs : Nat → Int32} {D : va_G} {ct : Nat → ClassId} {ad am zt : Nat → Nat} (C : lCx p l s m c b L xs D ct ad am zt) {Q : State → Prop} {j : Nat} (hj : 4 * j + 3 < L) {z : lS} {y : mS} {α : tA} {t : Int32} (hR : tR α z.1.1) (hM : mR α t y) {H : Heap} {locs : List Loc} {ls : Array Slot} (hl : lv_has ls 7 [(4, .int (nI (4 * j))), (0, .ref b), (1, .ref (ad 0)), (2, .ref (am 0)), (3, .ref (ad 424))]) (hP : va_P D cL (gw 425 ad (lD ct ad z)) H) (hPm : va_P D cL (gw 8 am (mD ct am y)) H) (hS : va_S (tB s) s.heap H locs) (again : ∀ (z : lS) (y : mS) (α : tA) (t : Int32) (H : Heap) (locs : List Loc) (ls : Array Slot), tR α z.1.1 → mR α t y → lv_has ls 7 [(4, .int (nI (4 * j))), (0, .ref b), (1, .ref (ad 0)), (2, .ref (am 0)), (3, .ref (ad 424))] → va_P D cL (gw 425 ad (lD ct ad z)) H → va_P D cL (gw 8 am (mD ct am y)) H → va_S (tB s) s.heap H locs → W p l e room_1 s m #[.ref b] below meth c H locs (433 + (j + 1)) (5635 + 6 * (j + 1)) Q (F0 m 1009 ls [])) : W p l e room_1 s m #[.ref b] below meth c H locs (433 + j) (5635 + 6 * j) Q (F0 m 673 ls []) := by
  obtain ⟨hx, hb, hml, hown, htw, hX, hbl, hL, hls, h0, hC, hK, hI, hJ, hT, hU, hd⟩ := C
  have hZ := tZ_self s
  obtain ⟨k, v, α1, rm, ⟨hk3, hfr, hlo, hcl, hsl⟩, hH, hMo⟩ := p_bound l D ct ad am hI hJ hls h0 hC z y α t hR hM (xs (4 * j + 1))
  refine lv_aload_n hx hb mD_La_law_673 rfl (lv_at hl 2 rfl) ?_
  refine lv_aload_n hx hb mD_La_law_674 rfl (lv_at hl 1 rfl) ?_
  refine lv_iload hx hb mD_La_law_675 (lv_at hl 0 rfl) ?_
  refine lv_iconst (v := nI 1) hx hb mD_La_law_677 (by decide) ?_
  refine lv_iadd hx hb mD_La_law_678 ?_
  rw [nI_add]
  refine l_sld hx hb hX hbl hL hS (4 * j + 1) (by omega) mD_La_law_679 ?_
  refine lv_aload_n hx hb mD_La_law_680 rfl (lv_at hl 4 rfl) ?_
  refine gc_Hi (As := [.ref (ad 0), .int (xs (4 * j + 1)), .ref (ad 424)]) (rest := []) hx hb hml hown htw hK hP hS hH (tZ_ok s) (tZ_in hZ hS (l_gT hT hS.1)) (l_gT hT hS.1) ww_577 ww_578 ww_22 wH_La_bound mP_La_bound ⟨hfr, hlo⟩ rfl hl.1 rfl (Nat.le_of_ble_eq_true rfl) mD_La_law_681 ⟨by show 433 + j + rm.cells ≤ 601024; omega, by show 5635 + 6 * j + rm.slots ≤ 7293034; omega⟩ (fun r1 z1 H locs hp hP hz1 hk1 hS => ?_)
  have hPm := l_keep hd hPm hk1
  obtain ⟨rfl, hR1, ho1⟩ := hp
  refine lv_istore (lv' := [(5, .int (nI k)), (4, .int (nI (4 * j))), (0, .ref b), (1, .ref (ad 0)), (2, .ref (am 0)), (3, .ref (ad 424))]) hx hb mD_La_law_684 hl (by decide) rfl (fun ls hl => ?_)
  refine lv_aload_n hx hb mD_La_law_686 rfl (lv_at hl 4 rfl) ?_
  refine lv_aload_n hx hb mD_La_law_687 rfl (lv_at hl 2 rfl) ?_
  refine lv_iload hx hb mD_La_law_688 (lv_at hl 1 rfl) ?_
  refine lv_iconst (v := nI 1) hx hb mD_La_law_690 (by decide) ?_
  refine lv_iadd hx hb mD_La_law_691 ?_
  rw [nI_add]
  refine l_sld hx hb hX hbl hL hS (4 * j + 1) (by omega) mD_La_law_692 ?_
  refine gc_Vi (As := [.int (xs (4 * j + 1))]) (rest := []) hx hb hml hown htw hK hPm hS 0 hMo gZ0_ok (fun _ _ _ => trivial) (l_gT hU hS.1) (by decide) rfl rfl ww_753 ww_754 ww_755 ww_33 wC_Mo_bound mP_Mo_bound ⟨(Nat.le_of_ble_eq_true rfl), (Nat.le_of_ble_eq_true rfl)⟩ rfl hl.1 rfl (Nat.le_of_ble_eq_true rfl) mD_La_law_693 ⟨by show 433 + j + rm.cells + 0 ≤ 601024; omega, by show 5635 + 6 * j + rm.slots + 0 ≤ 7293034; omega⟩ (fun r2 y1 H locs hp hPm hz2 hk2 hS => ?_)
  have hP := l_keep (fun k j_ h1 h2 e_ => hd j_ k h2 h1 e_.symm) hP hk2
  obtain ⟨hM1, hv1⟩ := hp
  refine lv_istore (lv' := [(6, .int r2), (5, .int (nI k)), (4, .int (nI (4 * j))), (0, .ref b), (1, .ref (ad 0)), (2, .ref (am 0)), (3, .ref (ad 424))]) hx hb mD_La_law_696 hl (by decide) rfl (fun ls hl => ?_)
  refine lv_aload_n hx hb mD_La_law_698 rfl (lv_at hl 5 rfl) ?_
  refine gc_Vi (As := []) (rest := []) hx hb hml hown htw hK hPm hS 0 (k_Mo_thrown l D ct am hJ y1) gZ0_ok (fun _ _ _ => trivial) (l_gT hU hS.1) (by decide) rfl rfl ww_675 ww_676 ww_677 ww_33 wC_Mo_thrown mP_Mo_thrown ⟨(Nat.le_of_ble_eq_true rfl), (Nat.le_of_ble_eq_true rfl)⟩ rfl hl.1 rfl (Nat.le_of_ble_eq_true rfl) mD_La_law_699 ⟨by show 433 + j + rm.cells + 0 + 0 ≤ 601024; omega, by show 5635 + 6 * j + rm.slots + 0 + 0 ≤ 7293034; omega⟩ (fun r3 y2 H locs hp hPm hz2 hk2 hS => ?_)
  have hP := l_keep (fun k j_ h1 h2 e_ => hd j_ k h2 h1 e_.symm) hP hk2
  obtain ⟨hq_, rfl⟩ := hp
  rw [hq_] at hPm
  refine lv_iload hx hb mD_La_law_702 (lv_at hl 1 rfl) ?_
  refine lv_icmp_eq (tgt := 709) hx hb mD_La_law_704 rfl (fun hc => ?_) (fun hc => absurd hM1.2.2.2.2.2 hc)
  refine lv_iload hx hb mD_La_law_709 (lv_at hl 1 rfl) ?_
  refine lv_if_ne (tgt := 726) hx hb mD_La_law_711 rfl (fun hc => ?_) (fun hc => ?_)
  · skip
    refine lv_goto (tgt := 1009) hx hb mD_La_law_726 rfl ?_
    exact W.widen (by show 433 + j + rm.cells + 0 + 0 ≤ 433 + (j + 1); omega) (by show 5635 + 6 * j + rm.slots + 0 + 0 ≤ 5635 + 6 * (j + 1); omega) (again z1 y1 α1 (nI k) _ _ _ hR1 hM1 (lv_sub hl [2, 3, 4, 5, 6] rfl) hP hPm hS)
  · have hk0 : k = 0 := (nI_eq (by omega) (by decide)).mp hc
    have hv2 := hv1 hk0
    have ho2 := ho1 hk0
    refine lv_aload_n hx hb mD_La_law_714 rfl (lv_at hl 6 rfl) ?_
    refine lv_iconst (v := nI 0) hx hb mD_La_law_715 (by decide) ?_
    refine l_lald hx hb hK hP mD_La_law_716 ?_
    refine lv_iload hx hb mD_La_law_717 (lv_at hl 0 rfl) ?_
    refine lv_i2l hx hb mD_La_law_719 rfl ?_
    refine W.lcmp hx hb mD_La_law_720 ?_
    refine lv_if_eq (tgt := 726) hx hb mD_La_law_721 rfl (fun hc => ?_) (fun hc => absurd (by rw [ho2, hv2]; exact lc_same _) hc)
    refine lv_goto (tgt := 1009) hx hb mD_La_law_726 rfl ?_
    exact W.widen (by show 433 + j + rm.cells + 0 + 0 ≤ 433 + (j + 1); omega) (by show 5635 + 6 * j + rm.slots + 0 + 0 ≤ 5635 + 6 * (j + 1); omega) (again z1 y1 α1 (nI k) _ _ _ hR1 hM1 (lv_sub hl [2, 3, 4, 5, 6] rfl) hP hPm hS)

set_option maxHeartbeats 4000000 in
theorem lc_within {p : Program} {l : Launch} {e : Env} {s : State} {m : MethodId} {below : List Frame} {meth : Method} {c : Code} {b L : Nat} {xs : Nat → Int32} {D : va_G} {ct : Nat → ClassId} {ad am zt : Nat → Nat} (C : lCx p l s m c b L xs D ct ad am zt) {Q : State → Prop} {j : Nat} (hj : 4 * j + 3 < L) {z : lS} {y : mS} {α : tA} {t : Int32} (hR : tR α z.1.1) (hM : mR α t y) {H : Heap} {locs : List Loc} {ls : Array Slot} (hl : lv_has ls 7 [(4, .int (nI (4 * j))), (0, .ref b), (1, .ref (ad 0)), (2, .ref (am 0)), (3, .ref (ad 424))]) (hP : va_P D cL (gw 425 ad (lD ct ad z)) H) (hPm : va_P D cL (gw 8 am (mD ct am y)) H) (hS : va_S (tB s) s.heap H locs) (again : ∀ (z : lS) (y : mS) (α : tA) (t : Int32) (H : Heap) (locs : List Loc) (ls : Array Slot), tR α z.1.1 → mR α t y → lv_has ls 7 [(4, .int (nI (4 * j))), (0, .ref b), (1, .ref (ad 0)), (2, .ref (am 0)), (3, .ref (ad 424))] → va_P D cL (gw 425 ad (lD ct ad z)) H → va_P D cL (gw 8 am (mD ct am y)) H → va_S (tB s) s.heap H locs → W p l e room_1 s m #[.ref b] below meth c H locs (433 + (j + 1)) (5635 + 6 * (j + 1)) Q (F0 m 1009 ls [])) : W p l e room_1 s m #[.ref b] below meth c H locs (433 + j) (5635 + 6 * j) Q (F0 m 729 ls []) := by
  obtain ⟨hx, hb, hml, hown, htw, hX, hbl, hL, hls, h0, hC, hK, hI, hJ, hT, hU, hd⟩ := C
  have hZ := tZ_self s
  obtain ⟨k, v, α1, rm, ⟨hk3, hfr, hlo, hcl, hsl⟩, hH, hMo⟩ := p_within l D ct ad am hI hJ hls h0 hC z y α t hR hM (xs (4 * j + 1))
  refine lv_aload_n hx hb mD_La_law_729 rfl (lv_at hl 2 rfl) ?_
  refine lv_aload_n hx hb mD_La_law_730 rfl (lv_at hl 1 rfl) ?_
  refine lv_iload hx hb mD_La_law_731 (lv_at hl 0 rfl) ?_
  refine lv_iconst (v := nI 1) hx hb mD_La_law_733 (by decide) ?_
  refine lv_iadd hx hb mD_La_law_734 ?_
  rw [nI_add]
  refine l_sld hx hb hX hbl hL hS (4 * j + 1) (by omega) mD_La_law_735 ?_
  refine lv_aload_n hx hb mD_La_law_736 rfl (lv_at hl 4 rfl) ?_
  refine gc_Hi (As := [.ref (ad 0), .int (xs (4 * j + 1)), .ref (ad 424)]) (rest := []) hx hb hml hown htw hK hP hS hH (tZ_ok s) (tZ_in hZ hS (l_gT hT hS.1)) (l_gT hT hS.1) ww_584 ww_585 ww_22 wH_La_within mP_La_within ⟨hfr, hlo⟩ rfl hl.1 rfl (Nat.le_of_ble_eq_true rfl) mD_La_law_737 ⟨by show 433 + j + rm.cells ≤ 601024; omega, by show 5635 + 6 * j + rm.slots ≤ 7293034; omega⟩ (fun r1 z1 H locs hp hP hz1 hk1 hS => ?_)
  have hPm := l_keep hd hPm hk1
  obtain ⟨rfl, hR1, ho1⟩ := hp
  refine lv_istore (lv' := [(5, .int (nI k)), (4, .int (nI (4 * j))), (0, .ref b), (1, .ref (ad 0)), (2, .ref (am 0)), (3, .ref (ad 424))]) hx hb mD_La_law_740 hl (by decide) rfl (fun ls hl => ?_)
  refine lv_aload_n hx hb mD_La_law_742 rfl (lv_at hl 4 rfl) ?_
  refine lv_aload_n hx hb mD_La_law_743 rfl (lv_at hl 2 rfl) ?_
  refine lv_iload hx hb mD_La_law_744 (lv_at hl 1 rfl) ?_
  refine lv_iconst (v := nI 1) hx hb mD_La_law_746 (by decide) ?_
  refine lv_iadd hx hb mD_La_law_747 ?_
  rw [nI_add]
  refine l_sld hx hb hX hbl hL hS (4 * j + 1) (by omega) mD_La_law_748 ?_
  refine gc_Vi (As := [.int (xs (4 * j + 1))]) (rest := []) hx hb hml hown htw hK hPm hS 0 hMo gZ0_ok (fun _ _ _ => trivial) (l_gT hU hS.1) (by decide) rfl rfl ww_757 ww_758 ww_759 ww_33 wC_Mo_within mP_Mo_within ⟨(Nat.le_of_ble_eq_true rfl), (Nat.le_of_ble_eq_true rfl)⟩ rfl hl.1 rfl (Nat.le_of_ble_eq_true rfl) mD_La_law_749 ⟨by show 433 + j + rm.cells + 0 ≤ 601024; omega, by show 5635 + 6 * j + rm.slots + 0 ≤ 7293034; omega⟩ (fun r2 y1 H locs hp hPm hz2 hk2 hS => ?_)
  have hP := l_keep (fun k j_ h1 h2 e_ => hd j_ k h2 h1 e_.symm) hP hk2
  obtain ⟨hM1, hv1⟩ := hp
  refine lv_istore (lv' := [(6, .int r2), (5, .int (nI k)), (4, .int (nI (4 * j))), (0, .ref b), (1, .ref (ad 0)), (2, .ref (am 0)), (3, .ref (ad 424))]) hx hb mD_La_law_752 hl (by decide) rfl (fun ls hl => ?_)
  refine lv_aload_n hx hb mD_La_law_754 rfl (lv_at hl 5 rfl) ?_
  refine gc_Vi (As := []) (rest := []) hx hb hml hown htw hK hPm hS 0 (k_Mo_thrown l D ct am hJ y1) gZ0_ok (fun _ _ _ => trivial) (l_gT hU hS.1) (by decide) rfl rfl ww_675 ww_676 ww_677 ww_33 wC_Mo_thrown mP_Mo_thrown ⟨(Nat.le_of_ble_eq_true rfl), (Nat.le_of_ble_eq_true rfl)⟩ rfl hl.1 rfl (Nat.le_of_ble_eq_true rfl) mD_La_law_755 ⟨by show 433 + j + rm.cells + 0 + 0 ≤ 601024; omega, by show 5635 + 6 * j + rm.slots + 0 + 0 ≤ 7293034; omega⟩ (fun r3 y2 H locs hp hPm hz2 hk2 hS => ?_)
  have hP := l_keep (fun k j_ h1 h2 e_ => hd j_ k h2 h1 e_.symm) hP hk2
  obtain ⟨hq_, rfl⟩ := hp
  rw [hq_] at hPm
  refine lv_iload hx hb mD_La_law_758 (lv_at hl 1 rfl) ?_
  refine lv_icmp_eq (tgt := 765) hx hb mD_La_law_760 rfl (fun hc => ?_) (fun hc => absurd hM1.2.2.2.2.2 hc)
  refine lv_iload hx hb mD_La_law_765 (lv_at hl 1 rfl) ?_
  refine lv_if_ne (tgt := 789) hx hb mD_La_law_767 rfl (fun hc => ?_) (fun hc => ?_)
  · skip
    refine lv_goto (tgt := 1009) hx hb mD_La_law_789 rfl ?_
    exact W.widen (by show 433 + j + rm.cells + 0 + 0 ≤ 433 + (j + 1); omega) (by show 5635 + 6 * j + rm.slots + 0 + 0 ≤ 5635 + 6 * (j + 1); omega) (again z1 y1 α1 (nI k) _ _ _ hR1 hM1 (lv_sub hl [2, 3, 4, 5, 6] rfl) hP hPm hS)
  · have hk0 : k = 0 := (nI_eq (by omega) (by decide)).mp hc
    have hv2 := hv1 hk0
    have ho2 := ho1 hk0
    refine lv_aload_n hx hb mD_La_law_770 rfl (lv_at hl 6 rfl) ?_
    refine lv_iconst (v := nI 0) hx hb mD_La_law_771 (by decide) ?_
    refine l_lald hx hb hK hP mD_La_law_772 ?_
    refine lv_iload hx hb mD_La_law_773 (lv_at hl 0 rfl) ?_
    refine lv_if_eq (tgt := 782) hx hb mD_La_law_775 rfl (fun hb0 => ?_) (fun hb0 => ?_)
    · skip
      refine lv_lconst (v := lN 0) hx hb mD_La_law_782 (by decide) ?_
      refine W.lcmp hx hb mD_La_law_783 ?_
      refine lv_if_eq (tgt := 789) hx hb mD_La_law_784 rfl (fun hc => ?_) (fun hc => absurd (by rw [ho2, ← hv2]; show lg_cmp (if r2 = 0 then lN 0 else lN 1) _ = 0; rw [if_pos hb0]; exact lc_same _) hc)
      refine lv_goto (tgt := 1009) hx hb mD_La_law_789 rfl ?_
      exact W.widen (by show 433 + j + rm.cells + 0 + 0 ≤ 433 + (j + 1); omega) (by show 5635 + 6 * j + rm.slots + 0 + 0 ≤ 5635 + 6 * (j + 1); omega) (again z1 y1 α1 (nI k) _ _ _ hR1 hM1 (lv_sub hl [2, 3, 4, 5, 6] rfl) hP hPm hS)
    · skip
      refine lv_lconst (v := lN 1) hx hb mD_La_law_778 (by decide) ?_
      refine lv_goto (tgt := 783) hx hb mD_La_law_779 rfl ?_
      refine W.lcmp hx hb mD_La_law_783 ?_
      refine lv_if_eq (tgt := 789) hx hb mD_La_law_784 rfl (fun hc => ?_) (fun hc => absurd (by rw [ho2, ← hv2]; show lg_cmp (if r2 = 0 then lN 0 else lN 1) _ = 0; rw [if_neg hb0]; exact lc_same _) hc)
      refine lv_goto (tgt := 1009) hx hb mD_La_law_789 rfl ?_
      exact W.widen (by show 433 + j + rm.cells + 0 + 0 ≤ 433 + (j + 1); omega) (by show 5635 + 6 * j + rm.slots + 0 + 0 ≤ 5635 + 6 * (j + 1); omega) (again z1 y1 α1 (nI k) _ _ _ hR1 hM1 (lv_sub hl [2, 3, 4, 5, 6] rfl) hP hPm hS)

set_option maxHeartbeats 4000000 in
theorem lc_line {p : Program} {l : Launch} {e : Env} {s : State} {m : MethodId} {below : List Frame} {meth : Method} {c : Code} {b L : Nat} {xs : Nat → Int32} {D : va_G} {ct : Nat → ClassId} {ad am zt : Nat → Nat} (C : lCx p l s m c b L xs D ct ad am zt) {Q : State → Prop} {j : Nat} (hj : 4 * j + 3 < L) {z : lS} {y : mS} {α : tA} {t : Int32} (hR : tR α z.1.1) (hM : mR α t y) {H : Heap} {locs : List Loc} {ls : Array Slot} (hl : lv_has ls 7 [(4, .int (nI (4 * j))), (0, .ref b), (1, .ref (ad 0)), (2, .ref (am 0)), (3, .ref (ad 424))]) (hP : va_P D cL (gw 425 ad (lD ct ad z)) H) (hPm : va_P D cL (gw 8 am (mD ct am y)) H) (hS : va_S (tB s) s.heap H locs) (again : ∀ (z : lS) (y : mS) (α : tA) (t : Int32) (H : Heap) (locs : List Loc) (ls : Array Slot), tR α z.1.1 → mR α t y → lv_has ls 7 [(4, .int (nI (4 * j))), (0, .ref b), (1, .ref (ad 0)), (2, .ref (am 0)), (3, .ref (ad 424))] → va_P D cL (gw 425 ad (lD ct ad z)) H → va_P D cL (gw 8 am (mD ct am y)) H → va_S (tB s) s.heap H locs → W p l e room_1 s m #[.ref b] below meth c H locs (433 + (j + 1)) (5635 + 6 * (j + 1)) Q (F0 m 1009 ls [])) : W p l e room_1 s m #[.ref b] below meth c H locs (433 + j) (5635 + 6 * j) Q (F0 m 792 ls []) := by
  obtain ⟨hx, hb, hml, hown, htw, hX, hbl, hL, hls, h0, hC, hK, hI, hJ, hT, hU, hd⟩ := C
  have hZ := tZ_self s
  obtain ⟨k, v, α1, rm, ⟨hk3, hfr, hlo, hcl, hsl⟩, hH, hMo⟩ := p_line l D ct ad am hI hJ hls h0 hC z y α t hR hM (xs (4 * j + 1)) (xs (4 * j + 2)) (xs (4 * j + 3))
  refine lv_aload_n hx hb mD_La_law_792 rfl (lv_at hl 2 rfl) ?_
  refine lv_aload_n hx hb mD_La_law_793 rfl (lv_at hl 1 rfl) ?_
  refine lv_iload hx hb mD_La_law_794 (lv_at hl 0 rfl) ?_
  refine lv_iconst (v := nI 1) hx hb mD_La_law_796 (by decide) ?_
  refine lv_iadd hx hb mD_La_law_797 ?_
  rw [nI_add]
  refine l_sld hx hb hX hbl hL hS (4 * j + 1) (by omega) mD_La_law_798 ?_
  refine lv_aload_n hx hb mD_La_law_799 rfl (lv_at hl 1 rfl) ?_
  refine lv_iload hx hb mD_La_law_800 (lv_at hl 0 rfl) ?_
  refine lv_iconst (v := nI 2) hx hb mD_La_law_802 (by decide) ?_
  refine lv_iadd hx hb mD_La_law_803 ?_
  rw [nI_add]
  refine l_sld hx hb hX hbl hL hS (4 * j + 2) (by omega) mD_La_law_804 ?_
  refine lv_aload_n hx hb mD_La_law_805 rfl (lv_at hl 1 rfl) ?_
  refine lv_iload hx hb mD_La_law_806 (lv_at hl 0 rfl) ?_
  refine lv_iconst (v := nI 3) hx hb mD_La_law_808 (by decide) ?_
  refine lv_iadd hx hb mD_La_law_809 ?_
  rw [nI_add]
  refine l_sld hx hb hX hbl hL hS (4 * j + 3) (by omega) mD_La_law_810 ?_
  refine lv_aload_n hx hb mD_La_law_811 rfl (lv_at hl 4 rfl) ?_
  refine gc_Hi (As := [.ref (ad 0), .int (xs (4 * j + 1)), .int (xs (4 * j + 2)), .int (xs (4 * j + 3)), .ref (ad 424)]) (rest := []) hx hb hml hown htw hK hP hS hH (tZ_ok s) (tZ_in hZ hS (l_gT hT hS.1)) (l_gT hT hS.1) ww_591 ww_592 ww_22 wH_La_line mP_La_line ⟨hfr, hlo⟩ rfl hl.1 rfl (Nat.le_of_ble_eq_true rfl) mD_La_law_812 ⟨by show 433 + j + rm.cells ≤ 601024; omega, by show 5635 + 6 * j + rm.slots ≤ 7293034; omega⟩ (fun r1 z1 H locs hp hP hz1 hk1 hS => ?_)
  have hPm := l_keep hd hPm hk1
  obtain ⟨rfl, hR1, ho1⟩ := hp
  refine lv_istore (lv' := [(5, .int (nI k)), (4, .int (nI (4 * j))), (0, .ref b), (1, .ref (ad 0)), (2, .ref (am 0)), (3, .ref (ad 424))]) hx hb mD_La_law_815 hl (by decide) rfl (fun ls hl => ?_)
  refine lv_aload_n hx hb mD_La_law_817 rfl (lv_at hl 4 rfl) ?_
  refine lv_aload_n hx hb mD_La_law_818 rfl (lv_at hl 2 rfl) ?_
  refine lv_iload hx hb mD_La_law_819 (lv_at hl 1 rfl) ?_
  refine lv_iconst (v := nI 1) hx hb mD_La_law_821 (by decide) ?_
  refine lv_iadd hx hb mD_La_law_822 ?_
  rw [nI_add]
  refine l_sld hx hb hX hbl hL hS (4 * j + 1) (by omega) mD_La_law_823 ?_
  refine lv_aload_n hx hb mD_La_law_824 rfl (lv_at hl 2 rfl) ?_
  refine lv_iload hx hb mD_La_law_825 (lv_at hl 1 rfl) ?_
  refine lv_iconst (v := nI 2) hx hb mD_La_law_827 (by decide) ?_
  refine lv_iadd hx hb mD_La_law_828 ?_
  rw [nI_add]
  refine l_sld hx hb hX hbl hL hS (4 * j + 2) (by omega) mD_La_law_829 ?_
  refine lv_aload_n hx hb mD_La_law_830 rfl (lv_at hl 2 rfl) ?_
  refine lv_iload hx hb mD_La_law_831 (lv_at hl 1 rfl) ?_
  refine lv_iconst (v := nI 3) hx hb mD_La_law_833 (by decide) ?_
  refine lv_iadd hx hb mD_La_law_834 ?_
  rw [nI_add]
  refine l_sld hx hb hX hbl hL hS (4 * j + 3) (by omega) mD_La_law_835 ?_
  refine gc_Vi (As := [.int (xs (4 * j + 1)), .int (xs (4 * j + 2)), .int (xs (4 * j + 3))]) (rest := []) hx hb hml hown htw hK hPm hS 0 hMo gZ0_ok (fun _ _ _ => trivial) (l_gT hU hS.1) (by decide) rfl rfl ww_761 ww_762 ww_763 ww_33 wC_Mo_line mP_Mo_line ⟨(Nat.le_of_ble_eq_true rfl), (Nat.le_of_ble_eq_true rfl)⟩ rfl hl.1 rfl (Nat.le_of_ble_eq_true rfl) mD_La_law_836 ⟨by show 433 + j + rm.cells + 0 ≤ 601024; omega, by show 5635 + 6 * j + rm.slots + 0 ≤ 7293034; omega⟩ (fun r2 y1 H locs hp hPm hz2 hk2 hS => ?_)
  have hP := l_keep (fun k j_ h1 h2 e_ => hd j_ k h2 h1 e_.symm) hP hk2
  obtain ⟨hM1, hv1⟩ := hp
  refine lv_istore (lv' := [(6, .int r2), (5, .int (nI k)), (4, .int (nI (4 * j))), (0, .ref b), (1, .ref (ad 0)), (2, .ref (am 0)), (3, .ref (ad 424))]) hx hb mD_La_law_839 hl (by decide) rfl (fun ls hl => ?_)
  refine lv_aload_n hx hb mD_La_law_841 rfl (lv_at hl 5 rfl) ?_
  refine gc_Vi (As := []) (rest := []) hx hb hml hown htw hK hPm hS 0 (k_Mo_thrown l D ct am hJ y1) gZ0_ok (fun _ _ _ => trivial) (l_gT hU hS.1) (by decide) rfl rfl ww_675 ww_676 ww_677 ww_33 wC_Mo_thrown mP_Mo_thrown ⟨(Nat.le_of_ble_eq_true rfl), (Nat.le_of_ble_eq_true rfl)⟩ rfl hl.1 rfl (Nat.le_of_ble_eq_true rfl) mD_La_law_842 ⟨by show 433 + j + rm.cells + 0 + 0 ≤ 601024; omega, by show 5635 + 6 * j + rm.slots + 0 + 0 ≤ 7293034; omega⟩ (fun r3 y2 H locs hp hPm hz2 hk2 hS => ?_)
  have hP := l_keep (fun k j_ h1 h2 e_ => hd j_ k h2 h1 e_.symm) hP hk2
  obtain ⟨hq_, rfl⟩ := hp
  rw [hq_] at hPm
  refine lv_iload hx hb mD_La_law_845 (lv_at hl 1 rfl) ?_
  refine lv_icmp_eq (tgt := 852) hx hb mD_La_law_847 rfl (fun hc => ?_) (fun hc => absurd hM1.2.2.2.2.2 hc)
  refine lv_iload hx hb mD_La_law_852 (lv_at hl 1 rfl) ?_
  refine lv_if_ne (tgt := 869) hx hb mD_La_law_854 rfl (fun hc => ?_) (fun hc => ?_)
  · skip
    refine lv_goto (tgt := 1009) hx hb mD_La_law_869 rfl ?_
    exact W.widen (by show 433 + j + rm.cells + 0 + 0 ≤ 433 + (j + 1); omega) (by show 5635 + 6 * j + rm.slots + 0 + 0 ≤ 5635 + 6 * (j + 1); omega) (again z1 y1 α1 (nI k) _ _ _ hR1 hM1 (lv_sub hl [2, 3, 4, 5, 6] rfl) hP hPm hS)
  · have hk0 : k = 0 := (nI_eq (by omega) (by decide)).mp hc
    have hv2 := hv1 hk0
    have ho2 := ho1 hk0
    refine lv_aload_n hx hb mD_La_law_857 rfl (lv_at hl 6 rfl) ?_
    refine lv_iconst (v := nI 0) hx hb mD_La_law_858 (by decide) ?_
    refine l_lald hx hb hK hP mD_La_law_859 ?_
    refine lv_iload hx hb mD_La_law_860 (lv_at hl 0 rfl) ?_
    refine lv_i2l hx hb mD_La_law_862 rfl ?_
    refine W.lcmp hx hb mD_La_law_863 ?_
    refine lv_if_eq (tgt := 869) hx hb mD_La_law_864 rfl (fun hc => ?_) (fun hc => absurd (by rw [ho2, hv2]; exact lc_same _) hc)
    refine lv_goto (tgt := 1009) hx hb mD_La_law_869 rfl ?_
    exact W.widen (by show 433 + j + rm.cells + 0 + 0 ≤ 433 + (j + 1); omega) (by show 5635 + 6 * j + rm.slots + 0 + 0 ≤ 5635 + 6 * (j + 1); omega) (again z1 y1 α1 (nI k) _ _ _ hR1 hM1 (lv_sub hl [2, 3, 4, 5, 6] rfl) hP hPm hS)

set_option maxHeartbeats 4000000 in
theorem lc_play {p : Program} {l : Launch} {e : Env} {s : State} {m : MethodId} {below : List Frame} {meth : Method} {c : Code} {b L : Nat} {xs : Nat → Int32} {D : va_G} {ct : Nat → ClassId} {ad am zt : Nat → Nat} (C : lCx p l s m c b L xs D ct ad am zt) {Q : State → Prop} {j : Nat} (hj : 4 * j + 3 < L) {z : lS} {y : mS} {α : tA} {t : Int32} (hR : tR α z.1.1) (hM : mR α t y) {H : Heap} {locs : List Loc} {ls : Array Slot} (hl : lv_has ls 7 [(4, .int (nI (4 * j))), (0, .ref b), (1, .ref (ad 0)), (2, .ref (am 0)), (3, .ref (ad 424))]) (hP : va_P D cL (gw 425 ad (lD ct ad z)) H) (hPm : va_P D cL (gw 8 am (mD ct am y)) H) (hS : va_S (tB s) s.heap H locs) (again : ∀ (z : lS) (y : mS) (α : tA) (t : Int32) (H : Heap) (locs : List Loc) (ls : Array Slot), tR α z.1.1 → mR α t y → lv_has ls 7 [(4, .int (nI (4 * j))), (0, .ref b), (1, .ref (ad 0)), (2, .ref (am 0)), (3, .ref (ad 424))] → va_P D cL (gw 425 ad (lD ct ad z)) H → va_P D cL (gw 8 am (mD ct am y)) H → va_S (tB s) s.heap H locs → W p l e room_1 s m #[.ref b] below meth c H locs (433 + (j + 1)) (5635 + 6 * (j + 1)) Q (F0 m 1009 ls [])) : W p l e room_1 s m #[.ref b] below meth c H locs (433 + j) (5635 + 6 * j) Q (F0 m 872 ls []) := by
  obtain ⟨hx, hb, hml, hown, htw, hX, hbl, hL, hls, h0, hC, hK, hI, hJ, hT, hU, hd⟩ := C
  have hZ := tZ_self s
  obtain ⟨k, v, α1, rm, ⟨hk3, hfr, hlo, hcl, hsl⟩, hH, hMo⟩ := p_play l D ct ad am hI hJ hls h0 hC z y α t hR hM (xs (4 * j + 1)) (xs (4 * j + 2))
  refine lv_aload_n hx hb mD_La_law_872 rfl (lv_at hl 2 rfl) ?_
  refine lv_aload_n hx hb mD_La_law_873 rfl (lv_at hl 1 rfl) ?_
  refine lv_iload hx hb mD_La_law_874 (lv_at hl 0 rfl) ?_
  refine lv_iconst (v := nI 1) hx hb mD_La_law_876 (by decide) ?_
  refine lv_iadd hx hb mD_La_law_877 ?_
  rw [nI_add]
  refine l_sld hx hb hX hbl hL hS (4 * j + 1) (by omega) mD_La_law_878 ?_
  refine lv_aload_n hx hb mD_La_law_879 rfl (lv_at hl 1 rfl) ?_
  refine lv_iload hx hb mD_La_law_880 (lv_at hl 0 rfl) ?_
  refine lv_iconst (v := nI 2) hx hb mD_La_law_882 (by decide) ?_
  refine lv_iadd hx hb mD_La_law_883 ?_
  rw [nI_add]
  refine l_sld hx hb hX hbl hL hS (4 * j + 2) (by omega) mD_La_law_884 ?_
  refine lv_aload_n hx hb mD_La_law_885 rfl (lv_at hl 4 rfl) ?_
  refine gc_Hi (As := [.ref (ad 0), .int (xs (4 * j + 1)), .int (xs (4 * j + 2)), .ref (ad 424)]) (rest := []) hx hb hml hown htw hK hP hS hH (tZ_ok s) (tZ_in hZ hS (l_gT hT hS.1)) (l_gT hT hS.1) ww_608 ww_609 ww_22 wH_La_play mP_La_play ⟨hfr, hlo⟩ rfl hl.1 rfl (Nat.le_of_ble_eq_true rfl) mD_La_law_886 ⟨by show 433 + j + rm.cells ≤ 601024; omega, by show 5635 + 6 * j + rm.slots ≤ 7293034; omega⟩ (fun r1 z1 H locs hp hP hz1 hk1 hS => ?_)
  have hPm := l_keep hd hPm hk1
  obtain ⟨rfl, hR1, ho1⟩ := hp
  refine lv_istore (lv' := [(5, .int (nI k)), (4, .int (nI (4 * j))), (0, .ref b), (1, .ref (ad 0)), (2, .ref (am 0)), (3, .ref (ad 424))]) hx hb mD_La_law_889 hl (by decide) rfl (fun ls hl => ?_)
  refine lv_aload_n hx hb mD_La_law_891 rfl (lv_at hl 4 rfl) ?_
  refine lv_aload_n hx hb mD_La_law_892 rfl (lv_at hl 2 rfl) ?_
  refine lv_iload hx hb mD_La_law_893 (lv_at hl 1 rfl) ?_
  refine lv_iconst (v := nI 1) hx hb mD_La_law_895 (by decide) ?_
  refine lv_iadd hx hb mD_La_law_896 ?_
  rw [nI_add]
  refine l_sld hx hb hX hbl hL hS (4 * j + 1) (by omega) mD_La_law_897 ?_
  refine lv_aload_n hx hb mD_La_law_898 rfl (lv_at hl 2 rfl) ?_
  refine lv_iload hx hb mD_La_law_899 (lv_at hl 1 rfl) ?_
  refine lv_iconst (v := nI 2) hx hb mD_La_law_901 (by decide) ?_
  refine lv_iadd hx hb mD_La_law_902 ?_
  rw [nI_add]
  refine l_sld hx hb hX hbl hL hS (4 * j + 2) (by omega) mD_La_law_903 ?_
  refine gc_Vi (As := [.int (xs (4 * j + 1)), .int (xs (4 * j + 2))]) (rest := []) hx hb hml hown htw hK hPm hS 0 hMo gZ0_ok (fun _ _ _ => trivial) (l_gT hU hS.1) (by decide) rfl rfl ww_769 ww_770 ww_771 ww_33 wC_Mo_play mP_Mo_play ⟨(Nat.le_of_ble_eq_true rfl), (Nat.le_of_ble_eq_true rfl)⟩ rfl hl.1 rfl (Nat.le_of_ble_eq_true rfl) mD_La_law_904 ⟨by show 433 + j + rm.cells + 0 ≤ 601024; omega, by show 5635 + 6 * j + rm.slots + 0 ≤ 7293034; omega⟩ (fun r2 y1 H locs hp hPm hz2 hk2 hS => ?_)
  have hP := l_keep (fun k j_ h1 h2 e_ => hd j_ k h2 h1 e_.symm) hP hk2
  obtain ⟨hM1, hv1⟩ := hp
  refine lv_istore (lv' := [(6, .int r2), (5, .int (nI k)), (4, .int (nI (4 * j))), (0, .ref b), (1, .ref (ad 0)), (2, .ref (am 0)), (3, .ref (ad 424))]) hx hb mD_La_law_907 hl (by decide) rfl (fun ls hl => ?_)
  refine lv_aload_n hx hb mD_La_law_909 rfl (lv_at hl 5 rfl) ?_
  refine gc_Vi (As := []) (rest := []) hx hb hml hown htw hK hPm hS 0 (k_Mo_thrown l D ct am hJ y1) gZ0_ok (fun _ _ _ => trivial) (l_gT hU hS.1) (by decide) rfl rfl ww_675 ww_676 ww_677 ww_33 wC_Mo_thrown mP_Mo_thrown ⟨(Nat.le_of_ble_eq_true rfl), (Nat.le_of_ble_eq_true rfl)⟩ rfl hl.1 rfl (Nat.le_of_ble_eq_true rfl) mD_La_law_910 ⟨by show 433 + j + rm.cells + 0 + 0 ≤ 601024; omega, by show 5635 + 6 * j + rm.slots + 0 + 0 ≤ 7293034; omega⟩ (fun r3 y2 H locs hp hPm hz2 hk2 hS => ?_)
  have hP := l_keep (fun k j_ h1 h2 e_ => hd j_ k h2 h1 e_.symm) hP hk2
  obtain ⟨hq_, rfl⟩ := hp
  rw [hq_] at hPm
  refine lv_iload hx hb mD_La_law_913 (lv_at hl 1 rfl) ?_
  refine lv_icmp_eq (tgt := 920) hx hb mD_La_law_915 rfl (fun hc => ?_) (fun hc => absurd hM1.2.2.2.2.2 hc)
  refine lv_iload hx hb mD_La_law_920 (lv_at hl 1 rfl) ?_
  refine lv_if_ne (tgt := 937) hx hb mD_La_law_922 rfl (fun hc => ?_) (fun hc => ?_)
  · skip
    refine lv_goto (tgt := 1009) hx hb mD_La_law_937 rfl ?_
    exact W.widen (by show 433 + j + rm.cells + 0 + 0 ≤ 433 + (j + 1); omega) (by show 5635 + 6 * j + rm.slots + 0 + 0 ≤ 5635 + 6 * (j + 1); omega) (again z1 y1 α1 (nI k) _ _ _ hR1 hM1 (lv_sub hl [2, 3, 4, 5, 6] rfl) hP hPm hS)
  · have hk0 : k = 0 := (nI_eq (by omega) (by decide)).mp hc
    have hv2 := hv1 hk0
    have ho2 := ho1 hk0
    refine lv_aload_n hx hb mD_La_law_925 rfl (lv_at hl 6 rfl) ?_
    refine lv_iconst (v := nI 0) hx hb mD_La_law_926 (by decide) ?_
    refine l_lald hx hb hK hP mD_La_law_927 ?_
    refine lv_iload hx hb mD_La_law_928 (lv_at hl 0 rfl) ?_
    refine lv_i2l hx hb mD_La_law_930 rfl ?_
    refine W.lcmp hx hb mD_La_law_931 ?_
    refine lv_if_eq (tgt := 937) hx hb mD_La_law_932 rfl (fun hc => ?_) (fun hc => absurd (by rw [ho2, hv2]; exact lc_same _) hc)
    refine lv_goto (tgt := 1009) hx hb mD_La_law_937 rfl ?_
    exact W.widen (by show 433 + j + rm.cells + 0 + 0 ≤ 433 + (j + 1); omega) (by show 5635 + 6 * j + rm.slots + 0 + 0 ≤ 5635 + 6 * (j + 1); omega) (again z1 y1 α1 (nI k) _ _ _ hR1 hM1 (lv_sub hl [2, 3, 4, 5, 6] rfl) hP hPm hS)

set_option maxHeartbeats 4000000 in
theorem lc_count {p : Program} {l : Launch} {e : Env} {s : State} {m : MethodId} {below : List Frame} {meth : Method} {c : Code} {b L : Nat} {xs : Nat → Int32} {D : va_G} {ct : Nat → ClassId} {ad am zt : Nat → Nat} (C : lCx p l s m c b L xs D ct ad am zt) {Q : State → Prop} {j : Nat} (hj : 4 * j + 3 < L) {z : lS} {y : mS} {α : tA} {t : Int32} (hR : tR α z.1.1) (hM : mR α t y) {H : Heap} {locs : List Loc} {ls : Array Slot} (hl : lv_has ls 7 [(4, .int (nI (4 * j))), (0, .ref b), (1, .ref (ad 0)), (2, .ref (am 0)), (3, .ref (ad 424))]) (hP : va_P D cL (gw 425 ad (lD ct ad z)) H) (hPm : va_P D cL (gw 8 am (mD ct am y)) H) (hS : va_S (tB s) s.heap H locs) (again : ∀ (z : lS) (y : mS) (α : tA) (t : Int32) (H : Heap) (locs : List Loc) (ls : Array Slot), tR α z.1.1 → mR α t y → lv_has ls 7 [(4, .int (nI (4 * j))), (0, .ref b), (1, .ref (ad 0)), (2, .ref (am 0)), (3, .ref (ad 424))] → va_P D cL (gw 425 ad (lD ct ad z)) H → va_P D cL (gw 8 am (mD ct am y)) H → va_S (tB s) s.heap H locs → W p l e room_1 s m #[.ref b] below meth c H locs (433 + (j + 1)) (5635 + 6 * (j + 1)) Q (F0 m 1009 ls [])) : W p l e room_1 s m #[.ref b] below meth c H locs (433 + j) (5635 + 6 * j) Q (F0 m 953 ls []) := by
  obtain ⟨hx, hb, hml, hown, htw, hX, hbl, hL, hls, h0, hC, hK, hI, hJ, hT, hU, hd⟩ := C
  have hZ := tZ_self s
  obtain ⟨k, v, α1, rm, ⟨hk3, hfr, hlo, hcl, hsl⟩, hH, hMo⟩ := p_count l D ct ad am hI hJ hls h0 hC z y α t hR hM (xs (4 * j + 1))
  refine lv_aload_n hx hb mD_La_law_953 rfl (lv_at hl 2 rfl) ?_
  refine lv_aload_n hx hb mD_La_law_954 rfl (lv_at hl 1 rfl) ?_
  refine lv_iload hx hb mD_La_law_955 (lv_at hl 0 rfl) ?_
  refine lv_iconst (v := nI 1) hx hb mD_La_law_957 (by decide) ?_
  refine lv_iadd hx hb mD_La_law_958 ?_
  rw [nI_add]
  refine l_sld hx hb hX hbl hL hS (4 * j + 1) (by omega) mD_La_law_959 ?_
  refine lv_aload_n hx hb mD_La_law_960 rfl (lv_at hl 4 rfl) ?_
  refine gc_Hi (As := [.ref (ad 0), .int (xs (4 * j + 1)), .ref (ad 424)]) (rest := []) hx hb hml hown htw hK hP hS hH (tZ_ok s) (tZ_in hZ hS (l_gT hT hS.1)) (l_gT hT hS.1) ww_622 ww_623 ww_22 wH_La_count mP_La_count ⟨hfr, hlo⟩ rfl hl.1 rfl (Nat.le_of_ble_eq_true rfl) mD_La_law_961 ⟨by show 433 + j + rm.cells ≤ 601024; omega, by show 5635 + 6 * j + rm.slots ≤ 7293034; omega⟩ (fun r1 z1 H locs hp hP hz1 hk1 hS => ?_)
  have hPm := l_keep hd hPm hk1
  obtain ⟨rfl, hR1, ho1⟩ := hp
  refine lv_istore (lv' := [(5, .int (nI k)), (4, .int (nI (4 * j))), (0, .ref b), (1, .ref (ad 0)), (2, .ref (am 0)), (3, .ref (ad 424))]) hx hb mD_La_law_964 hl (by decide) rfl (fun ls hl => ?_)
  refine lv_aload_n hx hb mD_La_law_966 rfl (lv_at hl 4 rfl) ?_
  refine lv_aload_n hx hb mD_La_law_967 rfl (lv_at hl 2 rfl) ?_
  refine lv_iload hx hb mD_La_law_968 (lv_at hl 1 rfl) ?_
  refine lv_iconst (v := nI 1) hx hb mD_La_law_970 (by decide) ?_
  refine lv_iadd hx hb mD_La_law_971 ?_
  rw [nI_add]
  refine l_sld hx hb hX hbl hL hS (4 * j + 1) (by omega) mD_La_law_972 ?_
  refine gc_Vi (As := [.int (xs (4 * j + 1))]) (rest := []) hx hb hml hown htw hK hPm hS 0 hMo gZ0_ok (fun _ _ _ => trivial) (l_gT hU hS.1) (by decide) rfl rfl ww_777 ww_778 ww_779 ww_33 wC_Mo_count mP_Mo_count ⟨(Nat.le_of_ble_eq_true rfl), (Nat.le_of_ble_eq_true rfl)⟩ rfl hl.1 rfl (Nat.le_of_ble_eq_true rfl) mD_La_law_973 ⟨by show 433 + j + rm.cells + 0 ≤ 601024; omega, by show 5635 + 6 * j + rm.slots + 0 ≤ 7293034; omega⟩ (fun r2 y1 H locs hp hPm hz2 hk2 hS => ?_)
  have hP := l_keep (fun k j_ h1 h2 e_ => hd j_ k h2 h1 e_.symm) hP hk2
  obtain ⟨hM1, hv1⟩ := hp
  refine lv_istore (lv' := [(6, .int r2), (5, .int (nI k)), (4, .int (nI (4 * j))), (0, .ref b), (1, .ref (ad 0)), (2, .ref (am 0)), (3, .ref (ad 424))]) hx hb mD_La_law_976 hl (by decide) rfl (fun ls hl => ?_)
  refine lv_aload_n hx hb mD_La_law_978 rfl (lv_at hl 5 rfl) ?_
  refine gc_Vi (As := []) (rest := []) hx hb hml hown htw hK hPm hS 0 (k_Mo_thrown l D ct am hJ y1) gZ0_ok (fun _ _ _ => trivial) (l_gT hU hS.1) (by decide) rfl rfl ww_675 ww_676 ww_677 ww_33 wC_Mo_thrown mP_Mo_thrown ⟨(Nat.le_of_ble_eq_true rfl), (Nat.le_of_ble_eq_true rfl)⟩ rfl hl.1 rfl (Nat.le_of_ble_eq_true rfl) mD_La_law_979 ⟨by show 433 + j + rm.cells + 0 + 0 ≤ 601024; omega, by show 5635 + 6 * j + rm.slots + 0 + 0 ≤ 7293034; omega⟩ (fun r3 y2 H locs hp hPm hz2 hk2 hS => ?_)
  have hP := l_keep (fun k j_ h1 h2 e_ => hd j_ k h2 h1 e_.symm) hP hk2
  obtain ⟨hq_, rfl⟩ := hp
  rw [hq_] at hPm
  refine lv_iload hx hb mD_La_law_982 (lv_at hl 1 rfl) ?_
  refine lv_icmp_eq (tgt := 989) hx hb mD_La_law_984 rfl (fun hc => ?_) (fun hc => absurd hM1.2.2.2.2.2 hc)
  refine lv_iload hx hb mD_La_law_989 (lv_at hl 1 rfl) ?_
  refine lv_if_ne (tgt := 1006) hx hb mD_La_law_991 rfl (fun hc => ?_) (fun hc => ?_)
  · skip
    refine lv_goto (tgt := 1009) hx hb mD_La_law_1006 rfl ?_
    exact W.widen (by show 433 + j + rm.cells + 0 + 0 ≤ 433 + (j + 1); omega) (by show 5635 + 6 * j + rm.slots + 0 + 0 ≤ 5635 + 6 * (j + 1); omega) (again z1 y1 α1 (nI k) _ _ _ hR1 hM1 (lv_sub hl [2, 3, 4, 5, 6] rfl) hP hPm hS)
  · have hk0 : k = 0 := (nI_eq (by omega) (by decide)).mp hc
    have hv2 := hv1 hk0
    have ho2 := ho1 hk0
    refine lv_aload_n hx hb mD_La_law_994 rfl (lv_at hl 6 rfl) ?_
    refine lv_iconst (v := nI 0) hx hb mD_La_law_995 (by decide) ?_
    refine l_lald hx hb hK hP mD_La_law_996 ?_
    refine lv_iload hx hb mD_La_law_997 (lv_at hl 0 rfl) ?_
    refine lv_i2l hx hb mD_La_law_999 rfl ?_
    refine W.lcmp hx hb mD_La_law_1000 ?_
    refine lv_if_eq (tgt := 1006) hx hb mD_La_law_1001 rfl (fun hc => ?_) (fun hc => absurd (by rw [ho2, hv2]; exact lc_same _) hc)
    refine lv_goto (tgt := 1009) hx hb mD_La_law_1006 rfl ?_
    exact W.widen (by show 433 + j + rm.cells + 0 + 0 ≤ 433 + (j + 1); omega) (by show 5635 + 6 * j + rm.slots + 0 + 0 ≤ 5635 + 6 * (j + 1); omega) (again z1 y1 α1 (nI k) _ _ _ hR1 hM1 (lv_sub hl [2, 3, 4, 5, 6] rfl) hP hPm hS)

set_option maxHeartbeats 4000000 in
theorem lc_key {p : Program} {l : Launch} {e : Env} {s : State} {m : MethodId} {below : List Frame} {meth : Method} {c : Code} {b L : Nat} {xs : Nat → Int32} {D : va_G} {ct : Nat → ClassId} {ad am zt : Nat → Nat} (C : lCx p l s m c b L xs D ct ad am zt) {Q : State → Prop} {j : Nat} (hj : 4 * j + 3 < L) {z : lS} {y : mS} {α : tA} {t : Int32} (hR : tR α z.1.1) (hM : mR α t y) {H : Heap} {locs : List Loc} {ls : Array Slot} (hl : lv_has ls 7 [(4, .int (nI (4 * j))), (0, .ref b), (1, .ref (ad 0)), (2, .ref (am 0)), (3, .ref (ad 424))]) (hP : va_P D cL (gw 425 ad (lD ct ad z)) H) (hPm : va_P D cL (gw 8 am (mD ct am y)) H) (hS : va_S (tB s) s.heap H locs) (again : ∀ (z : lS) (y : mS) (α : tA) (t : Int32) (H : Heap) (locs : List Loc) (ls : Array Slot), tR α z.1.1 → mR α t y → lv_has ls 7 [(4, .int (nI (4 * j))), (0, .ref b), (1, .ref (ad 0)), (2, .ref (am 0)), (3, .ref (ad 424))] → va_P D cL (gw 425 ad (lD ct ad z)) H → va_P D cL (gw 8 am (mD ct am y)) H → va_S (tB s) s.heap H locs → W p l e room_1 s m #[.ref b] below meth c H locs (433 + (j + 1)) (5635 + 6 * (j + 1)) Q (F0 m 1009 ls [])) : W p l e room_1 s m #[.ref b] below meth c H locs (433 + j) (5635 + 6 * j) Q (F0 m 112 ls []) := by
  obtain ⟨hx, hb, hml, hown, htw, hX, hbl, hL, hls, h0, hC, hK, hI, hJ, hT, hU, hd⟩ := C
  have hZ := tZ_self s
  have hTG := k_TG_key l D ct ad (l_inj hI) z.1 α hR (xs (4 * j + 1))
  have hMo := k_Mo_key l D ct am hJ y α t hM (xs (4 * j + 1))
  refine lv_aload_n hx hb mD_La_law_112 rfl (lv_at hl 2 rfl) ?_
  refine lv_aload_n hx hb mD_La_law_113 rfl (lv_at hl 1 rfl) ?_
  refine lv_iload hx hb mD_La_law_114 (lv_at hl 0 rfl) ?_
  refine lv_iconst (v := nI 1) hx hb mD_La_law_116 (by decide) ?_
  refine lv_iadd hx hb mD_La_law_117 ?_
  rw [nI_add]
  refine l_sld hx hb hX hbl hL hS (4 * j + 1) (by omega) mD_La_law_118 ?_
  refine gc_Vi (As := [.int (xs (4 * j + 1))]) (rest := []) hx hb hml hown htw hK (l_sub hP) hS 0 hTG gZ0_ok (fun _ _ _ => trivial) (l_gT (fun k h => hT k (by omega)) hS.1) (by decide) rfl rfl ww_259 ww_260 ww_261 ww_23 wC_TG_key mP_TG_key ⟨(Nat.le_of_ble_eq_true rfl), (Nat.le_of_ble_eq_true rfl)⟩ rfl hl.1 rfl (Nat.le_of_ble_eq_true rfl) mD_La_law_119 ⟨by show 433 + j + 0 ≤ 601024; omega, by show 5635 + 6 * j + 0 ≤ 7293034; omega⟩ (fun r1 x1 H locs hp hQ_ hz1 hk1 hS => ?_)
  have hPm := l_keep (fun k j_ h1 h2 => hd k j_ (by omega) h2) hPm hk1
  have hP := l_join hI hP hQ_ hk1
  obtain ⟨rfl, hR1⟩ := hp
  refine lv_aload_n hx hb mD_La_law_122 rfl (lv_at hl 3 rfl) ?_
  refine lv_aload_n hx hb mD_La_law_123 rfl (lv_at hl 1 rfl) ?_
  refine lv_iload hx hb mD_La_law_124 (lv_at hl 0 rfl) ?_
  refine lv_iconst (v := nI 1) hx hb mD_La_law_126 (by decide) ?_
  refine lv_iadd hx hb mD_La_law_127 ?_
  rw [nI_add]
  refine l_sld hx hb hX hbl hL hS (4 * j + 1) (by omega) mD_La_law_128 ?_
  refine gc_Vi (As := [.int (xs (4 * j + 1))]) (rest := [.int (nI (aCnt (aT α) 120))]) hx hb hml hown htw hK hPm hS 0 hMo gZ0_ok (fun _ _ _ => trivial) (l_gT hU hS.1) (by decide) rfl rfl ww_679 ww_680 ww_681 ww_33 wC_Mo_key mP_Mo_key ⟨(Nat.le_of_ble_eq_true rfl), (Nat.le_of_ble_eq_true rfl)⟩ rfl hl.1 rfl (Nat.le_of_ble_eq_true rfl) mD_La_law_129 ⟨by show 433 + j + 0 + 0 ≤ 601024; omega, by show 5635 + 6 * j + 0 + 0 ≤ 7293034; omega⟩ (fun r2 y1 H locs hp hPm hz2 hk2 hS => ?_)
  have hP := l_keep (fun k j_ h1 h2 e_ => hd j_ k h2 h1 e_.symm) hP hk2
  obtain ⟨rfl, hM1⟩ := hp
  refine lv_icmp_eq (tgt := 1009) hx hb mD_La_law_132 rfl (fun hc => ?_) (fun hc => absurd rfl hc)
  exact W.widen (by show 433 + j + 0 + 0 ≤ 433 + (j + 1); omega) (by show 5635 + 6 * j + 0 + 0 ≤ 5635 + 6 * (j + 1); omega) (again (x1, z.2) y1 (aKey α) 0 _ _ _ hR1 hM1 (lv_sub hl [0, 1, 2, 3, 4] rfl) hP hPm hS)

set_option maxHeartbeats 4000000 in
theorem lc_clear {p : Program} {l : Launch} {e : Env} {s : State} {m : MethodId} {below : List Frame} {meth : Method} {c : Code} {b L : Nat} {xs : Nat → Int32} {D : va_G} {ct : Nat → ClassId} {ad am zt : Nat → Nat} (C : lCx p l s m c b L xs D ct ad am zt) {Q : State → Prop} {j : Nat} (hj : 4 * j + 3 < L) {z : lS} {y : mS} {α : tA} {t : Int32} (hR : tR α z.1.1) (hM : mR α t y) {H : Heap} {locs : List Loc} {ls : Array Slot} (hl : lv_has ls 7 [(4, .int (nI (4 * j))), (0, .ref b), (1, .ref (ad 0)), (2, .ref (am 0)), (3, .ref (ad 424))]) (hP : va_P D cL (gw 425 ad (lD ct ad z)) H) (hPm : va_P D cL (gw 8 am (mD ct am y)) H) (hS : va_S (tB s) s.heap H locs) (again : ∀ (z : lS) (y : mS) (α : tA) (t : Int32) (H : Heap) (locs : List Loc) (ls : Array Slot), tR α z.1.1 → mR α t y → lv_has ls 7 [(4, .int (nI (4 * j))), (0, .ref b), (1, .ref (ad 0)), (2, .ref (am 0)), (3, .ref (ad 424))] → va_P D cL (gw 425 ad (lD ct ad z)) H → va_P D cL (gw 8 am (mD ct am y)) H → va_S (tB s) s.heap H locs → W p l e room_1 s m #[.ref b] below meth c H locs (433 + (j + 1)) (5635 + 6 * (j + 1)) Q (F0 m 1009 ls [])) : W p l e room_1 s m #[.ref b] below meth c H locs (433 + j) (5635 + 6 * j) Q (F0 m 940 ls []) := by
  obtain ⟨hx, hb, hml, hown, htw, hX, hbl, hL, hls, h0, hC, hK, hI, hJ, hT, hU, hd⟩ := C
  have hZ := tZ_self s
  have hTG := k_TG_clear l D ct ad (l_inj hI) z.1 α hR 
  have hMo := k_Mo_clear l D ct am hJ y α t hM 
  refine lv_aload_n hx hb mD_La_law_940 rfl (lv_at hl 2 rfl) ?_
  refine gc_Vi (As := []) (rest := []) hx hb hml hown htw hK (l_sub hP) hS 0 hTG gZ0_ok (fun _ _ _ => trivial) (l_gT (fun k h => hT k (by omega)) hS.1) (by decide) rfl rfl ww_267 ww_268 ww_269 ww_23 wC_TG_clear mP_TG_clear ⟨(Nat.le_of_ble_eq_true rfl), (Nat.le_of_ble_eq_true rfl)⟩ rfl hl.1 rfl (Nat.le_of_ble_eq_true rfl) mD_La_law_941 ⟨by show 433 + j + 0 ≤ 601024; omega, by show 5635 + 6 * j + 0 ≤ 7293034; omega⟩ (fun r1 x1 H locs hp hQ_ hz1 hk1 hS => ?_)
  have hPm := l_keep (fun k j_ h1 h2 => hd k j_ (by omega) h2) hPm hk1
  have hP := l_join hI hP hQ_ hk1
  obtain ⟨rfl, hR1⟩ := hp
  refine lv_aload_n hx hb mD_La_law_944 rfl (lv_at hl 3 rfl) ?_
  refine gc_Vi (As := []) (rest := [.int (nI (aZ α))]) hx hb hml hown htw hK hPm hS 0 hMo gZ0_ok (fun _ _ _ => trivial) (l_gT hU hS.1) (by decide) rfl rfl ww_773 ww_774 ww_775 ww_33 wC_Mo_clear mP_Mo_clear ⟨(Nat.le_of_ble_eq_true rfl), (Nat.le_of_ble_eq_true rfl)⟩ rfl hl.1 rfl (Nat.le_of_ble_eq_true rfl) mD_La_law_945 ⟨by show 433 + j + 0 + 0 ≤ 601024; omega, by show 5635 + 6 * j + 0 + 0 ≤ 7293034; omega⟩ (fun r2 y1 H locs hp hPm hz2 hk2 hS => ?_)
  have hP := l_keep (fun k j_ h1 h2 e_ => hd j_ k h2 h1 e_.symm) hP hk2
  obtain ⟨rfl, hM1⟩ := hp
  refine lv_icmp_eq (tgt := 1009) hx hb mD_La_law_948 rfl (fun hc => ?_) (fun hc => absurd rfl hc)
  exact W.widen (by show 433 + j + 0 + 0 ≤ 433 + (j + 1); omega) (by show 5635 + 6 * j + 0 + 0 ≤ 5635 + 6 * (j + 1); omega) (again (x1, z.2) y1 (aClear α) 0 _ _ _ hR1 hM1 (lv_sub hl [0, 1, 2, 3, 4] rfl) hP hPm hS)
