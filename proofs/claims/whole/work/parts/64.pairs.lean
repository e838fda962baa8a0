/-! class and reference side by side: for each call one code, one answer, one abstract state behind it. Laid by wip/whole/part_pairs.py. -/
theorem gH_mono {l : Launch} {y : MethodName} {b : ByteArray} {ml : Nat} {hh : List (Nat × Nat × Nat × Nat)} {rm : Room} {D : va_G} {tys : List (ClassId × FieldType)} {Z : (Nat → Prop) → State → Prop} {S : Type} {n : Nat} {ad : Nat → Nat} {wd : S → Nat → va_E} {av : List Value} {x : S} {post post' : Int32 → S → Prop} (h : gH l y b ml hh rm D tys Z n ad wd av x post) (hp : ∀ r x', post r x' → post' r x') : gH l y b ml hh rm D tys Z n ad wd av x post' := by
  intro sz p e h1 h2 h3 s m args below h4 h5 h6 h7
  obtain ⟨k, oc, a1, a2, a3, ⟨⟨r, u, b1, b2, b3⟩, b4⟩, a5⟩ := h sz p e h1 h2 h3 s m args below h4 h5 h6 h7
  exact ⟨k, oc, a1, a2, a3, ⟨⟨r, u, b1, hp r u b2, b3⟩, b4⟩, a5⟩
theorem gMi_mono {l : Launch} {y : MethodName} {b : ByteArray} {ml : Nat} {r0 : Option FieldType} {rm : Room} {D : va_G} {tys : List (ClassId × FieldType)} {Z : (Nat → Prop) → State → Prop} {S : Type} {n : Nat} {ad : Nat → Nat} {wd : S → Nat → va_E} {av : List Value} {x : S} {post post' : Int32 → S → Prop} (h : gMi l y b ml r0 rm D tys Z n ad wd av x post) (hp : ∀ r x', post r x' → post' r x') : gMi l y b ml r0 rm D tys Z n ad wd av x post' := by
  intro sz p e h1 h2 h3 s m args below h4 h5 h6 h7
  obtain ⟨k, oc, a1, a2, a3, ⟨⟨r, u, b1, b2, b3⟩, b4⟩, a5⟩ := h sz p e h1 h2 h3 s m args below h4 h5 h6 h7
  exact ⟨k, oc, a1, a2, a3, ⟨⟨r, u, b1, hp r u b2, b3⟩, b4⟩, a5⟩
/-- one call: k its code, v its answer, vl the answer as a long -/
def lPair (l : Launch) (D : va_G) (ct : Nat → ClassId) (ad am : Nat → Nat) (s0 : State) (yH : MethodName) (bH : ByteArray) (mlH : Nat) (hh : List (Nat × Nat × Nat × Nat)) (avH : List Value) (yM : MethodName) (bM : ByteArray) (mlM : Nat) (rM : Option FieldType) (rmM : Room) (avM : List Value) (z : lS) (y : mS) (w : Int32 → Int64) : Prop :=
  ∃ (k : Nat) (v : Int32) (α : tA) (rm : Room), (k ≤ 3 ∧ rm.frames + 1 ≤ 11 ∧ 8 + (mlH + 11) + rm.locals ≤ 406 ∧ rm.cells ≤ 1 ∧ rm.slots ≤ 6) ∧ gH l yH bH mlH hh rm D (tT ct) (tZ s0) 425 ad (lD ct ad) avH z (fun r z' => r = nI k ∧ tR α z'.1.1 ∧ (k = 0 → z'.2 = w v)) ∧ gMi l yM bM mlM rM rmM D (tT ct) gZ0 8 am (mD ct am) avM y (fun r y' => mR α (nI k) y' ∧ (k = 0 → r = v))
theorem lp_ok {post : tS → Prop} {q : Int32} {r : Int32} {z' : lS} {w : Int32 → Int64} (h : r = nI 0 ∧ ∃ v, (v = q ∧ post z'.1) ∧ z'.2 = w v) : r = nI 0 ∧ post z'.1 ∧ (0 = 0 → z'.2 = w q) := by
  obtain ⟨h1, v, ⟨h2, h3⟩, h4⟩ := h
  exact ⟨h1, h3, fun _ => by rw [h4, h2]⟩

set_option maxHeartbeats 4000000 in
theorem p_bit (l : Launch) (D : va_G) (ct : Nat → ClassId) (ad am : Nat → Nat) (hI : gw_inj 425 ad) (hJ : gw_inj 8 am) (hls : l.stackTraces = false) {s0 : State} {zt : Nat → Nat} (h0 : tO s0 zt) (hC : tOC s0) (z : lS) (y : mS) (α : tA) (t : Int32) (hR : tR α z.1.1) (hM : mR α t y) (bz : Bool) : lPair l D ct ad am s0 mY_La_bit mB_La_bit 4 [(0, 9, 12, 13)] [.ref (ad 0), .int (tBi bz), .ref (ad 424)] mY_Mo_bit mB_Mo_bit 2 (some .int) (rF 1 23) [.ref (am 0), .int (tBi bz)] z y (fun v => v.toInt64) := by
  rcases aFree_or α with ⟨q, hf⟩ | hf
  · skip
    exact ⟨0, nI q, (aMade α q bz 16), _, ⟨Nat.le_of_ble_eq_true rfl, Nat.le_of_ble_eq_true rfl, Nat.le_of_ble_eq_true rfl, Nat.le_of_ble_eq_true rfl, Nat.le_of_ble_eq_true rfl⟩, gH_mono (k_La_bit l D ct ad hI z (tBi bz) (k_TG_bit l D ct ad (l_inj hI) z.1 α hR bz hf)) (fun r z_ h => lp_ok (post := fun x => tR (aMade α q bz 16) x.1) h), gMi_mono (k_Mo_bit l D ct am hJ y α t hM bz hf) (fun r y_ h => ⟨h.2, fun _ => h.1⟩)⟩
  · skip
    exact ⟨1, 0, α, _, ⟨Nat.le_of_ble_eq_true rfl, Nat.le_of_ble_eq_true rfl, Nat.le_of_ble_eq_true rfl, Nat.le_of_ble_eq_true rfl, Nat.le_of_ble_eq_true rfl⟩, gH_mono (x1_La_bit l D ct ad hI z (tBi bz) hC (x_TG_bit l D ct ad (l_inj hI) z.1 hls h0 α hR bz hf)) (fun r z_ h => ⟨h.1, h.2.1, fun e => by cases e⟩), gMi_mono (n1_Mo_bit l D ct am hJ y α t hM bz hf) (fun r y_ h => ⟨h, fun e => by cases e⟩)⟩

set_option maxHeartbeats 4000000 in
theorem p_drop (l : Launch) (D : va_G) (ct : Nat → ClassId) (ad am : Nat → Nat) (hI : gw_inj 425 ad) (hJ : gw_inj 8 am) (hls : l.stackTraces = false) {s0 : State} {zt : Nat → Nat} (h0 : tO s0 zt) (hC : tOC s0) (z : lS) (y : mS) (α : tA) (t : Int32) (hR : tR α z.1.1) (hM : mR α t y) (a : Int32) : lPair l D ct ad am s0 mY_La_drop mB_La_drop 4 [(0, 9, 12, 19)] [.ref (ad 0), .int a, .ref (ad 424)] mY_Mo_drop mB_Mo_drop 2 (some .int) (rF 1 23) [.ref (am 0), .int a] z y (fun v => v.toInt64) := by
  rcases Classical.em (aHas α a) with hhu | hhu
  · obtain ⟨u, hu, rfl, htu⟩ := hhu
    exact ⟨0, nI (aCnt (aT (aDrop α u)) 120), (aDrop α u), _, ⟨Nat.le_of_ble_eq_true rfl, Nat.le_of_ble_eq_true rfl, Nat.le_of_ble_eq_true rfl, Nat.le_of_ble_eq_true rfl, Nat.le_of_ble_eq_true rfl⟩, gH_mono (k_La_drop l D ct ad hI z (nI u) (k_TG_drop l D ct ad (l_inj hI) z.1 α hR hu htu)) (fun r z_ h => lp_ok (post := fun x => tR (aDrop α u) x.1) h), gMi_mono (k_Mo_drop l D ct am hJ y α t hM hu htu) (fun r y_ h => ⟨h.2, fun _ => h.1⟩)⟩
  · skip
    exact ⟨1, 0, α, _, ⟨Nat.le_of_ble_eq_true rfl, Nat.le_of_ble_eq_true rfl, Nat.le_of_ble_eq_true rfl, Nat.le_of_ble_eq_true rfl, Nat.le_of_ble_eq_true rfl⟩, gH_mono (x1_La_drop l D ct ad hI z a hC (x_TG_drop l D ct ad (l_inj hI) z.1 hls h0 α hR a hhu)) (fun r z_ h => ⟨h.1, h.2.1, fun e => by cases e⟩), gMi_mono (n1_Mo_drop l D ct am hJ y α t hM a hhu) (fun r y_ h => ⟨h, fun e => by cases e⟩)⟩

set_option maxHeartbeats 4000000 in
theorem p_not (l : Launch) (D : va_G) (ct : Nat → ClassId) (ad am : Nat → Nat) (hI : gw_inj 425 ad) (hJ : gw_inj 8 am) (hls : l.stackTraces = false) {s0 : State} {zt : Nat → Nat} (h0 : tO s0 zt) (hC : tOC s0) (z : lS) (y : mS) (α : tA) (t : Int32) (hR : tR α z.1.1) (hM : mR α t y) (a : Int32) : lPair l D ct ad am s0 mY_La_not mB_La_not 4 [(0, 9, 12, 19), (0, 9, 15, 13)] [.ref (ad 0), .int a, .ref (ad 424)] mY_Mo_not mB_Mo_not 2 (some .int) (rF 1 23) [.ref (am 0), .int a] z y (fun v => v.toInt64) := by
  rcases Classical.em (aHas α a) with hhu | hhu
  · obtain ⟨u, hu, rfl, htu⟩ := hhu
    rcases aFree_or α with ⟨q, hf⟩ | hf
    · skip
      exact ⟨0, nI q, (aMade α q (!(aV α u)) (aB α u)), _, ⟨Nat.le_of_ble_eq_true rfl, Nat.le_of_ble_eq_true rfl, Nat.le_of_ble_eq_true rfl, Nat.le_of_ble_eq_true rfl, Nat.le_of_ble_eq_true rfl⟩, gH_mono (k_La_not l D ct ad hI z (nI u) (k_TG_not l D ct ad (l_inj hI) z.1 α hR hu htu hf)) (fun r z_ h => lp_ok (post := fun x => tR (aMade α q (!(aV α u)) (aB α u)) x.1) h), gMi_mono (k_Mo_not l D ct am hJ y α t hM hu htu hf) (fun r y_ h => ⟨h.2, fun _ => h.1⟩)⟩
    · skip
      exact ⟨2, 0, α, _, ⟨Nat.le_of_ble_eq_true rfl, Nat.le_of_ble_eq_true rfl, Nat.le_of_ble_eq_true rfl, Nat.le_of_ble_eq_true rfl, Nat.le_of_ble_eq_true rfl⟩, gH_mono (x2_La_not l D ct ad hI z (nI u) hC (x_TG_not2 l D ct ad (l_inj hI) z.1 hls h0 α hR hu htu hf)) (fun r z_ h => ⟨h.1, h.2.1, fun e => by cases e⟩), gMi_mono (n2_Mo_not l D ct am hJ y α t hM hu htu hf) (fun r y_ h => ⟨h, fun e => by cases e⟩)⟩
  · skip
    exact ⟨1, 0, α, _, ⟨Nat.le_of_ble_eq_true rfl, Nat.le_of_ble_eq_true rfl, Nat.le_of_ble_eq_true rfl, Nat.le_of_ble_eq_true rfl, Nat.le_of_ble_eq_true rfl⟩, gH_mono (x1_La_not l D ct ad hI z a hC (x_TG_not1 l D ct ad (l_inj hI) z.1 hls h0 α hR a hhu)) (fun r z_ h => ⟨h.1, h.2.1, fun e => by cases e⟩), gMi_mono (n1_Mo_not l D ct am hJ y α t hM a hhu) (fun r y_ h => ⟨h, fun e => by cases e⟩)⟩

set_option maxHeartbeats 4000000 in
theorem p_blur (l : Launch) (D : va_G) (ct : Nat → ClassId) (ad am : Nat → Nat) (hI : gw_inj 425 ad) (hJ : gw_inj 8 am) (hls : l.stackTraces = false) {s0 : State} {zt : Nat → Nat} (h0 : tO s0 zt) (hC : tOC s0) (z : lS) (y : mS) (α : tA) (t : Int32) (hR : tR α z.1.1) (hM : mR α t y) (a b : Int32) : lPair l D ct ad am s0 mY_La_blur mB_La_blur 5 [(0, 10, 13, 19), (0, 10, 17, 28), (0, 10, 21, 13)] [.ref (ad 0), .int a, .int b, .ref (ad 424)] mY_Mo_blur mB_Mo_blur 6 (some .int) (rF 1 23) [.ref (am 0), .int a, .int b] z y (fun v => v.toInt64) := by
  rcases Classical.em (aHas α a) with hhu | hhu
  · obtain ⟨u, hu, rfl, htu⟩ := hhu
    rcases Classical.em (∃ n, n ≤ 1000 ∧ b = nI n) with hn | hn
    · obtain ⟨n, hn, rfl⟩ := hn
      rcases Nat.lt_or_ge (aB α u + 16 * n) 1073741824 with hbd | hbd
      · skip
        exact ⟨0, nI (aB α u + 16 * n), (aBound α u (aB α u + 16 * n)), _, ⟨Nat.le_of_ble_eq_true rfl, Nat.le_of_ble_eq_true rfl, Nat.le_of_ble_eq_true rfl, Nat.le_of_ble_eq_true rfl, Nat.le_of_ble_eq_true rfl⟩, gH_mono (k_La_blur l D ct ad hI z (nI u) (nI n) (k_TG_blur l D ct ad (l_inj hI) z.1 α hR hu htu hn hbd)) (fun r z_ h => lp_ok (post := fun x => tR (aBound α u (aB α u + 16 * n)) x.1) h), gMi_mono (k_Mo_blur l D ct am hJ y α t hM hu htu hn hbd) (fun r y_ h => ⟨h.2, fun _ => h.1⟩)⟩
      · skip
        exact ⟨3, 0, α, _, ⟨Nat.le_of_ble_eq_true rfl, Nat.le_of_ble_eq_true rfl, Nat.le_of_ble_eq_true rfl, Nat.le_of_ble_eq_true rfl, Nat.le_of_ble_eq_true rfl⟩, gH_mono (x3_La_blur l D ct ad hI z (nI u) (nI n) hC (x_TG_blur3 l D ct ad (l_inj hI) z.1 hls h0 α hR hu htu hn hbd)) (fun r z_ h => ⟨h.1, h.2.1, fun e => by cases e⟩), gMi_mono (n3_Mo_blur l D ct am hJ y α t hM hu htu hn hbd) (fun r y_ h => ⟨h, fun e => by cases e⟩)⟩
    · skip
      exact ⟨2, 0, α, _, ⟨Nat.le_of_ble_eq_true rfl, Nat.le_of_ble_eq_true rfl, Nat.le_of_ble_eq_true rfl, Nat.le_of_ble_eq_true rfl, Nat.le_of_ble_eq_true rfl⟩, gH_mono (x2_La_blur l D ct ad hI z (nI u) b hC (x_TG_blur2 l D ct ad (l_inj hI) z.1 hls h0 α hR hu htu b hn)) (fun r z_ h => ⟨h.1, h.2.1, fun e => by cases e⟩), gMi_mono (n2_Mo_blur l D ct am hJ y α t hM hu htu b hn) (fun r y_ h => ⟨h, fun e => by cases e⟩)⟩
  · skip
    exact ⟨1, 0, α, _, ⟨Nat.le_of_ble_eq_true rfl, Nat.le_of_ble_eq_true rfl, Nat.le_of_ble_eq_true rfl, Nat.le_of_ble_eq_true rfl, Nat.le_of_ble_eq_true rfl⟩, gH_mono (x1_La_blur l D ct ad hI z a b hC (x_TG_blur1 l D ct ad (l_inj hI) z.1 hls h0 α hR a b hhu)) (fun r z_ h => ⟨h.1, h.2.1, fun e => by cases e⟩), gMi_mono (n1_Mo_blur l D ct am hJ y α t hM a b hhu) (fun r y_ h => ⟨h, fun e => by cases e⟩)⟩

set_option maxHeartbeats 4000000 in
theorem p_pile (l : Launch) (D : va_G) (ct : Nat → ClassId) (ad am : Nat → Nat) (hI : gw_inj 425 ad) (hJ : gw_inj 8 am) (hls : l.stackTraces = false) {s0 : State} {zt : Nat → Nat} (h0 : tO s0 zt) (hC : tOC s0) (z : lS) (y : mS) (α : tA) (t : Int32) (hR : tR α z.1.1) (hM : mR α t y) (a b : Int32) : lPair l D ct ad am s0 mY_La_pile mB_La_pile 5 [(0, 10, 13, 19), (0, 10, 17, 28), (0, 10, 21, 13)] [.ref (ad 0), .int a, .int b, .ref (ad 424)] mY_Mo_pile mB_Mo_pile 6 (some .int) (rF 1 23) [.ref (am 0), .int a, .int b] z y (fun v => v.toInt64) := by
  rcases Classical.em (aHas α a) with hhu | hhu
  · obtain ⟨u, hu, rfl, htu⟩ := hhu
    rcases Classical.em (∃ n, n ≤ 100 ∧ b = nI n) with hn | hn
    · obtain ⟨n, hn, rfl⟩ := hn
      rcases Nat.lt_or_ge (aB α u * (8 * n + 1)) 1073741824 with hbd | hbd
      · skip
        exact ⟨0, nI (aB α u * (8 * n + 1)), (aBound α u (aB α u * (8 * n + 1))), _, ⟨Nat.le_of_ble_eq_true rfl, Nat.le_of_ble_eq_true rfl, Nat.le_of_ble_eq_true rfl, Nat.le_of_ble_eq_true rfl, Nat.le_of_ble_eq_true rfl⟩, gH_mono (k_La_pile l D ct ad hI z (nI u) (nI n) (k_TG_pile l D ct ad (l_inj hI) z.1 α hR hu htu hn hbd)) (fun r z_ h => lp_ok (post := fun x => tR (aBound α u (aB α u * (8 * n + 1))) x.1) h), gMi_mono (k_Mo_pile l D ct am hJ y α t hM hu htu hn hbd) (fun r y_ h => ⟨h.2, fun _ => h.1⟩)⟩
      · skip
        exact ⟨3, 0, α, _, ⟨Nat.le_of_ble_eq_true rfl, Nat.le_of_ble_eq_true rfl, Nat.le_of_ble_eq_true rfl, Nat.le_of_ble_eq_true rfl, Nat.le_of_ble_eq_true rfl⟩, gH_mono (x3_La_pile l D ct ad hI z (nI u) (nI n) hC (x_TG_pile3 l D ct ad (l_inj hI) z.1 hls h0 α hR hu htu hn hbd)) (fun r z_ h => ⟨h.1, h.2.1, fun e => by cases e⟩), gMi_mono (n3_Mo_pile l D ct am hJ y α t hM hu htu hn hbd) (fun r y_ h => ⟨h, fun e => by cases e⟩)⟩
    · skip
      exact ⟨2, 0, α, _, ⟨Nat.le_of_ble_eq_true rfl, Nat.le_of_ble_eq_true rfl, Nat.le_of_ble_eq_true rfl, Nat.le_of_ble_eq_true rfl, Nat.le_of_ble_eq_true rfl⟩, gH_mono (x2_La_pile l D ct ad hI z (nI u) b hC (x_TG_pile2 l D ct ad (l_inj hI) z.1 hls h0 α hR hu htu b hn)) (fun r z_ h => ⟨h.1, h.2.1, fun e => by cases e⟩), gMi_mono (n2_Mo_pile l D ct am hJ y α t hM hu htu b hn) (fun r y_ h => ⟨h, fun e => by cases e⟩)⟩
  · skip
    exact ⟨1, 0, α, _, ⟨Nat.le_of_ble_eq_true rfl, Nat.le_of_ble_eq_true rfl, Nat.le_of_ble_eq_true rfl, Nat.le_of_ble_eq_true rfl, Nat.le_of_ble_eq_true rfl⟩, gH_mono (x1_La_pile l D ct ad hI z a b hC (x_TG_pile1 l D ct ad (l_inj hI) z.1 hls h0 α hR a b hhu)) (fun r z_ h => ⟨h.1, h.2.1, fun e => by cases e⟩), gMi_mono (n1_Mo_pile l D ct am hJ y α t hM a b hhu) (fun r y_ h => ⟨h, fun e => by cases e⟩)⟩

set_option maxHeartbeats 4000000 in
theorem p_gate (l : Launch) (D : va_G) (ct : Nat → ClassId) (ad am : Nat → Nat) (hI : gw_inj 425 ad) (hJ : gw_inj 8 am) (hls : l.stackTraces = false) {s0 : State} {zt : Nat → Nat} (h0 : tO s0 zt) (hC : tOC s0) (z : lS) (y : mS) (α : tA) (t : Int32) (hR : tR α z.1.1) (hM : mR α t y) (a b c_ : Int32) : lPair l D ct ad am s0 mY_La_gate mB_La_gate 6 [(0, 12, 15, 19), (0, 12, 19, 13)] [.ref (ad 0), .int a, .int b, .int c_, .ref (ad 424)] mY_Mo_gate mB_Mo_gate 6 (some .int) (rF 1 25) [.ref (am 0), .int a, .int b, .int c_] z y (fun v => v.toInt64) := by
  rcases Classical.em (∃ q, q < 8 ∧ a = nI q) with hg | hg
  · obtain ⟨gt, hgt, rfl⟩ := hg
    rcases Classical.em (aHas α b) with hhu1 | hhu1
    · obtain ⟨u1, hu1, rfl, htu1⟩ := hhu1
      rcases Classical.em (aHas α c_) with hhu2 | hhu2
      · obtain ⟨u2, hu2, rfl, htu2⟩ := hhu2
        rcases Classical.em (tp_far gt (aB α u1) (aB α u2)) with hfar | hfar
        · skip
          exact ⟨2, 0, (aRefus α), _, ⟨Nat.le_of_ble_eq_true rfl, Nat.le_of_ble_eq_true rfl, Nat.le_of_ble_eq_true rfl, Nat.le_of_ble_eq_true rfl, Nat.le_of_ble_eq_true rfl⟩, gH_mono (x2_La_gate l D ct ad hI z (nI gt) (nI u1) (nI u2) hC (x_TG_gate4 l D ct ad (l_inj hI) z.1 hls h0 α hR hgt hu1 htu1 hu2 htu2 hfar)) (fun r z_ h => ⟨h.1, h.2.1, fun e => by cases e⟩), gMi_mono (n2a_Mo_gate l D ct am hJ y α t hM hgt hu1 htu1 hu2 htu2 hfar) (fun r y_ h => ⟨h, fun e => by cases e⟩)⟩
        · skip
          rcases aFree_or α with ⟨q, hf⟩ | hf
          · skip
            exact ⟨0, nI q, (aGates (aMade α q (tp_truth gt (aV α u1) (aV α u2)) 3186688) (aG α + 1)), _, ⟨Nat.le_of_ble_eq_true rfl, Nat.le_of_ble_eq_true rfl, Nat.le_of_ble_eq_true rfl, Nat.le_of_ble_eq_true rfl, Nat.le_of_ble_eq_true rfl⟩, gH_mono (k_La_gate l D ct ad hI z (nI gt) (nI u1) (nI u2) (k_TG_gate l D ct ad (l_inj hI) z.1 h0 α hR hgt hu1 htu1 hu2 htu2 hfar hf)) (fun r z_ h => lp_ok (post := fun x => tR (aGates (aMade α q (tp_truth gt (aV α u1) (aV α u2)) 3186688) (aG α + 1)) x.1) h), gMi_mono (k_Mo_gate l D ct am hJ y α t hM hgt hu1 htu1 hu2 htu2 hfar hf) (fun r y_ h => ⟨h.2, fun _ => h.1⟩)⟩
          · skip
            exact ⟨2, 0, α, _, ⟨Nat.le_of_ble_eq_true rfl, Nat.le_of_ble_eq_true rfl, Nat.le_of_ble_eq_true rfl, Nat.le_of_ble_eq_true rfl, Nat.le_of_ble_eq_true rfl⟩, gH_mono (x2_La_gate l D ct ad hI z (nI gt) (nI u1) (nI u2) hC (x_TG_gate5 l D ct ad (l_inj hI) z.1 hls h0 α hR hgt hu1 htu1 hu2 htu2 hfar hf)) (fun r z_ h => ⟨h.1, h.2.1, fun e => by cases e⟩), gMi_mono (n2b_Mo_gate l D ct am hJ y α t hM hgt hu1 htu1 hu2 htu2 hfar hf) (fun r y_ h => ⟨h, fun e => by cases e⟩)⟩
      · skip
        exact ⟨1, 0, α, _, ⟨Nat.le_of_ble_eq_true rfl, Nat.le_of_ble_eq_true rfl, Nat.le_of_ble_eq_true rfl, Nat.le_of_ble_eq_true rfl, Nat.le_of_ble_eq_true rfl⟩, gH_mono (x1_La_gate l D ct ad hI z (nI gt) (nI u1) c_ hC (x_TG_gate3 l D ct ad (l_inj hI) z.1 hls h0 α hR hgt hu1 htu1 c_ hhu2)) (fun r z_ h => ⟨h.1, h.2.1, fun e => by cases e⟩), gMi_mono (n1c_Mo_gate l D ct am hJ y α t hM hgt hu1 htu1 c_ hhu2) (fun r y_ h => ⟨h, fun e => by cases e⟩)⟩
    · skip
      exact ⟨1, 0, α, _, ⟨Nat.le_of_ble_eq_true rfl, Nat.le_of_ble_eq_true rfl, Nat.le_of_ble_eq_true rfl, Nat.le_of_ble_eq_true rfl, Nat.le_of_ble_eq_true rfl⟩, gH_mono (x1_La_gate l D ct ad hI z (nI gt) b c_ hC (x_TG_gate2 l D ct ad (l_inj hI) z.1 hls h0 α hR hgt b c_ hhu1)) (fun r z_ h => ⟨h.1, h.2.1, fun e => by cases e⟩), gMi_mono (n1b_Mo_gate l D ct am hJ y α t hM hgt b c_ hhu1) (fun r y_ h => ⟨h, fun e => by cases e⟩)⟩
  · skip
    exact ⟨1, 0, α, _, ⟨Nat.le_of_ble_eq_true rfl, Nat.le_of_ble_eq_true rfl, Nat.le_of_ble_eq_true rfl, Nat.le_of_ble_eq_true rfl, Nat.le_of_ble_eq_true rfl⟩, gH_mono (x1_La_gate l D ct ad hI z a b c_ hC (x_TG_gate1 l D ct ad (l_inj hI) z.1 hls h0 α hR a b c_ hg)) (fun r z_ h => ⟨h.1, h.2.1, fun e => by cases e⟩), gMi_mono (n1a_Mo_gate l D ct am hJ y α t hM a b c_ hg) (fun r y_ h => ⟨h, fun e => by cases e⟩)⟩

set_option maxHeartbeats 4000000 in
theorem p_choose (l : Launch) (D : va_G) (ct : Nat → ClassId) (ad am : Nat → Nat) (hI : gw_inj 425 ad) (hJ : gw_inj 8 am) (hls : l.stackTraces = false) {s0 : State} {zt : Nat → Nat} (h0 : tO s0 zt) (hC : tOC s0) (z : lS) (y : mS) (α : tA) (t : Int32) (hR : tR α z.1.1) (hM : mR α t y) (a b c_ : Int32) : lPair l D ct ad am s0 mY_La_choose mB_La_choose 6 [(0, 12, 15, 19), (0, 12, 19, 13)] [.ref (ad 0), .int a, .int b, .int c_, .ref (ad 424)] mY_Mo_choose mB_Mo_choose 6 (some .int) (rF 1 25) [.ref (am 0), .int a, .int b, .int c_] z y (fun v => v.toInt64) := by
  rcases Classical.em (aHas α a) with hhu1 | hhu1
  · obtain ⟨u1, hu1, rfl, htu1⟩ := hhu1
    rcases Classical.em (aHas α b) with hhu2 | hhu2
    · obtain ⟨u2, hu2, rfl, htu2⟩ := hhu2
      rcases Classical.em (aHas α c_) with hhu3 | hhu3
      · obtain ⟨u3, hu3, rfl, htu3⟩ := hhu3
        rcases Classical.em (tp_far 0 (aB α u1) (aB α u2)) with hf1 | hf1
        · skip
          exact ⟨2, 0, (aRefus α), _, ⟨Nat.le_of_ble_eq_true rfl, Nat.le_of_ble_eq_true rfl, Nat.le_of_ble_eq_true rfl, Nat.le_of_ble_eq_true rfl, Nat.le_of_ble_eq_true rfl⟩, gH_mono (x2_La_choose l D ct ad hI z (nI u1) (nI u2) (nI u3) hC (x_TG_choose4 l D ct ad (l_inj hI) z.1 hls h0 α hR hu1 htu1 hu2 htu2 hu3 htu3 hf1)) (fun r z_ h => ⟨h.1, h.2.1, fun e => by cases e⟩), gMi_mono (n2a_Mo_choose l D ct am hJ y α t hM hu1 htu1 hu2 htu2 hu3 htu3 hf1) (fun r y_ h => ⟨h, fun e => by cases e⟩)⟩
        · skip
          rcases Classical.em (tp_far 6 (aB α u3) (aB α u1)) with hf2 | hf2
          · skip
            exact ⟨2, 0, (aRefus α), _, ⟨Nat.le_of_ble_eq_true rfl, Nat.le_of_ble_eq_true rfl, Nat.le_of_ble_eq_true rfl, Nat.le_of_ble_eq_true rfl, Nat.le_of_ble_eq_true rfl⟩, gH_mono (x2_La_choose l D ct ad hI z (nI u1) (nI u2) (nI u3) hC (x_TG_choose5 l D ct ad (l_inj hI) z.1 hls h0 α hR hu1 htu1 hu2 htu2 hu3 htu3 hf1 hf2)) (fun r z_ h => ⟨h.1, h.2.1, fun e => by cases e⟩), gMi_mono (n2b_Mo_choose l D ct am hJ y α t hM hu1 htu1 hu2 htu2 hu3 htu3 hf1 hf2) (fun r y_ h => ⟨h, fun e => by cases e⟩)⟩
          · skip
            rcases aFree_or α with ⟨q, hf⟩ | hf
            · skip
              exact ⟨0, nI q, (aGates (aMade α q (if aV α u1 then aV α u2 else aV α u3) 3186688) (aG α + 3)), _, ⟨Nat.le_of_ble_eq_true rfl, Nat.le_of_ble_eq_true rfl, Nat.le_of_ble_eq_true rfl, Nat.le_of_ble_eq_true rfl, Nat.le_of_ble_eq_true rfl⟩, gH_mono (k_La_choose l D ct ad hI z (nI u1) (nI u2) (nI u3) (k_TG_choose l D ct ad (l_inj hI) z.1 h0 α hR hu1 htu1 hu2 htu2 hu3 htu3 hf1 hf2 hf)) (fun r z_ h => lp_ok (post := fun x => tR (aGates (aMade α q (if aV α u1 then aV α u2 else aV α u3) 3186688) (aG α + 3)) x.1) h), gMi_mono (k_Mo_choose l D ct am hJ y α t hM hu1 htu1 hu2 htu2 hu3 htu3 hf1 hf2 hf) (fun r y_ h => ⟨h.2, fun _ => h.1⟩)⟩
            · skip
              exact ⟨2, 0, α, _, ⟨Nat.le_of_ble_eq_true rfl, Nat.le_of_ble_eq_true rfl, Nat.le_of_ble_eq_true rfl, Nat.le_of_ble_eq_true rfl, Nat.le_of_ble_eq_true rfl⟩, gH_mono (x2_La_choose l D ct ad hI z (nI u1) (nI u2) (nI u3) hC (x_TG_choose6 l D ct ad (l_inj hI) z.1 hls h0 α hR hu1 htu1 hu2 htu2 hu3 htu3 hf1 hf2 hf)) (fun r z_ h => ⟨h.1, h.2.1, fun e => by cases e⟩), gMi_mono (n2c_Mo_choose l D ct am hJ y α t hM hu1 htu1 hu2 htu2 hu3 htu3 hf1 hf2 hf) (fun r y_ h => ⟨h, fun e => by cases e⟩)⟩
      · skip
        exact ⟨1, 0, α, _, ⟨Nat.le_of_ble_eq_true rfl, Nat.le_of_ble_eq_true rfl, Nat.le_of_ble_eq_true rfl, Nat.le_of_ble_eq_true rfl, Nat.le_of_ble_eq_true rfl⟩, gH_mono (x1_La_choose l D ct ad hI z (nI u1) (nI u2) c_ hC (x_TG_choose3 l D ct ad (l_inj hI) z.1 hls h0 α hR hu1 htu1 hu2 htu2 c_ hhu3)) (fun r z_ h => ⟨h.1, h.2.1, fun e => by cases e⟩), gMi_mono (n1c_Mo_choose l D ct am hJ y α t hM hu1 htu1 hu2 htu2 c_ hhu3) (fun r y_ h => ⟨h, fun e => by cases e⟩)⟩
    · skip
      exact ⟨1, 0, α, _, ⟨Nat.le_of_ble_eq_true rfl, Nat.le_of_ble_eq_true rfl, Nat.le_of_ble_eq_true rfl, Nat.le_of_ble_eq_true rfl, Nat.le_of_ble_eq_true rfl⟩, gH_mono (x1_La_choose l D ct ad hI z (nI u1) b c_ hC (x_TG_choose2 l D ct ad (l_inj hI) z.1 hls h0 α hR hu1 htu1 b c_ hhu2)) (fun r z_ h => ⟨h.1, h.2.1, fun e => by cases e⟩), gMi_mono (n1b_Mo_choose l D ct am hJ y α t hM hu1 htu1 b c_ hhu2) (fun r y_ h => ⟨h, fun e => by cases e⟩)⟩
  · skip
    exact ⟨1, 0, α, _, ⟨Nat.le_of_ble_eq_true rfl, Nat.le_of_ble_eq_true rfl, Nat.le_of_ble_eq_true rfl, Nat.le_of_ble_eq_true rfl, Nat.le_of_ble_eq_true rfl⟩, gH_mono (x1_La_choose l D ct ad hI z a b c_ hC (x_TG_choose1 l D ct ad (l_inj hI) z.1 hls h0 α hR a b c_ hhu1)) (fun r z_ h => ⟨h.1, h.2.1, fun e => by cases e⟩), gMi_mono (n1a_Mo_choose l D ct am hJ y α t hM a b c_ hhu1) (fun r y_ h => ⟨h, fun e => by cases e⟩)⟩

set_option maxHeartbeats 4000000 in
theorem p_open (l : Launch) (D : va_G) (ct : Nat → ClassId) (ad am : Nat → Nat) (hI : gw_inj 425 ad) (hJ : gw_inj 8 am) (hls : l.stackTraces = false) {s0 : State} {zt : Nat → Nat} (h0 : tO s0 zt) (hC : tOC s0) (z : lS) (y : mS) (α : tA) (t : Int32) (hR : tR α z.1.1) (hM : mR α t y) (a : Int32) : lPair l D ct ad am s0 mY_La_open mB_La_open 4 [(0, 9, 12, 19), (0, 9, 15, 13)] [.ref (ad 0), .int a, .ref (ad 424)] mY_Mo_open mB_Mo_open 2 (some .int) (rF 1 23) [.ref (am 0), .int a] z y (fun v => v.toInt64) := by
  rcases Classical.em (aHas α a) with hhu | hhu
  · obtain ⟨u, hu, rfl, htu⟩ := hhu
    rcases Nat.lt_or_ge (aB α u) 268435456 with hb | hb
    · skip
      exact ⟨0, tBi (aV α u), α, _, ⟨Nat.le_of_ble_eq_true rfl, Nat.le_of_ble_eq_true rfl, Nat.le_of_ble_eq_true rfl, Nat.le_of_ble_eq_true rfl, Nat.le_of_ble_eq_true rfl⟩, gH_mono (k_La_open l D ct ad hI z (nI u) (k_TG_open l D ct ad (l_inj hI) z.1 α hR hu htu hb)) (fun r z_ h => lp_ok (post := fun x => tR (α) x.1) h), gMi_mono (k_Mo_open l D ct am hJ y α t hM hu htu hb) (fun r y_ h => ⟨h.2, fun _ => h.1⟩)⟩
    · skip
      exact ⟨2, 0, α, _, ⟨Nat.le_of_ble_eq_true rfl, Nat.le_of_ble_eq_true rfl, Nat.le_of_ble_eq_true rfl, Nat.le_of_ble_eq_true rfl, Nat.le_of_ble_eq_true rfl⟩, gH_mono (x2_La_open l D ct ad hI z (nI u) hC (x_TG_open2 l D ct ad (l_inj hI) z.1 hls h0 α hR hu htu hb)) (fun r z_ h => ⟨h.1, h.2.1, fun e => by cases e⟩), gMi_mono (n2_Mo_open l D ct am hJ y α t hM hu htu hb) (fun r y_ h => ⟨h, fun e => by cases e⟩)⟩
  · skip
    exact ⟨1, 0, α, _, ⟨Nat.le_of_ble_eq_true rfl, Nat.le_of_ble_eq_true rfl, Nat.le_of_ble_eq_true rfl, Nat.le_of_ble_eq_true rfl, Nat.le_of_ble_eq_true rfl⟩, gH_mono (x1_La_open l D ct ad hI z a hC (x_TG_open1 l D ct ad (l_inj hI) z.1 hls h0 α hR a hhu)) (fun r z_ h => ⟨h.1, h.2.1, fun e => by cases e⟩), gMi_mono (n1_Mo_open l D ct am hJ y α t hM a hhu) (fun r y_ h => ⟨h, fun e => by cases e⟩)⟩

set_option maxHeartbeats 4000000 in
theorem p_bound (l : Launch) (D : va_G) (ct : Nat → ClassId) (ad am : Nat → Nat) (hI : gw_inj 425 ad) (hJ : gw_inj 8 am) (hls : l.stackTraces = false) {s0 : State} {zt : Nat → Nat} (h0 : tO s0 zt) (hC : tOC s0) (z : lS) (y : mS) (α : tA) (t : Int32) (hR : tR α z.1.1) (hM : mR α t y) (a : Int32) : lPair l D ct ad am s0 mY_La_bound mB_La_bound 4 [(0, 9, 12, 19)] [.ref (ad 0), .int a, .ref (ad 424)] mY_Mo_bound mB_Mo_bound 2 (some .int) (rF 1 23) [.ref (am 0), .int a] z y (fun v => v.toInt64) := by
  rcases Classical.em (aHas α a) with hhu | hhu
  · obtain ⟨u, hu, rfl, htu⟩ := hhu
    exact ⟨0, nI (aB α u), α, _, ⟨Nat.le_of_ble_eq_true rfl, Nat.le_of_ble_eq_true rfl, Nat.le_of_ble_eq_true rfl, Nat.le_of_ble_eq_true rfl, Nat.le_of_ble_eq_true rfl⟩, gH_mono (k_La_bound l D ct ad hI z (nI u) (k_TG_bound l D ct ad (l_inj hI) z.1 α hR hu htu)) (fun r z_ h => lp_ok (post := fun x => tR (α) x.1) h), gMi_mono (k_Mo_bound l D ct am hJ y α t hM hu htu) (fun r y_ h => ⟨h.2, fun _ => h.1⟩)⟩
  · skip
    exact ⟨1, 0, α, _, ⟨Nat.le_of_ble_eq_true rfl, Nat.le_of_ble_eq_true rfl, Nat.le_of_ble_eq_true rfl, Nat.le_of_ble_eq_true rfl, Nat.le_of_ble_eq_true rfl⟩, gH_mono (x1_La_bound l D ct ad hI z a hC (x_TG_bound l D ct ad (l_inj hI) z.1 hls h0 α hR a hhu)) (fun r z_ h => ⟨h.1, h.2.1, fun e => by cases e⟩), gMi_mono (n1_Mo_bound l D ct am hJ y α t hM a hhu) (fun r y_ h => ⟨h, fun e => by cases e⟩)⟩

set_option maxHeartbeats 4000000 in
theorem p_within (l : Launch) (D : va_G) (ct : Nat → ClassId) (ad am : Nat → Nat) (hI : gw_inj 425 ad) (hJ : gw_inj 8 am) (hls : l.stackTraces = false) {s0 : State} {zt : Nat → Nat} (h0 : tO s0 zt) (hC : tOC s0) (z : lS) (y : mS) (α : tA) (t : Int32) (hR : tR α z.1.1) (hM : mR α t y) (a : Int32) : lPair l D ct ad am s0 mY_La_within mB_La_within 4 [(0, 16, 19, 19)] [.ref (ad 0), .int a, .ref (ad 424)] mY_Mo_within mB_Mo_within 2 (some .boolean) (rF 1 23) [.ref (am 0), .int a] z y (fun v => if v = 0 then lN 0 else lN 1) := by
  rcases Classical.em (aHas α a) with hhu | hhu
  · obtain ⟨u, hu, rfl, htu⟩ := hhu
    exact ⟨0, nI 1, α, _, ⟨Nat.le_of_ble_eq_true rfl, Nat.le_of_ble_eq_true rfl, Nat.le_of_ble_eq_true rfl, Nat.le_of_ble_eq_true rfl, Nat.le_of_ble_eq_true rfl⟩, gH_mono (k_La_within l D ct ad hI z (nI u) (k_TG_within l D ct ad (l_inj hI) z.1 α hR hu htu)) (fun r z_ h => lp_ok (post := fun x => tR (α) x.1) h), gMi_mono (k_Mo_within l D ct am hJ y α t hM hu htu) (fun r y_ h => ⟨h.2, fun _ => h.1⟩)⟩
  · skip
    exact ⟨1, 0, α, _, ⟨Nat.le_of_ble_eq_true rfl, Nat.le_of_ble_eq_true rfl, Nat.le_of_ble_eq_true rfl, Nat.le_of_ble_eq_true rfl, Nat.le_of_ble_eq_true rfl⟩, gH_mono (x1_La_within l D ct ad hI z a hC (x_TG_within l D ct ad (l_inj hI) z.1 hls h0 α hR a hhu)) (fun r z_ h => ⟨h.1, h.2.1, fun e => by cases e⟩), gMi_mono (n1_Mo_within l D ct am hJ y α t hM a hhu) (fun r y_ h => ⟨h, fun e => by cases e⟩)⟩

set_option maxHeartbeats 4000000 in
theorem p_line (l : Launch) (D : va_G) (ct : Nat → ClassId) (ad am : Nat → Nat) (hI : gw_inj 425 ad) (hJ : gw_inj 8 am) (hls : l.stackTraces = false) {s0 : State} {zt : Nat → Nat} (h0 : tO s0 zt) (hC : tOC s0) (z : lS) (y : mS) (α : tA) (t : Int32) (hR : tR α z.1.1) (hM : mR α t y) (a b c_ : Int32) : lPair l D ct ad am s0 mY_La_line mB_La_line 6 [(0, 12, 15, 19), (0, 12, 19, 13)] [.ref (ad 0), .int a, .int b, .int c_, .ref (ad 424)] mY_Mo_line mB_Mo_line 4 (some .int) (rF 1 23) [.ref (am 0), .int a, .int b, .int c_] z y (fun v => v.toInt64) := by
  rcases Classical.em (∃ q, q < 8 ∧ a = nI q) with hg | hg
  · obtain ⟨gt, hgt, rfl⟩ := hg
    rcases Classical.em (∃ q, q < 8 + aZ α ∧ b = nI q) with h1 | h1
    · obtain ⟨p1, hp1, rfl⟩ := h1
      rcases Classical.em (∃ q, q < 8 + aZ α ∧ c_ = nI q) with h2 | h2
      · obtain ⟨p2, hp2, rfl⟩ := h2
        rcases (show aZ α < 24 ∨ aZ α = 24 by have := hR.2.2.2.1.1; omega) with hz | hz
        · skip
          exact ⟨0, nI (8 + aZ α), (aLine α (gt, p1, p2)), _, ⟨Nat.le_of_ble_eq_true rfl, Nat.le_of_ble_eq_true rfl, Nat.le_of_ble_eq_true rfl, Nat.le_of_ble_eq_true rfl, Nat.le_of_ble_eq_true rfl⟩, gH_mono (k_La_line l D ct ad hI z (nI gt) (nI p1) (nI p2) (k_TG_line l D ct ad (l_inj hI) z.1 α hR hgt hp1 hp2 hz)) (fun r z_ h => lp_ok (post := fun x => tR (aLine α (gt, p1, p2)) x.1) h), gMi_mono (k_Mo_line l D ct am hJ y α t hM hgt hp1 hp2 hz) (fun r y_ h => ⟨h.2, fun _ => h.1⟩)⟩
        · skip
          exact ⟨2, 0, α, _, ⟨Nat.le_of_ble_eq_true rfl, Nat.le_of_ble_eq_true rfl, Nat.le_of_ble_eq_true rfl, Nat.le_of_ble_eq_true rfl, Nat.le_of_ble_eq_true rfl⟩, gH_mono (x2_La_line l D ct ad hI z (nI gt) (nI p1) (nI p2) hC (x_TG_line4 l D ct ad (l_inj hI) z.1 hls h0 α hR hgt hp1 hp2 hz)) (fun r z_ h => ⟨h.1, h.2.1, fun e => by cases e⟩), gMi_mono (n2_Mo_line l D ct am hJ y α t hM hgt hp1 hp2 hz) (fun r y_ h => ⟨h, fun e => by cases e⟩)⟩
      · skip
        exact ⟨1, 0, α, _, ⟨Nat.le_of_ble_eq_true rfl, Nat.le_of_ble_eq_true rfl, Nat.le_of_ble_eq_true rfl, Nat.le_of_ble_eq_true rfl, Nat.le_of_ble_eq_true rfl⟩, gH_mono (x1_La_line l D ct ad hI z (nI gt) (nI p1) c_ hC (x_TG_line3 l D ct ad (l_inj hI) z.1 hls h0 α hR hgt hp1 c_ h2)) (fun r z_ h => ⟨h.1, h.2.1, fun e => by cases e⟩), gMi_mono (n1c_Mo_line l D ct am hJ y α t hM hgt hp1 c_ h2) (fun r y_ h => ⟨h, fun e => by cases e⟩)⟩
    · skip
      exact ⟨1, 0, α, _, ⟨Nat.le_of_ble_eq_true rfl, Nat.le_of_ble_eq_true rfl, Nat.le_of_ble_eq_true rfl, Nat.le_of_ble_eq_true rfl, Nat.le_of_ble_eq_true rfl⟩, gH_mono (x1_La_line l D ct ad hI z (nI gt) b c_ hC (x_TG_line2 l D ct ad (l_inj hI) z.1 hls h0 α hR hgt b c_ h1)) (fun r z_ h => ⟨h.1, h.2.1, fun e => by cases e⟩), gMi_mono (n1b_Mo_line l D ct am hJ y α t hM hgt b c_ h1) (fun r y_ h => ⟨h, fun e => by cases e⟩)⟩
  · skip
    exact ⟨1, 0, α, _, ⟨Nat.le_of_ble_eq_true rfl, Nat.le_of_ble_eq_true rfl, Nat.le_of_ble_eq_true rfl, Nat.le_of_ble_eq_true rfl, Nat.le_of_ble_eq_true rfl⟩, gH_mono (x1_La_line l D ct ad hI z a b c_ hC (x_TG_line1 l D ct ad (l_inj hI) z.1 hls h0 α hR a b c_ hg)) (fun r z_ h => ⟨h.1, h.2.1, fun e => by cases e⟩), gMi_mono (n1a_Mo_line l D ct am hJ y α t hM a b c_ hg) (fun r y_ h => ⟨h, fun e => by cases e⟩)⟩

set_option maxHeartbeats 4000000 in
theorem p_play (l : Launch) (D : va_G) (ct : Nat → ClassId) (ad am : Nat → Nat) (hI : gw_inj 425 ad) (hJ : gw_inj 8 am) (hls : l.stackTraces = false) {s0 : State} {zt : Nat → Nat} (h0 : tO s0 zt) (hC : tOC s0) (z : lS) (y : mS) (α : tA) (t : Int32) (hR : tR α z.1.1) (hM : mR α t y) (a b : Int32) : lPair l D ct ad am s0 mY_La_play mB_La_play 5 [(0, 10, 13, 19), (0, 10, 17, 28), (0, 10, 21, 13)] [.ref (ad 0), .int a, .int b, .ref (ad 424)] mY_Mo_play mB_Mo_play 4 (some .int) (rF 1 23) [.ref (am 0), .int a, .int b] z y (fun v => v.toInt64) := by
  rcases Classical.em (∃ q, 8 ≤ q ∧ q < 8 + aZ α ∧ a = nI q) with h1 | h1
  · obtain ⟨p1, hp8, hp1, rfl⟩ := h1
    obtain ⟨i0, rfl⟩ : ∃ i0, p1 = 8 + i0 := ⟨p1 - 8, by omega⟩
    have hi0 : i0 < aZ α := by omega
    rcases Classical.em (∃ q, q ≤ 255 ∧ b = nI q) with h2 | h2
    · obtain ⟨n, hn, rfl⟩ := h2
      rcases aFree_or α with ⟨q, hf⟩ | hf
      · skip
        exact ⟨0, nI q, (aGates (aMade α q (aPl α n (i0 + 1) (8 + i0)) 3186688) (aG α + nI (i0 + 1))), _, ⟨Nat.le_of_ble_eq_true rfl, Nat.le_of_ble_eq_true rfl, Nat.le_of_ble_eq_true rfl, Nat.le_of_ble_eq_true rfl, Nat.le_of_ble_eq_true rfl⟩, gH_mono (k_La_play l D ct ad hI z (nI (8 + i0)) (nI n) (k_TG_play l D ct ad (l_inj hI) z.1 h0 α hR hi0 hn hf)) (fun r z_ h => lp_ok (post := fun x => tR (aGates (aMade α q (aPl α n (i0 + 1) (8 + i0)) 3186688) (aG α + nI (i0 + 1))) x.1) h), gMi_mono (k_Mo_play l D ct am hJ y α t hM hi0 hn hf) (fun r y_ h => ⟨h.2, fun _ => h.1⟩)⟩
      · skip
        exact ⟨3, 0, α, _, ⟨Nat.le_of_ble_eq_true rfl, Nat.le_of_ble_eq_true rfl, Nat.le_of_ble_eq_true rfl, Nat.le_of_ble_eq_true rfl, Nat.le_of_ble_eq_true rfl⟩, gH_mono (x3_La_play l D ct ad hI z (nI (8 + i0)) (nI n) hC (x_TG_play3 l D ct ad (l_inj hI) z.1 hls h0 α hR hi0 hn hf)) (fun r z_ h => ⟨h.1, h.2.1, fun e => by cases e⟩), gMi_mono (n3_Mo_play l D ct am hJ y α t hM hi0 hn hf) (fun r y_ h => ⟨h, fun e => by cases e⟩)⟩
    · skip
      exact ⟨2, 0, α, _, ⟨Nat.le_of_ble_eq_true rfl, Nat.le_of_ble_eq_true rfl, Nat.le_of_ble_eq_true rfl, Nat.le_of_ble_eq_true rfl, Nat.le_of_ble_eq_true rfl⟩, gH_mono (x2_La_play l D ct ad hI z (nI (8 + i0)) b hC (x_TG_play2 l D ct ad (l_inj hI) z.1 hls h0 α hR hi0 b h2)) (fun r z_ h => ⟨h.1, h.2.1, fun e => by cases e⟩), gMi_mono (n2_Mo_play l D ct am hJ y α t hM hi0 b h2) (fun r y_ h => ⟨h, fun e => by cases e⟩)⟩
  · skip
    exact ⟨1, 0, α, _, ⟨Nat.le_of_ble_eq_true rfl, Nat.le_of_ble_eq_true rfl, Nat.le_of_ble_eq_true rfl, Nat.le_of_ble_eq_true rfl, Nat.le_of_ble_eq_true rfl⟩, gH_mono (x1_La_play l D ct ad hI z a b hC (x_TG_play1 l D ct ad (l_inj hI) z.1 hls h0 α hR a b h1)) (fun r z_ h => ⟨h.1, h.2.1, fun e => by cases e⟩), gMi_mono (n1_Mo_play l D ct am hJ y α t hM a b h1) (fun r y_ h => ⟨h, fun e => by cases e⟩)⟩

set_option maxHeartbeats 4000000 in
theorem p_count (l : Launch) (D : va_G) (ct : Nat → ClassId) (ad am : Nat → Nat) (hI : gw_inj 425 ad) (hJ : gw_inj 8 am) (hls : l.stackTraces = false) {s0 : State} {zt : Nat → Nat} (h0 : tO s0 zt) (hC : tOC s0) (z : lS) (y : mS) (α : tA) (t : Int32) (hR : tR α z.1.1) (hM : mR α t y) (a : Int32) : lPair l D ct ad am s0 mY_La_count mB_La_count 4 [(0, 9, 12, 28)] [.ref (ad 0), .int a, .ref (ad 424)] mY_Mo_count mB_Mo_count 4 (some .int) (rF 1 23) [.ref (am 0), .int a] z y (fun v => v.toInt64) := by
  rcases Classical.em (∃ w, w < 5 ∧ a = nI w) with h1 | h1
  · obtain ⟨w, hw, rfl⟩ := h1
    exact ⟨0, aCount α w, α, _, ⟨Nat.le_of_ble_eq_true rfl, Nat.le_of_ble_eq_true rfl, Nat.le_of_ble_eq_true rfl, Nat.le_of_ble_eq_true rfl, Nat.le_of_ble_eq_true rfl⟩, gH_mono (k_La_count l D ct ad hI z (nI w) (k_TG_count l D ct ad (l_inj hI) z.1 α hR hw)) (fun r z_ h => lp_ok (post := fun x => tR (α) x.1) h), gMi_mono (k_Mo_count l D ct am hJ y α t hM hw) (fun r y_ h => ⟨h.2, fun _ => h.1⟩)⟩
  · skip
    exact ⟨1, 0, α, _, ⟨Nat.le_of_ble_eq_true rfl, Nat.le_of_ble_eq_true rfl, Nat.le_of_ble_eq_true rfl, Nat.le_of_ble_eq_true rfl, Nat.le_of_ble_eq_true rfl⟩, gH_mono (x1_La_count l D ct ad hI z a hC (x_TG_count l D ct ad (l_inj hI) z.1 hls h0 α hR a h1)) (fun r z_ h => ⟨h.1, h.2.1, fun e => by cases e⟩), gMi_mono (n1_Mo_count l D ct am hJ y α t hM a h1) (fun r y_ h => ⟨h, fun e => by cases e⟩)⟩
