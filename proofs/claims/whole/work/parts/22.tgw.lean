/-! the world of a TorusGates object: 424 places. ct: the array classes (0 int[], 1 Cell[], 2 int[][], 3 boolean[], 4 long[]). My own. -/
def tT (ct : Nat → ClassId) : List (ClassId × FieldType) := [(ct 0, .int), (ct 1, .object cN_Ce), (ct 2, .array .int), (ct 3, .boolean), (ct 4, .long)]
abbrev tI (ct : Nat → ClassId) (n : Nat) (f : Nat → Int32) : va_E := .inl (ct 0, n, .inl f)
abbrev tQ (c : ClassId) (n : Nat) (f : Nat → Option Nat) : va_E := .inl (c, n, .inr (.inr (.inr (.inr f))))
abbrev tCell (ad : Nat → Nat) (f : Nat → Int32) (k : Nat) : va_E := .inr (0, [.ref (ad (k + 1)), .int (f 1), .int (f 2), .int (f 3)])
def tE (ct : Nat → ClassId) (ad : Nat → Nat) (so : Int64) (f : Nat → Int32) (k : Nat) : va_E :=
  if k = 0 then .inr (7, [.ref (ad 1), .ref (ad 2), .ref (ad 5), .ref (ad 106), .ref (ad 108), .ref (ad 350), .ref (ad 354), .ref (ad 419), .ref (ad 421), .ref (ad 423), .int (f 10), .int (f 11)])
  else if k = 1 then .inr (5, [.long so])
  else if k = 2 then .inr (4, [.ref (ad 3), .ref (ad 4)])
  else if k = 3 then tI ct 8 f
  else if k = 4 then tI ct 32 f
  else if k = 5 then .inr (3, [.ref (ad 6), .ref (ad 39), .ref (ad 104), .ref (ad 105)])
  else if k = 6 then tQ (ct 2) 32 (fun i => some (ad (7 + i)))
  else if k < 39 then tI ct 64 f
  else if k = 39 then tQ (ct 2) 64 (fun i => some (ad (40 + i)))
  else if k < 104 then tI ct 9 f
  else if k < 106 then tI ct 64 f
  else if k = 106 then .inr (6, [.ref (ad 5), .ref (ad 107)])
  else if k = 107 then tI ct 9 f
  else if k = 108 then .inr (2, [.ref (ad 109), .int (f 1)])
  else if k = 109 then tQ (ct 1) 120 (fun i => some (ad (110 + 2 * i)))
  else if k < 350 then (if k % 2 = 0 then tCell ad f k else tI ct 9 f)
  else if k = 350 then .inr (1, [.ref (ad 351), .ref (ad 352), .ref (ad 353), .int (f 3)])
  else if k < 354 then tI ct 24 f
  else if k = 354 then tQ (ct 1) 32 (fun i => some (ad (355 + 2 * i)))
  else if k < 423 then (if k % 2 = 1 then tCell ad f k else tI ct 9 f)
  else tI ct 9 f
/-- places of a row, of a cell, of a pair of ring elements -/
def tRow (k : Nat) : Prop := (40 ≤ k ∧ k < 104) ∨ k = 107 ∨ (110 ≤ k ∧ k < 350 ∧ k % 2 = 1) ∨ (355 ≤ k ∧ k < 424 ∧ (k % 2 = 0 ∨ k = 423))
def tCe (k : Nat) : Prop := (110 ≤ k ∧ k < 350 ∧ k % 2 = 0) ∨ (355 ≤ k ∧ k < 423 ∧ k % 2 = 1)
def tPair (k : Nat) : Prop := (7 ≤ k ∧ k < 39) ∨ k = 104 ∨ k = 105
theorem tCe_row {k : Nat} (h : tCe k) : tRow (k + 1) := by unfold tCe at h; unfold tRow; omega
theorem tRow_lt {k : Nat} (h : tRow k) : k < 424 := by unfold tRow at h; omega
theorem tCe_lt {k : Nat} (h : tCe k) : k < 424 := by unfold tCe at h; omega
theorem tPair_lt {k : Nat} (h : tPair k) : k < 424 := by unfold tPair at h; omega
theorem tCe_led {c : Nat} (h : c < 120) : tCe (110 + 2 * c) := by unfold tCe; omega
theorem tCe_pl {c : Nat} (h : c < 32) : tCe (355 + 2 * c) := by unfold tCe; omega
theorem tE_row {ct : Nat → ClassId} {ad : Nat → Nat} {so : Int64} {f : Nat → Int32} {k : Nat} (h : tRow k) : tE ct ad so f k = tI ct 9 f := by
  unfold tRow at h
  unfold tE
  by_cases h1 : k < 104
  · rw [if_neg (by omega), if_neg (by omega), if_neg (by omega), if_neg (by omega), if_neg (by omega), if_neg (by omega), if_neg (by omega), if_neg (by omega), if_neg (by omega), if_pos h1]
  · rw [if_neg (by omega), if_neg (by omega), if_neg (by omega), if_neg (by omega), if_neg (by omega), if_neg (by omega), if_neg (by omega), if_neg (by omega), if_neg (by omega), if_neg h1, if_neg (by omega), if_neg (by omega)]
    by_cases h2 : k = 107
    · rw [if_pos h2]
    · rw [if_neg h2, if_neg (by omega), if_neg (by omega)]
      by_cases h3 : k < 350
      · rw [if_pos h3, if_neg (by omega)]
      · rw [if_neg h3, if_neg (by omega), if_neg (by omega), if_neg (by omega)]
        by_cases h4 : k < 423
        · rw [if_pos h4, if_neg (by omega)]
        · rw [if_neg h4]
theorem tE_cell {ct : Nat → ClassId} {ad : Nat → Nat} {so : Int64} {f : Nat → Int32} {k : Nat} (h : tCe k) : tE ct ad so f k = tCell ad f k := by
  unfold tCe at h
  unfold tE
  rw [if_neg (by omega), if_neg (by omega), if_neg (by omega), if_neg (by omega), if_neg (by omega), if_neg (by omega), if_neg (by omega), if_neg (by omega), if_neg (by omega), if_neg (by omega), if_neg (by omega), if_neg (by omega), if_neg (by omega), if_neg (by omega), if_neg (by omega)]
  by_cases h3 : k < 350
  · rw [if_pos h3, if_pos (by omega)]
  · rw [if_neg h3, if_neg (by omega), if_neg (by omega), if_neg (by omega), if_pos (by omega), if_pos (by omega)]
theorem tE_pair {ct : Nat → ClassId} {ad : Nat → Nat} {so : Int64} {f : Nat → Int32} {k : Nat} (h : tPair k) : tE ct ad so f k = tI ct 64 f := by
  unfold tPair at h
  unfold tE
  rw [if_neg (by omega), if_neg (by omega), if_neg (by omega), if_neg (by omega), if_neg (by omega), if_neg (by omega), if_neg (by omega)]
  by_cases h3 : k < 39
  · rw [if_pos h3]
  · rw [if_neg h3, if_neg (by omega), if_neg (by omega), if_pos (by omega)]
/-- a state of the object: its numbers by place, and the source's state -/
abbrev tS : Type := (Nat → Nat → Int32) × Int64
def tD (ct : Nat → ClassId) (ad : Nat → Nat) (x : tS) (k : Nat) : va_E := tE ct ad x.2 (x.1 k) k
/-- one place's numbers anew -/
def tU (x : tS) (k : Nat) (f : Nat → Int32) : tS := (va_up x.1 k f, x.2)
theorem tU_1 {x : tS} {k : Nat} {f : Nat → Int32} : (tU x k f).1 k = f := va_up_self _ _ _
theorem tU_n {x : tS} {k j : Nat} {f : Nat → Int32} (h : j ≠ k) : (tU x k f).1 j = x.1 j := va_up_ne _ _ h
theorem tU_2 {x : tS} {k : Nat} {f : Nat → Int32} : (tU x k f).2 = x.2 := rfl
theorem tD_up {ct : Nat → ClassId} {ad : Nat → Nat} {x : tS} {k : Nat} {f : Nat → Int32} : va_up (tD ct ad x) k (tE ct ad x.2 f k) = tD ct ad (tU x k f) := by
  funext j
  by_cases h : j = k
  · subst h
    rw [va_up_self]
    unfold tD
    rw [tU_1, tU_2]
  · rw [va_up_ne _ _ h]
    unfold tD
    rw [tU_n h, tU_2]
theorem tD_so {ct : Nat → ClassId} {ad : Nat → Nat} {x : tS} {z : Int64} : va_up (tD ct ad x) 1 (.inr (5, [.long z])) = tD ct ad (x.1, z) := by
  funext j
  by_cases h : j = 1
  · subst h
    rw [va_up_self]
    rfl
  · rw [va_up_ne _ _ h]
    unfold tD tE
    simp only [if_neg h]
section TGR
variable {p : Program} {l : Launch} {e : Env} {R : Room} {s : State} {m : MethodId} {args : Array Value} {below : List Frame} {meth : Method} {c : Code} {H : Heap} {locs : List Loc} {cells slots : Nat} {Q : State → Prop}
variable {cc : ByteArray} {pc : Nat} {ls : Array Slot} {rest : List Value} {D : va_G} {ct : Nat → ClassId} {ad : Nat → Nat} {x : tS} {A : Nat → Prop} {H0 : Heap}
/-- a reference field, a number field -/
theorem t_get (hx : p.tables.exec = Jvm.exec) (hb : c.code = cc) {own C : String} {T : u_T} {N ci index : Nat} (htw : ∀ w ∈ wW, w.before args s = true) (hin : ∀ w ∈ u_ws C T N, w ∈ wW) (hown : s.vm.findClass own = some m.cls) (hK : va_K D cL (tT ct) s) (hP : va_P D cL (gw 424 ad (tD ct ad x)) H) (k0 : Nat) (h0 : k0 < 424) {fs : List Value} (he : tE ct ad x.2 (x.1 k0) k0 = .inr (ci, fs)) (hc : cL[ci]? = some (C, T, N)) (k : Nat) (hk : k < N) (hT : (T k).1 = C) (hlink : Cond.fieldLink own index C (T k).2.1 (T k).2.2.1 ∈ wW) {v : Value} (hv : fs[k]? = some v) (hdg : decode cc pc = .ok (.getfield index, 3))
    (kk : W p l e R s m args below meth c H locs cells slots Q (F0 m (pc + 3) ls (v :: rest))) : W p l e R s m args below meth c H locs cells slots Q (F0 m pc ls (.ref (ad k0) :: rest)) :=
  gw_get hx hb htw hin hown hK hP k0 h0 he hc k hk (htw _ hlink) (fun _ h => by rw [hT] at h; exact h) hv hdg kk
theorem t_put (hx : p.tables.exec = Jvm.exec) (hb : c.code = cc) {own C : String} {T : u_T} {N ci index : Nat} (htw : ∀ w ∈ wW, w.before args s = true) (hin : ∀ w ∈ u_ws C T N, w ∈ wW) (ty0 : Nat → FieldType) (hty : ∀ k, k < N → parseFieldDescriptor (T k).2.2.1 = some (ty0 k)) (hnm : ∀ a, a < N → ∀ b, b < N → a ≠ b → (T a).2.1 ≠ (T b).2.1) (hown : s.vm.findClass own = some m.cls) (hK : va_K D cL (tT ct) s) (hI : gw_inj 424 ad) (hA : ∀ k, k < 424 → A (ad k)) (hP : va_P D cL (gw 424 ad (tD ct ad x)) H) (hS : va_S A H0 H locs) (k0 : Nat) (h0 : k0 < 424) {fs : List Value} (he : tE ct ad x.2 (x.1 k0) k0 = .inr (ci, fs)) (hc : cL[ci]? = some (C, T, N)) (k : Nat) (hk : k < N) (hT : (T k).1 = C) (hlink : Cond.fieldLink own index C (T k).2.1 (T k).2.2.1 ∈ wW) (hfin : (T k).2.2.2 = false) {v : Int32} (hn : narrow (ty0 k) (.int v) = .int v) (hfit : fits (ty0 k) (.int v) = true) (hl : k < fs.length) (he' : .inr (ci, fs.set k (.int v)) = tE ct ad x.2 (upd (x.1 k0) k v) k0)
    (hdg : decode cc pc = .ok (.putfield index, 3)) (kk : ∀ (H1 : Heap) (locs1 : List Loc), va_P D cL (gw 424 ad (tD ct ad (tU x k0 (upd (x.1 k0) k v)))) H1 → va_S A H0 H1 locs1 → W p l e R s m args below meth c H1 locs1 cells slots Q (F0 m (pc + 3) ls rest)) : W p l e R s m args below meth c H locs cells slots Q (F0 m pc ls (.int v :: .ref (ad k0) :: rest)) :=
  gw_put hx hb htw hin ty0 hty hnm hown hK hI hA hP hS k0 h0 he hc k hk (htw _ hlink) (fun _ h => by rw [hT] at h; exact h) hfin (hty k hk) hn hfit hl hdg (fun H1 locs1 h1 h2 => kk H1 locs1 (by rw [he', tD_up] at h1; exact h1) h2)
/-- the source's state is written -/
theorem t_putL (hx : p.tables.exec = Jvm.exec) (hb : c.code = cc) {index : Nat} (htw : ∀ w ∈ wW, w.before args s = true) (hown : s.vm.findClass cN_So = some m.cls) (hK : va_K D cL (tT ct) s) (hI : gw_inj 424 ad) (hA : ∀ k, k < 424 → A (ad k)) (hP : va_P D cL (gw 424 ad (tD ct ad x)) H) (hS : va_S A H0 H locs) (hlink : Cond.fieldLink cN_So index cN_So "state" "J" ∈ wW) {v : Int64}
    (hdg : decode cc pc = .ok (.putfield index, 3)) (kk : ∀ (H1 : Heap) (locs1 : List Loc), va_P D cL (gw 424 ad (tD ct ad (x.1, v))) H1 → va_S A H0 H1 locs1 → W p l e R s m args below meth c H1 locs1 cells slots Q (F0 m (pc + 3) ls rest)) : W p l e R s m args below meth c H locs cells slots Q (F0 m pc ls (.long v :: .ref (ad 1) :: rest)) :=
  gw_put (C := cN_So) (T := cF_So) (N := 1) (ci := 5) (fs := [.long x.2]) hx hb htw wU_So cT_So cO_So cM_So hown hK hI hA hP hS 1 (by decide) rfl rfl 0 (by decide) (htw _ hlink) (fun _ h => h) rfl (cO_So 0 (by decide)) rfl rfl Nat.zero_lt_one hdg (fun H1 locs1 h1 h2 => kk H1 locs1 (by rw [← tD_so]; exact h1) h2)
theorem t_iald (hx : p.tables.exec = Jvm.exec) (hb : c.code = cc) (hK : va_K D cL (tT ct) s) (hP : va_P D cL (gw 424 ad (tD ct ad x)) H) (k0 N : Nat) (h0 : k0 < 424) (he : tE ct ad x.2 (x.1 k0) k0 = tI ct N (x.1 k0)) {i : Int32} (j : Nat) (hi : i = nI j) (hj : j < N) (hN : N < 2 ^ 31) (hdg : decode cc pc = .ok (.iaload, 1))
    (kk : W p l e R s m args below meth c H locs cells slots Q (F0 m (pc + 1) ls (.int (x.1 k0 j) :: rest))) : W p l e R s m args below meth c H locs cells slots Q (F0 m pc ls (.int i :: .ref (ad k0) :: rest)) :=
  gw_iald hx hb hK hP k0 0 h0 he rfl j hi hj hN hdg kk
theorem t_iast (hx : p.tables.exec = Jvm.exec) (hb : c.code = cc) (hK : va_K D cL (tT ct) s) (hI : gw_inj 424 ad) (hA : ∀ k, k < 424 → A (ad k)) (hP : va_P D cL (gw 424 ad (tD ct ad x)) H) (hS : va_S A H0 H locs) (k0 N : Nat) (h0 : k0 < 424) (he : ∀ f, tE ct ad x.2 f k0 = tI ct N f) {i v : Int32} (j : Nat) (hi : i = nI j) (hj : j < N) (hN : N < 2 ^ 31) (hdg : decode cc pc = .ok (.iastore, 1))
    (kk : ∀ (H1 : Heap) (locs1 : List Loc), va_P D cL (gw 424 ad (tD ct ad (tU x k0 (upd (x.1 k0) j v)))) H1 → va_S A H0 H1 locs1 → W p l e R s m args below meth c H1 locs1 cells slots Q (F0 m (pc + 1) ls rest)) : W p l e R s m args below meth c H locs cells slots Q (F0 m pc ls (.int v :: .int i :: .ref (ad k0) :: rest)) :=
  gw_iast hx hb hK hI hA hP hS k0 0 h0 (he _) rfl j hi hj hN hdg (fun H1 locs1 h1 h2 => kk H1 locs1 (by rw [← tD_up, he]; exact h1) h2)
/-- Cell[] -/
theorem t_aldq (hx : p.tables.exec = Jvm.exec) (hb : c.code = cc) (hK : va_K D cL (tT ct) s) (hP : va_P D cL (gw 424 ad (tD ct ad x)) H) (k0 N : Nat) (h0 : k0 < 424) {g : Nat → Option Nat} (he : tE ct ad x.2 (x.1 k0) k0 = tQ (ct 1) N g) {i : Int32} (j : Nat) {q : Nat} (hi : i = nI j) (hj : j < N) (hN : N < 2 ^ 31) (hq : g j = some q) (hdg : decode cc pc = .ok (.aaload, 1))
    (kk : W p l e R s m args below meth c H locs cells slots Q (F0 m (pc + 1) ls (.ref q :: rest))) : W p l e R s m args below meth c H locs cells slots Q (F0 m pc ls (.int i :: .ref (ad k0) :: rest)) :=
  gw_aldq hx hb hK hP k0 1 h0 he rfl j hi hj hN hq hdg kk
/-- int[][] -/
theorem t_alda (hx : p.tables.exec = Jvm.exec) (hb : c.code = cc) (hK : va_K D cL (tT ct) s) (hP : va_P D cL (gw 424 ad (tD ct ad x)) H) (k0 N : Nat) (h0 : k0 < 424) {g : Nat → Option Nat} (he : tE ct ad x.2 (x.1 k0) k0 = tQ (ct 2) N g) {i : Int32} (j : Nat) {q : Nat} (hi : i = nI j) (hj : j < N) (hN : N < 2 ^ 31) (hq : g j = some q) (hdg : decode cc pc = .ok (.aaload, 1))
    (kk : W p l e R s m args below meth c H locs cells slots Q (F0 m (pc + 1) ls (.ref q :: rest))) : W p l e R s m args below meth c H locs cells slots Q (F0 m pc ls (.int i :: .ref (ad k0) :: rest)) := by
  subst hi
  have hin : vp_in (nI j) N := vp_in_nI hj hN
  refine W.aald hx hb (hP k0 _ (gw_at' h0 he)) ((hK.2 2 _ rfl).1 N (fun j => va_rf (g j))) rfl (fun q => by cases q) (by show ¬ (nI j < 0 ∨ (arrV _ _ _).slots.size ≤ _); rw [arrV_size]; exact hin) (v := .ref q) ?_ rfl rfl hdg kk
  show (arrV _ _ _).slots[_]? = _
  rw [nI_clamp (by omega), arrV_read _ _ hj, hq]
  rfl
end TGR
