/-! the classes and the arrays' classes as the law begins. Laid by wip/whole/part_known.py. -/
theorem b_K {s : State} {b : Nat} (htw : ∀ w ∈ wW, w.before #[Value.ref b] s = true) (hAA : tOA s) (hAC : tOAC s) : ∃ (D : va_G) (ct : Nat → ClassId), va_K D cL (tT ct) s := by
  obtain ⟨c0, i0, h0⟩ := u_known htw wU_Ce (htw _ ww_117)
  obtain ⟨c1, i1, h1⟩ := u_known htw wU_Ci (htw _ ww_149)
  obtain ⟨c2, i2, h2⟩ := u_known htw wU_Le (htw _ ww_110)
  obtain ⟨c3, i3, h3⟩ := u_known htw wU_Re (htw _ ww_76)
  obtain ⟨c4, i4, h4⟩ := u_known htw wU_Se (htw _ ww_60)
  obtain ⟨c5, i5, h5⟩ := u_known htw wU_So (htw _ ww_50)
  obtain ⟨c6, i6, h6⟩ := u_known htw wU_Wo (htw _ ww_97)
  obtain ⟨c7, i7, h7⟩ := u_known htw wU_TG (htw _ ww_42)
  obtain ⟨c8, i8, h8⟩ := u_known htw wU_Mo (htw _ ww_635)
  obtain ⟨a0, q0, o0, f0, g0, k0⟩ := Cond.arrayClass_spec (htw _ ww_74)
  obtain ⟨a3, q3, o3, f3, g3, k3⟩ := Cond.arrayClass_spec (htw _ ww_674)
  obtain ⟨a4, q4, o4, f4, g4, k4⟩ := Cond.arrayClass_spec (htw _ ww_781)
  obtain ⟨o1, a1, q1, d1, -, g1, k1, f1⟩ := Cond.arrayOver_spec hAC
  obtain ⟨o2, a2, q2, d2, g2, k2, f2⟩ := Cond.arrayOver_specA hAA
  refine ⟨(fun k => [c0, c1, c2, c3, c4, c5, c6, c7, c8].getD k c0, fun k => [i0, i1, i2, i3, i4, i5, i6, i7, i8].getD k i0), fun k => [a0, a1, a2, a3, a4].getD k a0, fun k q hq => ?_, fun k q hq => ?_⟩
  · have hk : k < 9 := (List.getElem?_eq_some_iff.mp hq).1
    rcases (by omega : k = 0 ∨ k = 1 ∨ k = 2 ∨ k = 3 ∨ k = 4 ∨ k = 5 ∨ k = 6 ∨ k = 7 ∨ k = 8) with rfl | rfl | rfl | rfl | rfl | rfl | rfl | rfl | rfl
    · cases (Option.some.inj (show some ((cN_Ce, cF_Ce, 4) : vw_C) = some q from hq))
      exact h0
    · cases (Option.some.inj (show some ((cN_Ci, cF_Ci, 4) : vw_C) = some q from hq))
      exact h1
    · cases (Option.some.inj (show some ((cN_Le, cF_Le, 2) : vw_C) = some q from hq))
      exact h2
    · cases (Option.some.inj (show some ((cN_Re, cF_Re, 4) : vw_C) = some q from hq))
      exact h3
    · cases (Option.some.inj (show some ((cN_Se, cF_Se, 2) : vw_C) = some q from hq))
      exact h4
    · cases (Option.some.inj (show some ((cN_So, cF_So, 1) : vw_C) = some q from hq))
      exact h5
    · cases (Option.some.inj (show some ((cN_Wo, cF_Wo, 2) : vw_C) = some q from hq))
      exact h6
    · cases (Option.some.inj (show some ((cN_TG, cF_TG, 12) : vw_C) = some q from hq))
      exact h7
    · cases (Option.some.inj (show some ((cN_Mo, cF_Mo, 11) : vw_C) = some q from hq))
      exact h8
  · have hk : k < 5 := (List.getElem?_eq_some_iff.mp hq).1
    rcases (by omega : k = 0 ∨ k = 1 ∨ k = 2 ∨ k = 3 ∨ k = 4) with rfl | rfl | rfl | rfl | rfl
    · cases (Option.some.inj (show some ((a0, .int) : ClassId × FieldType) = some q from hq))
      exact ⟨fun n z => ⟨fun k h => (by cases h), q0, g0, o0, k0⟩, f0⟩
    · cases (Option.some.inj (show some ((a1, .object cN_Ce) : ClassId × FieldType) = some q from hq))
      exact ⟨fun n z => ⟨fun k h => (by cases h), q1, g1, o1, k1⟩, ⟨q1, o1, g1, k1, d1, f1⟩⟩
    · cases (Option.some.inj (show some ((a2, .array .int) : ClassId × FieldType) = some q from hq))
      exact ⟨fun n z => ⟨fun k h => (by cases h), q2, g2, o2, k2⟩, f2⟩
    · cases (Option.some.inj (show some ((a3, .boolean) : ClassId × FieldType) = some q from hq))
      exact ⟨fun n z => ⟨fun k h => (by cases h), q3, g3, o3, k3⟩, f3⟩
    · cases (Option.some.inj (show some ((a4, .long) : ClassId × FieldType) = some q from hq))
      exact ⟨fun n z => ⟨fun k h => (by cases h), q4, g4, o4, k4⟩, f4⟩
